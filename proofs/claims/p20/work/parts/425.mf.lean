abbrev vsX12_lamp : List Cond := Cond.code yX12_lamp cX12_lamp 8 (some .int) :: WS
abbrev rmX12_lamp : Room := { frames := 7, cells := 0, slots := 0, locals := 167 }
set_option maxHeartbeats 4000000 in
set_option maxRecDepth 100000 in
theorem k_X12_lamp (l : Launch) (D : va_G) (C : Nat → ClassId) (sz : Nat) (aM : Nat → Nat)  (ms : Nat → Int32) (mw : Nat → Int64) (ma : Nat → Nat → Int32) (ml : Nat → Nat → Int64) (p1 : Int32) {post : Int32 → (Nat → Int32) → (Nat → Nat → Int32) → (Nat → Nat → Int64) → Prop} (h : P_X12_lamp ms ma ml p1 post) : Met l yX12_lamp vsX12_lamp rmX12_lamp (cPre D C [.ref (aM 0), .int p1] sz (wM aM C ms mw ma ml)) (cQi D (fun (r : Int32) (u : (Nat → Int32) × (Nat → Nat → Int32) × (Nat → Nat → Int64)) => post r u.1 u.2.1 u.2.2) (fun u => wM aM C u.1 mw u.2.1 u.2.2) (va_A (List.flatten (wM aM C ms mw ma ml)) sz)) 0 0 (va_A (List.flatten (wM aM C ms mw ma ml)) sz) := by
  refine cStart (QA := fun A => cQi D (fun (r : Int32) (u : (Nat → Int32) × (Nat → Nat → Int32) × (Nat → Nat → Int64)) => post r u.1 u.2.1 u.2.2) (fun u => wM aM C u.1 mw u.2.1 u.2.2) A) (cc := cX12_lamp) (maxL := 8) (ret := (some .int)) (by decide) (Nat.le_of_ble_eq_true rfl) ?_
  intro p e s m args below meth c A ls hx hb hr hml hown hw hlocks hname hK hN hA hP hD hS hl
  generalize hQ : MQ below _ args s 0 0 A = Q
  have hl : lv_has ls 8 [(0, .ref (aM 0)), (1, .int p1)] := hl
  obtain ⟨H, hH⟩ : ∃ H, H = s.heap := ⟨_, rfl⟩
  obtain ⟨locs, hlo⟩ : ∃ z : List Loc, z = [] := ⟨_, rfl⟩
  have hP : va_P D vwCl (List.flatten (wM aM C ms mw ma ml)) H := by rw [hH]; exact hP
  have hS : va_S A s.heap H locs := by rw [hH, hlo]; exact hS
  rw [show W p l e rmX12_lamp s m args below meth c s.heap [] 0 0 Q (F0 m 0 ls []) = W p l e rmX12_lamp s m args below meth c H locs 0 0 Q (F0 m 0 ls []) from by rw [hH, hlo]]
  have N29 : ∀  (n29 : Nat) (x2_ : Int32) (x3_ : Int64) (x5_ : Int32) (ms : Nat → Int32) (ma : Nat → Nat → Int32) (ml : Nat → Nat → Int64) (H : Heap) (locs : List Loc) (ls : Array Slot), P_X12_lamp_29 p1 post   n29 x2_ x3_ x5_ ms ma ml → va_P D vwCl (List.flatten (wM aM C ms mw ma ml)) H → va_D A (List.flatten (wM aM C ms mw ma ml)) → va_S A s.heap H locs → lv_has ls 8 [(0, .ref (aM 0)), (1, .int p1), (2, .int x2_), (3, .long x3_), (5, .int x5_)] → W p l e rmX12_lamp s m args below meth c H locs 0 0 Q (F0 m 29 ls []) := by
    intro n29
    induction n29 with
    | zero => intro x2_ x3_ x5_ ms ma ml H locs ls h hP hD hS hl; exact False.elim h
    | succ n29 ih29 =>
      intro x2_ x3_ x5_ ms ma ml H locs ls h hP hD hS hl
      refine lv_iload hx hb dX12_lamp_29 (lv_at hl 4 rfl) ?_
      refine lv_aload_n hx hb dX12_lamp_31 rfl (lv_at hl 0 rfl) ?_
      refine va_get (D := D) (ci := 12) (v := .ref (aM 7)) (C := RX12) (T := TX12) (N := 51) hx hb hw inW_X12 hown hK hP 0 rfl rfl 17 (by decide) (hw _ mw_6_60) (fun _ h9 => h9) rfl dX12_lamp_32 ?_
      refine lv_iconst (v := 0) hx hb dX12_lamp_35 (by decide) ?_
      refine cIald hx hb hK hP 7 0 rfl rfl 0 (by decide +kernel) (cIn (by decide +kernel)) dX12_lamp_36 ?_
      refine lv_icmp_ge (tgt := 76) hx hb dX12_lamp_37 (by decide) (fun c1 => ?_) (fun c1 => ?_)
      · have h := h.1 c1
        refine lv_iload_n hx hb dX12_lamp_76 rfl (lv_at hl 2 rfl) ?_
        rw [← hQ]
        exact cRetI (v := x2_) (ms, ma, ml) hx hb hr hlocks hS hP hD h dX12_lamp_77
      · have h := h.2 c1
        refine lv_aload_n hx hb dX12_lamp_40 rfl (lv_at hl 0 rfl) ?_
        refine lv_iload hx hb dX12_lamp_41 (lv_at hl 4 rfl) ?_
        refine lv_iload_n hx hb dX12_lamp_43 rfl (lv_at hl 1 rfl) ?_
        refine cGoAL (cRunAV (As := [.int x5_, .int p1]) (rest := []) ⟨hx, hb, hml, hown, hw⟩ hK hN hP hD (k_X12_litBy l D C _ aM  ms mw ma ml x5_ p1 h) (cwV 2 hw (goodV mw_8_175 mw_8_177 mw_s168 mw_1_13 mw_8_178) rfl rfl rfl (by decide +kernel) ⟨Nat.le_of_ble_eq_true rfl, Nat.le_of_ble_eq_true rfl⟩) rfl rfl rfl hl.1 rfl (Nat.le_of_ble_eq_true rfl) dX12_lamp_44 ⟨Nat.zero_le _, Nat.zero_le _⟩) hP hD hS hA (fun r5 u H locs h hP hD hS => ?_)
        obtain ⟨ms_2, ma_3, ml_4⟩ := u
        have hP : va_P D vwCl (List.flatten (wM aM C ms_2 mw ma_3 ml_4)) H := hP
        have hD : va_D A (List.flatten (wM aM C ms_2 mw ma_3 ml_4)) := hD
        refine lv_lstore (lv' := [(6, .long r5), (0, .ref (aM 0)), (1, .int p1), (2, .int x2_), (3, .long x3_), (5, .int x5_)]) hx hb dX12_lamp_47 hl (by decide) rfl (fun ls hl => ?_)
        refine lv_iload_n hx hb dX12_lamp_49 rfl (lv_at hl 3 rfl) ?_
        refine lv_iconst (v := (-1)) hx hb dX12_lamp_50 (by decide) ?_
        refine lv_icmp_eq (tgt := 64) hx hb dX12_lamp_51 (by decide) (fun c6 => ?_) (fun c6 => ?_)
        · have h := h.1 c6
          refine lv_iload hx hb dX12_lamp_64 (lv_at hl 5 rfl) ?_
          refine lv_istore_n (lv' := [(2, .int x5_), (6, .long r5), (0, .ref (aM 0)), (1, .int p1), (3, .long x3_), (5, .int x5_)]) hx hb dX12_lamp_66 rfl hl (by decide) rfl (fun ls hl => ?_)
          refine lv_lload hx hb dX12_lamp_67 (lv_at hl 1 rfl) ?_
          refine lv_lstore_n (lv' := [(3, .long r5), (2, .int x5_), (6, .long r5), (0, .ref (aM 0)), (1, .int p1), (5, .int x5_)]) hx hb dX12_lamp_69 rfl hl (by decide) rfl (fun ls hl => ?_)
          refine lv_iinc (v := (x5_ + 1)) (lv' := [(5, .int (x5_ + 1)), (3, .long r5), (2, .int x5_), (6, .long r5), (0, .ref (aM 0)), (1, .int p1)]) hx hb dX12_lamp_70 hl (k := 5) rfl rfl (by decide) rfl (fun ls hl => ?_)
          refine lv_goto (tgt := 29) hx hb dX12_lamp_73 (by decide) ?_
          exact ih29 x5_ r5 (x5_ + 1) ms_2 ma_3 ml_4 _ _ _ h hP hD hS (lv_sub hl [4, 5, 2, 1, 0] rfl)
        · have h := h.2 c6
          refine lv_lload hx hb dX12_lamp_54 (lv_at hl 0 rfl) ?_
          refine lv_lload_n hx hb dX12_lamp_56 rfl (lv_at hl 4 rfl) ?_
          refine W.lcmp hx hb dX12_lamp_57 ?_
          refine lv_if_lt (tgt := 64) hx hb dX12_lamp_58 (by decide) (fun c7 => ?_) (fun c7 => ?_)
          · have c7 : r5 < x3_ := (lg_cmp_lt _ _).mp c7
            have h := h.1 c7
            refine lv_iload hx hb dX12_lamp_64 (lv_at hl 5 rfl) ?_
            refine lv_istore_n (lv' := [(2, .int x5_), (6, .long r5), (0, .ref (aM 0)), (1, .int p1), (3, .long x3_), (5, .int x5_)]) hx hb dX12_lamp_66 rfl hl (by decide) rfl (fun ls hl => ?_)
            refine lv_lload hx hb dX12_lamp_67 (lv_at hl 1 rfl) ?_
            refine lv_lstore_n (lv' := [(3, .long r5), (2, .int x5_), (6, .long r5), (0, .ref (aM 0)), (1, .int p1), (5, .int x5_)]) hx hb dX12_lamp_69 rfl hl (by decide) rfl (fun ls hl => ?_)
            refine lv_iinc (v := (x5_ + 1)) (lv' := [(5, .int (x5_ + 1)), (3, .long r5), (2, .int x5_), (6, .long r5), (0, .ref (aM 0)), (1, .int p1)]) hx hb dX12_lamp_70 hl (k := 5) rfl rfl (by decide) rfl (fun ls hl => ?_)
            refine lv_goto (tgt := 29) hx hb dX12_lamp_73 (by decide) ?_
            exact ih29 x5_ r5 (x5_ + 1) ms_2 ma_3 ml_4 _ _ _ h hP hD hS (lv_sub hl [4, 5, 2, 1, 0] rfl)
          · have c7 : ¬ r5 < x3_ := fun q => c7 ((lg_cmp_lt _ _).mpr q)
            have h := h.2 c7
            refine lv_goto (tgt := 70) hx hb dX12_lamp_61 (by decide) ?_
            refine lv_iinc (v := (x5_ + 1)) (lv' := [(5, .int (x5_ + 1)), (6, .long r5), (0, .ref (aM 0)), (1, .int p1), (2, .int x2_), (3, .long x3_)]) hx hb dX12_lamp_70 hl (k := 5) rfl rfl (by decide) rfl (fun ls hl => ?_)
            refine lv_goto (tgt := 29) hx hb dX12_lamp_73 (by decide) ?_
            exact ih29 x2_ x3_ (x5_ + 1) ms_2 ma_3 ml_4 _ _ _ h hP hD hS (lv_sub hl [2, 3, 4, 5, 0] rfl)
  refine lv_aload_n hx hb dX12_lamp_0 rfl (lv_at hl 0 rfl) ?_
  refine lv_iconst (v := 0) hx hb dX12_lamp_1 (by decide) ?_
  refine va_put (D := D) (ci := 12) (v := .int 0) (ty := .int) (C := RX12) (T := TX12) (N := 51) hx hb hw inW_X12 tyX12 tyX12_ok nmX12 hown hK hP hD hS 0 rfl rfl 0 (by decide) (hw _ mw_6_43) (fun _ h9 => h9) rfl (by decide +kernel) rfl rfl (Nat.le_of_ble_eq_true rfl) dX12_lamp_2 (fun H locs hP hD hS => ?_)
  refine lv_aload_n hx hb dX12_lamp_5 rfl (lv_at hl 0 rfl) ?_
  have hP : va_P D vwCl (List.flatten (wM aM C (va_up ms 0 0) mw ma ml)) H := hP
  have hD : va_D A (List.flatten (wM aM C (va_up ms 0 0) mw ma ml)) := hD
  refine cGoAI (cRunAV (As := []) (rest := []) ⟨hx, hb, hml, hown, hw⟩ hK hN hP hD (k_X12_isRail l D C _ aM  (va_up ms 0 0) mw ma ml  h) (cwV 0 hw (goodV mw_7_204 mw_7_206 mw_s142 mw_1_13 mw_7_207) rfl rfl rfl (by decide +kernel) ⟨Nat.le_of_ble_eq_true rfl, Nat.le_of_ble_eq_true rfl⟩) rfl rfl rfl hl.1 rfl (Nat.le_of_ble_eq_true rfl) dX12_lamp_6 ⟨Nat.zero_le _, Nat.zero_le _⟩) hP hD hS hA (fun r8 u H locs h hP hD hS => ?_)
  have hP : va_P D vwCl (List.flatten (wM aM C (va_up ms 0 0) mw ma ml)) H := hP
  have hD : va_D A (List.flatten (wM aM C (va_up ms 0 0) mw ma ml)) := hD
  refine lv_if_eq (tgt := 19) hx hb dX12_lamp_9 (by decide) (fun c9 => ?_) (fun c9 => ?_)
  · have h := h.1 c9
    refine lv_bipush (v := (-2)) hx hb dX12_lamp_19 (by decide) ?_
    rw [← hQ]
    exact cRetI (v := (-2)) ((va_up ms 0 0), ma, ml) hx hb hr hlocks hS hP hD h dX12_lamp_21
  · have h := h.2 c9
    refine lv_iload_n hx hb dX12_lamp_12 rfl (lv_at hl 1 rfl) ?_
    refine cGoEI (cRunES (As := [.int p1]) (rest := []) ⟨hx, hb, hml, hown, hw⟩ hK hN hP hD (k_X12_isBright l D C _    p1 h) (va_cwS 1 hw (goodS mw_8_171 mw_8_172 mw_1_13 mw_8_173) rfl rfl rfl (by decide +kernel) ⟨Nat.le_of_ble_eq_true rfl, Nat.le_of_ble_eq_true rfl⟩) rfl hl.1 rfl (Nat.le_of_ble_eq_true rfl) dX12_lamp_13 ⟨Nat.zero_le _, Nat.zero_le _⟩) hP hD hS hA (fun r10 u H locs h hP hD hS => ?_)
    have hP : va_P D vwCl (List.flatten (wM aM C (va_up ms 0 0) mw ma ml)) H := hP
    have hD : va_D A (List.flatten (wM aM C (va_up ms 0 0) mw ma ml)) := hD
    refine lv_if_ne (tgt := 22) hx hb dX12_lamp_16 (by decide) (fun c11 => ?_) (fun c11 => ?_)
    · have h := h.1 c11
      refine lv_iconst (v := (-1)) hx hb dX12_lamp_22 (by decide) ?_
      refine lv_istore_n (lv' := [(2, .int (-1)), (0, .ref (aM 0)), (1, .int p1)]) hx hb dX12_lamp_23 rfl hl (by decide) rfl (fun ls hl => ?_)
      refine lv_lconst (v := 0) hx hb dX12_lamp_24 (by decide) ?_
      refine lv_lstore_n (lv' := [(3, .long 0), (2, .int (-1)), (0, .ref (aM 0)), (1, .int p1)]) hx hb dX12_lamp_25 rfl hl (by decide) rfl (fun ls hl => ?_)
      refine lv_iconst (v := 0) hx hb dX12_lamp_26 (by decide) ?_
      refine lv_istore (lv' := [(5, .int 0), (3, .long 0), (2, .int (-1)), (0, .ref (aM 0)), (1, .int p1)]) hx hb dX12_lamp_27 hl (by decide) rfl (fun ls hl => ?_)
      obtain ⟨n, h⟩ := h
      exact N29  n (-1) 0 0 (va_up ms 0 0) ma ml _ _ _ h hP hD hS (lv_sub hl [3, 4, 2, 1, 0] rfl)
    · have h := h.2 c11
      refine lv_bipush (v := (-2)) hx hb dX12_lamp_19 (by decide) ?_
      rw [← hQ]
      exact cRetI (v := (-2)) ((va_up ms 0 0), ma, ml) hx hb hr hlocks hS hP hD h dX12_lamp_21
abbrev vsX12_lit : List Cond := Cond.code yX12_lit cX12_lit 3 (some .long) :: WS
abbrev rmX12_lit : Room := { frames := 7, cells := 0, slots := 0, locals := 167 }
set_option maxHeartbeats 4000000 in
set_option maxRecDepth 100000 in
theorem k_X12_lit (l : Launch) (D : va_G) (C : Nat → ClassId) (sz : Nat) (aM : Nat → Nat)  (ms : Nat → Int32) (mw : Nat → Int64) (ma : Nat → Nat → Int32) (ml : Nat → Nat → Int64) (p1 : Int32) (p2 : Int32) {post : Int64 → (Nat → Int32) → (Nat → Nat → Int32) → (Nat → Nat → Int64) → Prop} (h : P_X12_lit ms ma ml p1 p2 post) : Met l yX12_lit vsX12_lit rmX12_lit (cPre D C [.ref (aM 0), .int p1, .int p2] sz (wM aM C ms mw ma ml)) (cQl D (fun (r : Int64) (u : (Nat → Int32) × (Nat → Nat → Int32) × (Nat → Nat → Int64)) => post r u.1 u.2.1 u.2.2) (fun u => wM aM C u.1 mw u.2.1 u.2.2) (va_A (List.flatten (wM aM C ms mw ma ml)) sz)) 0 0 (va_A (List.flatten (wM aM C ms mw ma ml)) sz) := by
  refine cStart (QA := fun A => cQl D (fun (r : Int64) (u : (Nat → Int32) × (Nat → Nat → Int32) × (Nat → Nat → Int64)) => post r u.1 u.2.1 u.2.2) (fun u => wM aM C u.1 mw u.2.1 u.2.2) A) (cc := cX12_lit) (maxL := 3) (ret := (some .long)) (by decide) (Nat.le_of_ble_eq_true rfl) ?_
  intro p e s m args below meth c A ls hx hb hr hml hown hw hlocks hname hK hN hA hP hD hS hl
  generalize hQ : MQ below _ args s 0 0 A = Q
  have hl : lv_has ls 3 [(0, .ref (aM 0)), (1, .int p1), (2, .int p2)] := hl
  obtain ⟨H, hH⟩ : ∃ H, H = s.heap := ⟨_, rfl⟩
  obtain ⟨locs, hlo⟩ : ∃ z : List Loc, z = [] := ⟨_, rfl⟩
  have hP : va_P D vwCl (List.flatten (wM aM C ms mw ma ml)) H := by rw [hH]; exact hP
  have hS : va_S A s.heap H locs := by rw [hH, hlo]; exact hS
  rw [show W p l e rmX12_lit s m args below meth c s.heap [] 0 0 Q (F0 m 0 ls []) = W p l e rmX12_lit s m args below meth c H locs 0 0 Q (F0 m 0 ls []) from by rw [hH, hlo]]
  refine lv_aload_n hx hb dX12_lit_0 rfl (lv_at hl 0 rfl) ?_
  refine lv_iconst (v := 0) hx hb dX12_lit_1 (by decide) ?_
  refine va_put (D := D) (ci := 12) (v := .int 0) (ty := .int) (C := RX12) (T := TX12) (N := 51) hx hb hw inW_X12 tyX12 tyX12_ok nmX12 hown hK hP hD hS 0 rfl rfl 0 (by decide) (hw _ mw_6_43) (fun _ h9 => h9) rfl (by decide +kernel) rfl rfl (Nat.le_of_ble_eq_true rfl) dX12_lit_2 (fun H locs hP hD hS => ?_)
  refine lv_aload_n hx hb dX12_lit_5 rfl (lv_at hl 0 rfl) ?_
  refine lv_iload_n hx hb dX12_lit_6 rfl (lv_at hl 1 rfl) ?_
  have hP : va_P D vwCl (List.flatten (wM aM C (va_up ms 0 0) mw ma ml)) H := hP
  have hD : va_D A (List.flatten (wM aM C (va_up ms 0 0) mw ma ml)) := hD
  refine cGoAI (cRunAV (As := [.int p1]) (rest := []) ⟨hx, hb, hml, hown, hw⟩ hK hN hP hD (k_X12_isPlace l D C _ aM  (va_up ms 0 0) mw ma ml p1 h) (cwV 1 hw (goodV mw_7_125 mw_7_127 mw_s131 mw_1_13 mw_7_128) rfl rfl rfl (by decide +kernel) ⟨Nat.le_of_ble_eq_true rfl, Nat.le_of_ble_eq_true rfl⟩) rfl rfl rfl hl.1 rfl (Nat.le_of_ble_eq_true rfl) dX12_lit_7 ⟨Nat.zero_le _, Nat.zero_le _⟩) hP hD hS hA (fun r1 u H locs h hP hD hS => ?_)
  have hP : va_P D vwCl (List.flatten (wM aM C (va_up ms 0 0) mw ma ml)) H := hP
  have hD : va_D A (List.flatten (wM aM C (va_up ms 0 0) mw ma ml)) := hD
  refine lv_if_eq (tgt := 29) hx hb dX12_lit_10 (by decide) (fun c2 => ?_) (fun c2 => ?_)
  · have h := h.1 c2
    refine lv_ldc2 (v := (-2)) hx hb hown (hw _ mw_7_208) dX12_lit_29 ?_
    rw [← hQ]
    exact cRetL (v := (-2)) ((va_up ms 0 0), ma, ml) hx hb hr hlocks hS hP hD h dX12_lit_32
  · have h := h.2 c2
    refine lv_iload_n hx hb dX12_lit_13 rfl (lv_at hl 2 rfl) ?_
    refine cGoEI (cRunES (As := [.int p2]) (rest := []) ⟨hx, hb, hml, hown, hw⟩ hK hN hP hD (k_X12_isBright l D C _    p2 h) (va_cwS 1 hw (goodS mw_8_171 mw_8_172 mw_1_13 mw_8_173) rfl rfl rfl (by decide +kernel) ⟨Nat.le_of_ble_eq_true rfl, Nat.le_of_ble_eq_true rfl⟩) rfl hl.1 rfl (Nat.le_of_ble_eq_true rfl) dX12_lit_14 ⟨Nat.zero_le _, Nat.zero_le _⟩) hP hD hS hA (fun r3 u H locs h hP hD hS => ?_)
    have hP : va_P D vwCl (List.flatten (wM aM C (va_up ms 0 0) mw ma ml)) H := hP
    have hD : va_D A (List.flatten (wM aM C (va_up ms 0 0) mw ma ml)) := hD
    refine lv_if_eq (tgt := 29) hx hb dX12_lit_17 (by decide) (fun c4 => ?_) (fun c4 => ?_)
    · have h := h.1 c4
      refine lv_ldc2 (v := (-2)) hx hb hown (hw _ mw_7_208) dX12_lit_29 ?_
      rw [← hQ]
      exact cRetL (v := (-2)) ((va_up ms 0 0), ma, ml) hx hb hr hlocks hS hP hD h dX12_lit_32
    · have h := h.2 c4
      refine lv_aload_n hx hb dX12_lit_20 rfl (lv_at hl 0 rfl) ?_
      refine lv_iload_n hx hb dX12_lit_21 rfl (lv_at hl 1 rfl) ?_
      refine lv_iload_n hx hb dX12_lit_22 rfl (lv_at hl 2 rfl) ?_
      refine cGoAL (cRunAV (As := [.int p1, .int p2]) (rest := []) ⟨hx, hb, hml, hown, hw⟩ hK hN hP hD (k_X12_litBy l D C _ aM  (va_up ms 0 0) mw ma ml p1 p2 h) (cwV 2 hw (goodV mw_8_175 mw_8_177 mw_s168 mw_1_13 mw_8_178) rfl rfl rfl (by decide +kernel) ⟨Nat.le_of_ble_eq_true rfl, Nat.le_of_ble_eq_true rfl⟩) rfl rfl rfl hl.1 rfl (Nat.le_of_ble_eq_true rfl) dX12_lit_23 ⟨Nat.zero_le _, Nat.zero_le _⟩) hP hD hS hA (fun r8 u H locs h hP hD hS => ?_)
      obtain ⟨ms_5, ma_6, ml_7⟩ := u
      have hP : va_P D vwCl (List.flatten (wM aM C ms_5 mw ma_6 ml_7)) H := hP
      have hD : va_D A (List.flatten (wM aM C ms_5 mw ma_6 ml_7)) := hD
      refine lv_goto (tgt := 32) hx hb dX12_lit_26 (by decide) ?_
      rw [← hQ]
      exact cRetL (v := r8) (ms_5, ma_6, ml_7) hx hb hr hlocks hS hP hD h dX12_lit_32
abbrev vsX12_watch : List Cond := Cond.code yX12_watch cX12_watch 3 (some .int) :: WS
abbrev rmX12_watch : Room := { frames := 0, cells := 0, slots := 0, locals := 0 }
set_option maxHeartbeats 4000000 in
set_option maxRecDepth 100000 in
theorem k_X12_watch (l : Launch) (D : va_G) (C : Nat → ClassId) (sz : Nat) (aM : Nat → Nat)  (ms : Nat → Int32) (mw : Nat → Int64) (ma : Nat → Nat → Int32) (ml : Nat → Nat → Int64) (p1 : Int32) {post : Int32 → (Nat → Int32) → (Nat → Nat → Int32) → Prop} (h : P_X12_watch ms ma p1 post) : Met l yX12_watch vsX12_watch rmX12_watch (cPre D C [.ref (aM 0), .int p1] sz (wM aM C ms mw ma ml)) (cQi D (fun (r : Int32) (u : (Nat → Int32) × (Nat → Nat → Int32)) => post r u.1 u.2) (fun u => wM aM C u.1 mw u.2 ml) (va_A (List.flatten (wM aM C ms mw ma ml)) sz)) 0 0 (va_A (List.flatten (wM aM C ms mw ma ml)) sz) := by
  refine cStart (QA := fun A => cQi D (fun (r : Int32) (u : (Nat → Int32) × (Nat → Nat → Int32)) => post r u.1 u.2) (fun u => wM aM C u.1 mw u.2 ml) A) (cc := cX12_watch) (maxL := 3) (ret := (some .int)) (by decide) (Nat.le_of_ble_eq_true rfl) ?_
  intro p e s m args below meth c A ls hx hb hr hml hown hw hlocks hname hK hN hA hP hD hS hl
  generalize hQ : MQ below _ args s 0 0 A = Q
  have hl : lv_has ls 3 [(0, .ref (aM 0)), (1, .int p1)] := hl
  obtain ⟨H, hH⟩ : ∃ H, H = s.heap := ⟨_, rfl⟩
  obtain ⟨locs, hlo⟩ : ∃ z : List Loc, z = [] := ⟨_, rfl⟩
  have hP : va_P D vwCl (List.flatten (wM aM C ms mw ma ml)) H := by rw [hH]; exact hP
  have hS : va_S A s.heap H locs := by rw [hH, hlo]; exact hS
  rw [show W p l e rmX12_watch s m args below meth c s.heap [] 0 0 Q (F0 m 0 ls []) = W p l e rmX12_watch s m args below meth c H locs 0 0 Q (F0 m 0 ls []) from by rw [hH, hlo]]
  refine lv_aload_n hx hb dX12_watch_0 rfl (lv_at hl 0 rfl) ?_
  refine lv_iconst (v := 0) hx hb dX12_watch_1 (by decide) ?_
  refine va_put (D := D) (ci := 12) (v := .int 0) (ty := .int) (C := RX12) (T := TX12) (N := 51) hx hb hw inW_X12 tyX12 tyX12_ok nmX12 hown hK hP hD hS 0 rfl rfl 0 (by decide) (hw _ mw_6_43) (fun _ h9 => h9) rfl (by decide +kernel) rfl rfl (Nat.le_of_ble_eq_true rfl) dX12_watch_2 (fun H locs hP hD hS => ?_)
  refine lv_aload_n hx hb dX12_watch_5 rfl (lv_at hl 0 rfl) ?_
  refine va_get (D := D) (ci := 12) (v := .ref (aM 17)) (C := RX12) (T := TX12) (N := 51) hx hb hw inW_X12 hown hK hP 0 rfl rfl 27 (by decide) (hw _ mw_6_70) (fun _ h9 => h9) rfl dX12_watch_6 ?_
  refine lv_iconst (v := 3) hx hb dX12_watch_9 (by decide) ?_
  refine cIald hx hb hK hP 17 0 rfl rfl 3 (by decide +kernel) (cIn (by decide +kernel)) dX12_watch_10 ?_
  refine lv_if_ne (tgt := 17) hx hb dX12_watch_11 (by decide) (fun c1 => ?_) (fun c1 => ?_)
  · have h := h.1 c1
    refine lv_aload_n hx hb dX12_watch_17 rfl (lv_at hl 0 rfl) ?_
    refine va_get (D := D) (ci := 12) (v := .ref (aM 17)) (C := RX12) (T := TX12) (N := 51) hx hb hw inW_X12 hown hK hP 0 rfl rfl 27 (by decide) (hw _ mw_6_70) (fun _ h9 => h9) rfl dX12_watch_18 ?_
    refine lv_bipush (v := 6) hx hb dX12_watch_21 (by decide) ?_
    refine cIald hx hb hK hP 17 0 rfl rfl 6 (by decide +kernel) (cIn (by decide +kernel)) dX12_watch_23 ?_
    refine lv_topi (fun x2 ex2 => ?_)
    have h := h x2 ex2
    refine lv_istore_n (lv' := [(2, .int x2), (0, .ref (aM 0)), (1, .int p1)]) hx hb dX12_watch_24 rfl hl (by decide) rfl (fun ls hl => ?_)
    refine lv_aload_n hx hb dX12_watch_25 rfl (lv_at hl 1 rfl) ?_
    refine va_get (D := D) (ci := 12) (v := .ref (aM 17)) (C := RX12) (T := TX12) (N := 51) hx hb hw inW_X12 hown hK hP 0 rfl rfl 27 (by decide) (hw _ mw_6_70) (fun _ h9 => h9) rfl dX12_watch_26 ?_
    refine lv_bipush (v := 6) hx hb dX12_watch_29 (by decide) ?_
    refine lv_iload_n hx hb dX12_watch_31 rfl (lv_at hl 2 rfl) ?_
    refine lv_if_eq (tgt := 39) hx hb dX12_watch_32 (by decide) (fun c3 => ?_) (fun c3 => ?_)
    · have h := h.1 c3
      refine lv_iconst (v := 0) hx hb dX12_watch_39 (by decide) ?_
      refine cIast hx hb hK hP hD hS 17 0 rfl rfl 6 (by decide +kernel) (cIn (by decide +kernel)) dX12_watch_40 (fun H locs hP hD hS => ?_)
      refine lv_iload_n hx hb dX12_watch_41 rfl (lv_at hl 0 rfl) ?_
      have hP : va_P D vwCl (List.flatten (wM aM C (va_up ms 0 0) mw (va_up ma 14 (upd (ma 14) 6 0)) ml)) H := hP
      have hD : va_D A (List.flatten (wM aM C (va_up ms 0 0) mw (va_up ma 14 (upd (ma 14) 6 0)) ml)) := hD
      rw [← hQ]
      exact cRetI (v := x2) ((va_up ms 0 0), (va_up ma 14 (upd (ma 14) 6 0))) hx hb hr hlocks hS hP hD h dX12_watch_42
    · have h := h.2 c3
      refine lv_iconst (v := 1) hx hb dX12_watch_35 (by decide) ?_
      refine lv_goto (tgt := 40) hx hb dX12_watch_36 (by decide) ?_
      refine cIast hx hb hK hP hD hS 17 0 rfl rfl 6 (by decide +kernel) (cIn (by decide +kernel)) dX12_watch_40 (fun H locs hP hD hS => ?_)
      refine lv_iload_n hx hb dX12_watch_41 rfl (lv_at hl 0 rfl) ?_
      have hP : va_P D vwCl (List.flatten (wM aM C (va_up ms 0 0) mw (va_up ma 14 (upd (ma 14) 6 1)) ml)) H := hP
      have hD : va_D A (List.flatten (wM aM C (va_up ms 0 0) mw (va_up ma 14 (upd (ma 14) 6 1)) ml)) := hD
      rw [← hQ]
      exact cRetI (v := x2) ((va_up ms 0 0), (va_up ma 14 (upd (ma 14) 6 1))) hx hb hr hlocks hS hP hD h dX12_watch_42
  · have h := h.2 c1
    refine lv_bipush (v := (-2)) hx hb dX12_watch_14 (by decide) ?_
    have hP : va_P D vwCl (List.flatten (wM aM C (va_up ms 0 0) mw ma ml)) H := hP
    have hD : va_D A (List.flatten (wM aM C (va_up ms 0 0) mw ma ml)) := hD
    rw [← hQ]
    exact cRetI (v := (-2)) ((va_up ms 0 0), ma) hx hb hr hlocks hS hP hD h dX12_watch_16
abbrev vsX12_laysWatch : List Cond := Cond.code yX12_laysWatch cX12_laysWatch 3 none :: WS
abbrev rmX12_laysWatch : Room := { frames := 5, cells := 0, slots := 0, locals := 119 }
set_option maxHeartbeats 4000000 in
set_option maxRecDepth 100000 in
theorem k_X12_laysWatch (l : Launch) (D : va_G) (C : Nat → ClassId) (sz : Nat) (aM : Nat → Nat)  (ms : Nat → Int32) (mw : Nat → Int64) (ma : Nat → Nat → Int32) (ml : Nat → Nat → Int64)  {post : (Nat → Int32) → (Nat → Nat → Int32) → (Nat → Nat → Int64) → Prop} (h : P_X12_laysWatch ms ma ml post) : Met l yX12_laysWatch vsX12_laysWatch rmX12_laysWatch (cPre D C [.ref (aM 0)] sz (wM aM C ms mw ma ml)) (cQv D (fun (u : (Nat → Int32) × (Nat → Nat → Int32) × (Nat → Nat → Int64)) => post u.1 u.2.1 u.2.2) (fun u => wM aM C u.1 mw u.2.1 u.2.2) (va_A (List.flatten (wM aM C ms mw ma ml)) sz)) 0 0 (va_A (List.flatten (wM aM C ms mw ma ml)) sz) := by
  refine cStart (QA := fun A => cQv D (fun (u : (Nat → Int32) × (Nat → Nat → Int32) × (Nat → Nat → Int64)) => post u.1 u.2.1 u.2.2) (fun u => wM aM C u.1 mw u.2.1 u.2.2) A) (cc := cX12_laysWatch) (maxL := 3) (ret := none) (by decide) (Nat.le_of_ble_eq_true rfl) ?_
  intro p e s m args below meth c A ls hx hb hr hml hown hw hlocks hname hK hN hA hP hD hS hl
  generalize hQ : MQ below _ args s 0 0 A = Q
  have hl : lv_has ls 3 [(0, .ref (aM 0))] := hl
  obtain ⟨H, hH⟩ : ∃ H, H = s.heap := ⟨_, rfl⟩
  obtain ⟨locs, hlo⟩ : ∃ z : List Loc, z = [] := ⟨_, rfl⟩
  have hP : va_P D vwCl (List.flatten (wM aM C ms mw ma ml)) H := by rw [hH]; exact hP
  have hS : va_S A s.heap H locs := by rw [hH, hlo]; exact hS
  rw [show W p l e rmX12_laysWatch s m args below meth c s.heap [] 0 0 Q (F0 m 0 ls []) = W p l e rmX12_laysWatch s m args below meth c H locs 0 0 Q (F0 m 0 ls []) from by rw [hH, hlo]]
  have N63 : ∀ (x1_ : Int32) (ms : Nat → Int32) (ma : Nat → Nat → Int32) (n63 : Nat) (x2_ : Int32) (ml : Nat → Nat → Int64) (H : Heap) (locs : List Loc) (ls : Array Slot), P_X12_laysWatch_63  post  x1_ ms ma n63 x2_ ml → va_P D vwCl (List.flatten (wM aM C ms mw ma ml)) H → va_D A (List.flatten (wM aM C ms mw ma ml)) → va_S A s.heap H locs → lv_has ls 3 [(0, .ref (aM 0)), (1, .int x1_), (2, .int x2_)] → W p l e rmX12_laysWatch s m args below meth c H locs 0 0 Q (F0 m 63 ls []) := by
    intro x1_ ms ma
    intro n63
    induction n63 with
    | zero => intro x2_ ml H locs ls h hP hD hS hl; exact False.elim h
    | succ n63 ih63 =>
      intro x2_ ml H locs ls h hP hD hS hl
      refine lv_iload_n hx hb dX12_laysWatch_63 rfl (lv_at hl 2 rfl) ?_
      refine lv_aload_n hx hb dX12_laysWatch_64 rfl (lv_at hl 0 rfl) ?_
      refine va_get (D := D) (ci := 12) (v := .ref (aM 13)) (C := RX12) (T := TX12) (N := 51) hx hb hw inW_X12 hown hK hP 0 rfl rfl 23 (by decide) (hw _ mw_6_66) (fun _ h9 => h9) rfl dX12_laysWatch_65 ?_
      refine lv_iconst (v := 0) hx hb dX12_laysWatch_68 (by decide) ?_
      refine cIald hx hb hK hP 13 0 rfl rfl 0 (by decide +kernel) (cIn (by decide +kernel)) dX12_laysWatch_69 ?_
      refine lv_icmp_ge (tgt := 93) hx hb dX12_laysWatch_70 (by decide) (fun c1 => ?_) (fun c1 => ?_)
      · have h := h.1 c1
        refine lv_aload_n hx hb dX12_laysWatch_93 rfl (lv_at hl 0 rfl) ?_
        refine va_get (D := D) (ci := 12) (v := .ref (aM 17)) (C := RX12) (T := TX12) (N := 51) hx hb hw inW_X12 hown hK hP 0 rfl rfl 27 (by decide) (hw _ mw_6_70) (fun _ h9 => h9) rfl dX12_laysWatch_94 ?_
        refine lv_bipush (v := 6) hx hb dX12_laysWatch_97 (by decide) ?_
        refine lv_iload_n hx hb dX12_laysWatch_99 rfl (lv_at hl 1 rfl) ?_
        refine cIast hx hb hK hP hD hS 17 0 rfl rfl 6 (by decide +kernel) (cIn (by decide +kernel)) dX12_laysWatch_100 (fun H locs hP hD hS => ?_)
        have hP : va_P D vwCl (List.flatten (wM aM C ms mw (va_up ma 14 (upd (ma 14) 6 x1_)) ml)) H := hP
        have hD : va_D A (List.flatten (wM aM C ms mw (va_up ma 14 (upd (ma 14) 6 x1_)) ml)) := hD
        rw [← hQ]
        exact cRetV (ms, (va_up ma 14 (upd (ma 14) 6 x1_)), ml) hx hb hr hlocks hS hP hD h dX12_laysWatch_101
      · have h := h.2 c1
        refine lv_aload_n hx hb dX12_laysWatch_73 rfl (lv_at hl 0 rfl) ?_
        refine va_get (D := D) (ci := 12) (v := .ref (aM 28)) (C := RX12) (T := TX12) (N := 51) hx hb hw inW_X12 hown hK hP 0 rfl rfl 43 (by decide) (hw _ mw_6_86) (fun _ h9 => h9) rfl dX12_laysWatch_74 ?_
        refine lv_iload_n hx hb dX12_laysWatch_77 rfl (lv_at hl 2 rfl) ?_
        refine lv_dup2_11 hx hb dX12_laysWatch_78 rfl rfl ?_
        refine cLald hx hb hK hP 28 1 rfl rfl x2_.toNatClampNeg rfl h.1 dX12_laysWatch_79 ?_
        have h := h.2
        refine lv_aload_n hx hb dX12_laysWatch_80 rfl (lv_at hl 0 rfl) ?_
        refine lv_iload_n hx hb dX12_laysWatch_81 rfl (lv_at hl 2 rfl) ?_
        refine cGoAL (cRunAV (As := [.int x2_]) (rest := [.long (ml 6 x2_.toNatClampNeg), .int x2_, .ref (aM 28)]) ⟨hx, hb, hml, hown, hw⟩ hK hN hP hD (k_X12_lossOf l D C _ aM  ms mw ma ml x2_ h) (cwV 1 hw (goodV mw_8_11 mw_8_13 mw_s148 mw_1_13 mw_8_14) rfl rfl rfl (by decide +kernel) ⟨Nat.le_of_ble_eq_true rfl, Nat.le_of_ble_eq_true rfl⟩) rfl rfl rfl hl.1 rfl (Nat.le_of_ble_eq_true rfl) dX12_laysWatch_82 ⟨Nat.zero_le _, Nat.zero_le _⟩) hP hD hS hA (fun r2 u H locs h hP hD hS => ?_)
        have hP : va_P D vwCl (List.flatten (wM aM C ms mw ma ml)) H := hP
        have hD : va_D A (List.flatten (wM aM C ms mw ma ml)) := hD
        refine lv_lsub hx hb dX12_laysWatch_85 ?_
        refine cLast hx hb hK hP hD hS 28 1 rfl rfl x2_.toNatClampNeg rfl h.1 dX12_laysWatch_86 (fun H locs hP hD hS => ?_)
        have h := h.2
        refine lv_iinc (v := (x2_ + 1)) (lv' := [(2, .int (x2_ + 1)), (0, .ref (aM 0)), (1, .int x1_)]) hx hb dX12_laysWatch_87 hl (k := 2) rfl rfl (by decide) rfl (fun ls hl => ?_)
        refine lv_goto (tgt := 63) hx hb dX12_laysWatch_90 (by decide) ?_
        have hP : va_P D vwCl (List.flatten (wM aM C ms mw ma (va_up ml 6 (vp_updL (ml 6) x2_.toNatClampNeg ((ml 6 x2_.toNatClampNeg) - r2))))) H := hP
        have hD : va_D A (List.flatten (wM aM C ms mw ma (va_up ml 6 (vp_updL (ml 6) x2_.toNatClampNeg ((ml 6 x2_.toNatClampNeg) - r2))))) := hD
        exact ih63 (x2_ + 1) (va_up ml 6 (vp_updL (ml 6) x2_.toNatClampNeg ((ml 6 x2_.toNatClampNeg) - r2))) _ _ _ h hP hD hS (lv_sub hl [1, 2, 0] rfl)
  have N49 : ∀ (x1_ : Int32) (ms : Nat → Int32) (ma : Nat → Nat → Int32) (ml : Nat → Nat → Int64) (H : Heap) (locs : List Loc) (ls : Array Slot), P_X12_laysWatch_49  post  x1_ ms ma ml → va_P D vwCl (List.flatten (wM aM C ms mw ma ml)) H → va_D A (List.flatten (wM aM C ms mw ma ml)) → va_S A s.heap H locs → lv_has ls 3 [(0, .ref (aM 0)), (1, .int x1_)] → W p l e rmX12_laysWatch s m args below meth c H locs 0 0 Q (F0 m 49 ls []) := by
    intro x1_ ms ma ml H locs ls h hP hD hS hl
    refine lv_aload_n hx hb dX12_laysWatch_49 rfl (lv_at hl 0 rfl) ?_
    refine va_get (D := D) (ci := 12) (v := .ref (aM 17)) (C := RX12) (T := TX12) (N := 51) hx hb hw inW_X12 hown hK hP 0 rfl rfl 27 (by decide) (hw _ mw_6_70) (fun _ h9 => h9) rfl dX12_laysWatch_50 ?_
    refine lv_bipush (v := 6) hx hb dX12_laysWatch_53 (by decide) ?_
    refine lv_iconst (v := 1) hx hb dX12_laysWatch_55 (by decide) ?_
    refine cIast hx hb hK hP hD hS 17 0 rfl rfl 6 (by decide +kernel) (cIn (by decide +kernel)) dX12_laysWatch_56 (fun H locs hP hD hS => ?_)
    refine lv_aload_n hx hb dX12_laysWatch_57 rfl (lv_at hl 0 rfl) ?_
    have hP : va_P D vwCl (List.flatten (wM aM C ms mw (va_up ma 14 (upd (ma 14) 6 1)) ml)) H := hP
    have hD : va_D A (List.flatten (wM aM C ms mw (va_up ma 14 (upd (ma 14) 6 1)) ml)) := hD
    refine cGoAV (cRunAV (As := []) (rest := []) ⟨hx, hb, hml, hown, hw⟩ hK hN hP hD (k_X12_night l D C _ aM  ms mw (va_up ma 14 (upd (ma 14) 6 1)) ml  h) (cwV 0 hw (goodV mw_7_209 mw_7_211 mw_s143 mw_1_13 mw_7_212) rfl rfl rfl (by decide +kernel) ⟨Nat.le_of_ble_eq_true rfl, Nat.le_of_ble_eq_true rfl⟩) rfl rfl rfl hl.1 rfl (Nat.le_of_ble_eq_true rfl) dX12_laysWatch_58 ⟨Nat.zero_le _, Nat.zero_le _⟩) hP hD hS hA (fun u H locs h hP hD hS => ?_)
    obtain ⟨ms_3, ma_4, ml_5⟩ := u
    have hP : va_P D vwCl (List.flatten (wM aM C ms_3 mw ma_4 ml_5)) H := hP
    have hD : va_D A (List.flatten (wM aM C ms_3 mw ma_4 ml_5)) := hD
    refine lv_iconst (v := 0) hx hb dX12_laysWatch_61 (by decide) ?_
    refine lv_istore_n (lv' := [(2, .int 0), (0, .ref (aM 0)), (1, .int x1_)]) hx hb dX12_laysWatch_62 rfl hl (by decide) rfl (fun ls hl => ?_)
    obtain ⟨n, h⟩ := h
    exact N63 x1_ ms_3 ma_4 n 0 ml_5 _ _ _ h hP hD hS (lv_sub hl [1, 2, 0] rfl)
  have N22 : ∀ (x1_ : Int32) (ms : Nat → Int32) (ma : Nat → Nat → Int32) (n22 : Nat) (x2_ : Int32) (ml : Nat → Nat → Int64) (H : Heap) (locs : List Loc) (ls : Array Slot), P_X12_laysWatch_22  post (fun (x1_ : Int32) (ms : Nat → Int32) (ma : Nat → Nat → Int32) (ml : Nat → Nat → Int64) => P_X12_laysWatch_49  post  x1_ ms ma ml) x1_ ms ma n22 x2_ ml → va_P D vwCl (List.flatten (wM aM C ms mw ma ml)) H → va_D A (List.flatten (wM aM C ms mw ma ml)) → va_S A s.heap H locs → lv_has ls 3 [(0, .ref (aM 0)), (1, .int x1_), (2, .int x2_)] → W p l e rmX12_laysWatch s m args below meth c H locs 0 0 Q (F0 m 22 ls []) := by
    intro x1_ ms ma
    intro n22
    induction n22 with
    | zero => intro x2_ ml H locs ls h hP hD hS hl; exact False.elim h
    | succ n22 ih22 =>
      intro x2_ ml H locs ls h hP hD hS hl
      refine lv_iload_n hx hb dX12_laysWatch_22 rfl (lv_at hl 2 rfl) ?_
      refine lv_aload_n hx hb dX12_laysWatch_23 rfl (lv_at hl 0 rfl) ?_
      refine va_get (D := D) (ci := 12) (v := .ref (aM 13)) (C := RX12) (T := TX12) (N := 51) hx hb hw inW_X12 hown hK hP 0 rfl rfl 23 (by decide) (hw _ mw_6_66) (fun _ h9 => h9) rfl dX12_laysWatch_24 ?_
      refine lv_iconst (v := 0) hx hb dX12_laysWatch_27 (by decide) ?_
      refine cIald hx hb hK hP 13 0 rfl rfl 0 (by decide +kernel) (cIn (by decide +kernel)) dX12_laysWatch_28 ?_
      refine lv_icmp_ge (tgt := 49) hx hb dX12_laysWatch_29 (by decide) (fun c6 => ?_) (fun c6 => ?_)
      · have h := h.1 c6
        exact N49 x1_ ms ma ml _ _ _ h hP hD hS (lv_sub hl [0, 1] rfl)
      · have h := h.2 c6
        refine lv_aload_n hx hb dX12_laysWatch_32 rfl (lv_at hl 0 rfl) ?_
        refine va_get (D := D) (ci := 12) (v := .ref (aM 28)) (C := RX12) (T := TX12) (N := 51) hx hb hw inW_X12 hown hK hP 0 rfl rfl 43 (by decide) (hw _ mw_6_86) (fun _ h9 => h9) rfl dX12_laysWatch_33 ?_
        refine lv_iload_n hx hb dX12_laysWatch_36 rfl (lv_at hl 2 rfl) ?_
        refine lv_aload_n hx hb dX12_laysWatch_37 rfl (lv_at hl 0 rfl) ?_
        refine lv_iload_n hx hb dX12_laysWatch_38 rfl (lv_at hl 2 rfl) ?_
        refine cGoAL (cRunAV (As := [.int x2_]) (rest := [.int x2_, .ref (aM 28)]) ⟨hx, hb, hml, hown, hw⟩ hK hN hP hD (k_X12_lossOf l D C _ aM  ms mw ma ml x2_ h) (cwV 1 hw (goodV mw_8_11 mw_8_13 mw_s148 mw_1_13 mw_8_14) rfl rfl rfl (by decide +kernel) ⟨Nat.le_of_ble_eq_true rfl, Nat.le_of_ble_eq_true rfl⟩) rfl rfl rfl hl.1 rfl (Nat.le_of_ble_eq_true rfl) dX12_laysWatch_39 ⟨Nat.zero_le _, Nat.zero_le _⟩) hP hD hS hA (fun r7 u H locs h hP hD hS => ?_)
        have hP : va_P D vwCl (List.flatten (wM aM C ms mw ma ml)) H := hP
        have hD : va_D A (List.flatten (wM aM C ms mw ma ml)) := hD
        refine cLast hx hb hK hP hD hS 28 1 rfl rfl x2_.toNatClampNeg rfl h.1 dX12_laysWatch_42 (fun H locs hP hD hS => ?_)
        have h := h.2
        refine lv_iinc (v := (x2_ + 1)) (lv' := [(2, .int (x2_ + 1)), (0, .ref (aM 0)), (1, .int x1_)]) hx hb dX12_laysWatch_43 hl (k := 2) rfl rfl (by decide) rfl (fun ls hl => ?_)
        refine lv_goto (tgt := 22) hx hb dX12_laysWatch_46 (by decide) ?_
        have hP : va_P D vwCl (List.flatten (wM aM C ms mw ma (va_up ml 6 (vp_updL (ml 6) x2_.toNatClampNeg r7)))) H := hP
        have hD : va_D A (List.flatten (wM aM C ms mw ma (va_up ml 6 (vp_updL (ml 6) x2_.toNatClampNeg r7)))) := hD
        exact ih22 (x2_ + 1) (va_up ml 6 (vp_updL (ml 6) x2_.toNatClampNeg r7)) _ _ _ h hP hD hS (lv_sub hl [1, 2, 0] rfl)
  refine lv_aload_n hx hb dX12_laysWatch_0 rfl (lv_at hl 0 rfl) ?_
  refine va_get (D := D) (ci := 12) (v := .ref (aM 17)) (C := RX12) (T := TX12) (N := 51) hx hb hw inW_X12 hown hK hP 0 rfl rfl 27 (by decide) (hw _ mw_6_70) (fun _ h9 => h9) rfl dX12_laysWatch_1 ?_
  refine lv_bipush (v := 6) hx hb dX12_laysWatch_4 (by decide) ?_
  refine cIald hx hb hK hP 17 0 rfl rfl 6 (by decide +kernel) (cIn (by decide +kernel)) dX12_laysWatch_6 ?_
  refine lv_topi (fun x8 ex8 => ?_)
  have h := h x8 ex8
  refine lv_istore_n (lv' := [(1, .int x8), (0, .ref (aM 0))]) hx hb dX12_laysWatch_7 rfl hl (by decide) rfl (fun ls hl => ?_)
  refine lv_aload_n hx hb dX12_laysWatch_8 rfl (lv_at hl 1 rfl) ?_
  refine va_get (D := D) (ci := 12) (v := .ref (aM 17)) (C := RX12) (T := TX12) (N := 51) hx hb hw inW_X12 hown hK hP 0 rfl rfl 27 (by decide) (hw _ mw_6_70) (fun _ h9 => h9) rfl dX12_laysWatch_9 ?_
  refine lv_bipush (v := 6) hx hb dX12_laysWatch_12 (by decide) ?_
  refine lv_iconst (v := 0) hx hb dX12_laysWatch_14 (by decide) ?_
  refine cIast hx hb hK hP hD hS 17 0 rfl rfl 6 (by decide +kernel) (cIn (by decide +kernel)) dX12_laysWatch_15 (fun H locs hP hD hS => ?_)
  refine lv_aload_n hx hb dX12_laysWatch_16 rfl (lv_at hl 1 rfl) ?_
  have hP : va_P D vwCl (List.flatten (wM aM C ms mw (va_up ma 14 (upd (ma 14) 6 0)) ml)) H := hP
  have hD : va_D A (List.flatten (wM aM C ms mw (va_up ma 14 (upd (ma 14) 6 0)) ml)) := hD
  refine cGoAV (cRunAV (As := []) (rest := []) ⟨hx, hb, hml, hown, hw⟩ hK hN hP hD (k_X12_night l D C _ aM  ms mw (va_up ma 14 (upd (ma 14) 6 0)) ml  h) (cwV 0 hw (goodV mw_7_209 mw_7_211 mw_s143 mw_1_13 mw_7_212) rfl rfl rfl (by decide +kernel) ⟨Nat.le_of_ble_eq_true rfl, Nat.le_of_ble_eq_true rfl⟩) rfl rfl rfl hl.1 rfl (Nat.le_of_ble_eq_true rfl) dX12_laysWatch_17 ⟨Nat.zero_le _, Nat.zero_le _⟩) hP hD hS hA (fun u H locs h hP hD hS => ?_)
  obtain ⟨ms_9, ma_10, ml_11⟩ := u
  have hP : va_P D vwCl (List.flatten (wM aM C ms_9 mw ma_10 ml_11)) H := hP
  have hD : va_D A (List.flatten (wM aM C ms_9 mw ma_10 ml_11)) := hD
  refine lv_iconst (v := 0) hx hb dX12_laysWatch_20 (by decide) ?_
  refine lv_istore_n (lv' := [(2, .int 0), (1, .int x8), (0, .ref (aM 0))]) hx hb dX12_laysWatch_21 rfl hl (by decide) rfl (fun ls hl => ?_)
  obtain ⟨n, h⟩ := h
  exact N22 x8 ms_9 ma_10 n 0 ml_11 _ _ _ h hP hD hS (lv_sub hl [2, 1, 0] rfl)
abbrev vsX12_penny : List Cond := Cond.code yX12_penny cX12_penny 4 (some .long) :: WS
abbrev rmX12_penny : Room := { frames := 6, cells := 0, slots := 0, locals := 141 }
set_option maxHeartbeats 4000000 in
set_option maxRecDepth 100000 in
theorem k_X12_penny (l : Launch) (D : va_G) (C : Nat → ClassId) (sz : Nat) (aM : Nat → Nat)  (ms : Nat → Int32) (mw : Nat → Int64) (ma : Nat → Nat → Int32) (ml : Nat → Nat → Int64)  {post : Int64 → (Nat → Int32) → (Nat → Nat → Int32) → (Nat → Nat → Int64) → Prop} (h : P_X12_penny ms ma ml post) : Met l yX12_penny vsX12_penny rmX12_penny (cPre D C [.ref (aM 0)] sz (wM aM C ms mw ma ml)) (cQl D (fun (r : Int64) (u : (Nat → Int32) × (Nat → Nat → Int32) × (Nat → Nat → Int64)) => post r u.1 u.2.1 u.2.2) (fun u => wM aM C u.1 mw u.2.1 u.2.2) (va_A (List.flatten (wM aM C ms mw ma ml)) sz)) 0 0 (va_A (List.flatten (wM aM C ms mw ma ml)) sz) := by
  refine cStart (QA := fun A => cQl D (fun (r : Int64) (u : (Nat → Int32) × (Nat → Nat → Int32) × (Nat → Nat → Int64)) => post r u.1 u.2.1 u.2.2) (fun u => wM aM C u.1 mw u.2.1 u.2.2) A) (cc := cX12_penny) (maxL := 4) (ret := (some .long)) (by decide) (Nat.le_of_ble_eq_true rfl) ?_
  intro p e s m args below meth c A ls hx hb hr hml hown hw hlocks hname hK hN hA hP hD hS hl
  generalize hQ : MQ below _ args s 0 0 A = Q
  have hl : lv_has ls 4 [(0, .ref (aM 0))] := hl
  obtain ⟨H, hH⟩ : ∃ H, H = s.heap := ⟨_, rfl⟩
  obtain ⟨locs, hlo⟩ : ∃ z : List Loc, z = [] := ⟨_, rfl⟩
  have hP : va_P D vwCl (List.flatten (wM aM C ms mw ma ml)) H := by rw [hH]; exact hP
  have hS : va_S A s.heap H locs := by rw [hH, hlo]; exact hS
  rw [show W p l e rmX12_penny s m args below meth c s.heap [] 0 0 Q (F0 m 0 ls []) = W p l e rmX12_penny s m args below meth c H locs 0 0 Q (F0 m 0 ls []) from by rw [hH, hlo]]
  have N30 : ∀ (ms : Nat → Int32) (ma : Nat → Nat → Int32) (ml : Nat → Nat → Int64) (n30 : Nat) (x1_ : Int64) (x3_ : Int32) (H : Heap) (locs : List Loc) (ls : Array Slot), P_X12_penny_30  post  ms ma ml n30 x1_ x3_ → va_P D vwCl (List.flatten (wM aM C ms mw ma ml)) H → va_D A (List.flatten (wM aM C ms mw ma ml)) → va_S A s.heap H locs → lv_has ls 4 [(0, .ref (aM 0)), (1, .long x1_), (3, .int x3_)] → W p l e rmX12_penny s m args below meth c H locs 0 0 Q (F0 m 30 ls []) := by
    intro ms ma ml
    intro n30
    induction n30 with
    | zero => intro x1_ x3_ H locs ls h hP hD hS hl; exact False.elim h
    | succ n30 ih30 =>
      intro x1_ x3_ H locs ls h hP hD hS hl
      refine lv_iload_n hx hb dX12_penny_30 rfl (lv_at hl 2 rfl) ?_
      refine lv_aload_n hx hb dX12_penny_31 rfl (lv_at hl 0 rfl) ?_
      refine va_get (D := D) (ci := 12) (v := .ref (aM 13)) (C := RX12) (T := TX12) (N := 51) hx hb hw inW_X12 hown hK hP 0 rfl rfl 23 (by decide) (hw _ mw_6_66) (fun _ h9 => h9) rfl dX12_penny_32 ?_
      refine lv_iconst (v := 0) hx hb dX12_penny_35 (by decide) ?_
      refine cIald hx hb hK hP 13 0 rfl rfl 0 (by decide +kernel) (cIn (by decide +kernel)) dX12_penny_36 ?_
      refine lv_icmp_ge (tgt := 55) hx hb dX12_penny_37 (by decide) (fun c1 => ?_) (fun c1 => ?_)
      · have h := h.1 c1
        refine lv_lload_n hx hb dX12_penny_55 rfl (lv_at hl 1 rfl) ?_
        rw [← hQ]
        exact cRetL (v := x1_) (ms, ma, ml) hx hb hr hlocks hS hP hD h dX12_penny_56
      · have h := h.2 c1
        refine lv_lload_n hx hb dX12_penny_40 rfl (lv_at hl 1 rfl) ?_
        refine lv_aload_n hx hb dX12_penny_41 rfl (lv_at hl 0 rfl) ?_
        refine va_get (D := D) (ci := 12) (v := .ref (aM 28)) (C := RX12) (T := TX12) (N := 51) hx hb hw inW_X12 hown hK hP 0 rfl rfl 43 (by decide) (hw _ mw_6_86) (fun _ h9 => h9) rfl dX12_penny_42 ?_
        refine lv_iload_n hx hb dX12_penny_45 rfl (lv_at hl 2 rfl) ?_
        refine cLald hx hb hK hP 28 1 rfl rfl x3_.toNatClampNeg rfl h.1 dX12_penny_46 ?_
        have h := h.2
        refine lv_ladd hx hb dX12_penny_47 ?_
        refine lv_topl (fun x2 ex2 => ?_)
        have h := h x2 ex2
        refine lv_lstore_n (lv' := [(1, .long x2), (0, .ref (aM 0)), (3, .int x3_)]) hx hb dX12_penny_48 rfl hl (by decide) rfl (fun ls hl => ?_)
        refine lv_iinc (v := (x3_ + 1)) (lv' := [(3, .int (x3_ + 1)), (1, .long x2), (0, .ref (aM 0))]) hx hb dX12_penny_49 hl (k := 2) rfl rfl (by decide) rfl (fun ls hl => ?_)
        refine lv_goto (tgt := 30) hx hb dX12_penny_52 (by decide) ?_
        exact ih30 x2 (x3_ + 1) _ _ _ h hP hD hS (lv_sub hl [2, 1, 0] rfl)
  refine lv_aload_n hx hb dX12_penny_0 rfl (lv_at hl 0 rfl) ?_
  refine lv_iconst (v := 0) hx hb dX12_penny_1 (by decide) ?_
  refine va_put (D := D) (ci := 12) (v := .int 0) (ty := .int) (C := RX12) (T := TX12) (N := 51) hx hb hw inW_X12 tyX12 tyX12_ok nmX12 hown hK hP hD hS 0 rfl rfl 0 (by decide) (hw _ mw_6_43) (fun _ h9 => h9) rfl (by decide +kernel) rfl rfl (Nat.le_of_ble_eq_true rfl) dX12_penny_2 (fun H locs hP hD hS => ?_)
  refine lv_aload_n hx hb dX12_penny_5 rfl (lv_at hl 0 rfl) ?_
  refine va_get (D := D) (ci := 12) (v := .ref (aM 17)) (C := RX12) (T := TX12) (N := 51) hx hb hw inW_X12 hown hK hP 0 rfl rfl 27 (by decide) (hw _ mw_6_70) (fun _ h9 => h9) rfl dX12_penny_6 ?_
  refine lv_iconst (v := 3) hx hb dX12_penny_9 (by decide) ?_
  refine cIald hx hb hK hP 17 0 rfl rfl 3 (by decide +kernel) (cIn (by decide +kernel)) dX12_penny_10 ?_
  refine lv_if_ne (tgt := 18) hx hb dX12_penny_11 (by decide) (fun c3 => ?_) (fun c3 => ?_)
  · have h := h.1 c3
    refine lv_aload_n hx hb dX12_penny_18 rfl (lv_at hl 0 rfl) ?_
    have hP : va_P D vwCl (List.flatten (wM aM C (va_up ms 0 0) mw ma ml)) H := hP
    have hD : va_D A (List.flatten (wM aM C (va_up ms 0 0) mw ma ml)) := hD
    refine cGoAV (cRunAV (As := []) (rest := []) ⟨hx, hb, hml, hown, hw⟩ hK hN hP hD (k_X12_laysWatch l D C _ aM  (va_up ms 0 0) mw ma ml  h) (cwV 0 hw (goodV mw_8_191 mw_8_193 mw_s169 mw_1_13 mw_8_194) rfl rfl rfl (by decide +kernel) ⟨Nat.le_of_ble_eq_true rfl, Nat.le_of_ble_eq_true rfl⟩) rfl rfl rfl hl.1 rfl (Nat.le_of_ble_eq_true rfl) dX12_penny_19 ⟨Nat.zero_le _, Nat.zero_le _⟩) hP hD hS hA (fun u H locs h hP hD hS => ?_)
    obtain ⟨ms_4, ma_5, ml_6⟩ := u
    have hP : va_P D vwCl (List.flatten (wM aM C ms_4 mw ma_5 ml_6)) H := hP
    have hD : va_D A (List.flatten (wM aM C ms_4 mw ma_5 ml_6)) := hD
    refine lv_aload_n hx hb dX12_penny_22 rfl (lv_at hl 0 rfl) ?_
    refine cGoAL (cRunAV (As := []) (rest := []) ⟨hx, hb, hml, hown, hw⟩ hK hN hP hD (k_X12_wages l D C _ aM  ms_4 mw ma_5 ml_6  h) (cwV 0 hw (goodV mw_8_20 mw_8_22 mw_s150 mw_1_13 mw_8_23) rfl rfl rfl (by decide +kernel) ⟨Nat.le_of_ble_eq_true rfl, Nat.le_of_ble_eq_true rfl⟩) rfl rfl rfl hl.1 rfl (Nat.le_of_ble_eq_true rfl) dX12_penny_23 ⟨Nat.zero_le _, Nat.zero_le _⟩) hP hD hS hA (fun r7 u H locs h hP hD hS => ?_)
    have hP : va_P D vwCl (List.flatten (wM aM C ms_4 mw ma_5 ml_6)) H := hP
    have hD : va_D A (List.flatten (wM aM C ms_4 mw ma_5 ml_6)) := hD
    refine lv_lneg hx hb dX12_penny_26 ?_
    refine lv_topl (fun x8 ex8 => ?_)
    have h := h x8 ex8
    refine lv_lstore_n (lv' := [(1, .long x8), (0, .ref (aM 0))]) hx hb dX12_penny_27 rfl hl (by decide) rfl (fun ls hl => ?_)
    refine lv_iconst (v := 0) hx hb dX12_penny_28 (by decide) ?_
    refine lv_istore_n (lv' := [(3, .int 0), (1, .long x8), (0, .ref (aM 0))]) hx hb dX12_penny_29 rfl hl (by decide) rfl (fun ls hl => ?_)
    obtain ⟨n, h⟩ := h
    exact N30 ms_4 ma_5 ml_6 n x8 0 _ _ _ h hP hD hS (lv_sub hl [2, 1, 0] rfl)
  · have h := h.2 c3
    refine lv_ldc2 (v := (-1000000000000)) hx hb hown (hw _ mw_8_134) dX12_penny_14 ?_
    have hP : va_P D vwCl (List.flatten (wM aM C (va_up ms 0 0) mw ma ml)) H := hP
    have hD : va_D A (List.flatten (wM aM C (va_up ms 0 0) mw ma ml)) := hD
    rw [← hQ]
    exact cRetL (v := (-1000000000000)) ((va_up ms 0 0), ma, ml) hx hb hr hlocks hS hP hD h dX12_penny_17
abbrev vsX12_enough : List Cond := Cond.code yX12_enough cX12_enough 7 (some .int) :: WS
abbrev rmX12_enough : Room := { frames := 6, cells := 0, slots := 0, locals := 141 }
set_option maxHeartbeats 4000000 in
set_option maxRecDepth 100000 in
theorem k_X12_enough (l : Launch) (D : va_G) (C : Nat → ClassId) (sz : Nat) (aM : Nat → Nat)  (ms : Nat → Int32) (mw : Nat → Int64) (ma : Nat → Nat → Int32) (ml : Nat → Nat → Int64)  {post : Int32 → (Nat → Int32) → (Nat → Nat → Int32) → (Nat → Nat → Int64) → Prop} (h : P_X12_enough ms ma ml post) : Met l yX12_enough vsX12_enough rmX12_enough (cPre D C [.ref (aM 0)] sz (wM aM C ms mw ma ml)) (cQi D (fun (r : Int32) (u : (Nat → Int32) × (Nat → Nat → Int32) × (Nat → Nat → Int64)) => post r u.1 u.2.1 u.2.2) (fun u => wM aM C u.1 mw u.2.1 u.2.2) (va_A (List.flatten (wM aM C ms mw ma ml)) sz)) 0 0 (va_A (List.flatten (wM aM C ms mw ma ml)) sz) := by
  refine cStart (QA := fun A => cQi D (fun (r : Int32) (u : (Nat → Int32) × (Nat → Nat → Int32) × (Nat → Nat → Int64)) => post r u.1 u.2.1 u.2.2) (fun u => wM aM C u.1 mw u.2.1 u.2.2) A) (cc := cX12_enough) (maxL := 7) (ret := (some .int)) (by decide) (Nat.le_of_ble_eq_true rfl) ?_
  intro p e s m args below meth c A ls hx hb hr hml hown hw hlocks hname hK hN hA hP hD hS hl
  generalize hQ : MQ below _ args s 0 0 A = Q
  have hl : lv_has ls 7 [(0, .ref (aM 0))] := hl
  obtain ⟨H, hH⟩ : ∃ H, H = s.heap := ⟨_, rfl⟩
  obtain ⟨locs, hlo⟩ : ∃ z : List Loc, z = [] := ⟨_, rfl⟩
  have hP : va_P D vwCl (List.flatten (wM aM C ms mw ma ml)) H := by rw [hH]; exact hP
  have hS : va_S A s.heap H locs := by rw [hH, hlo]; exact hS
  rw [show W p l e rmX12_enough s m args below meth c s.heap [] 0 0 Q (F0 m 0 ls []) = W p l e rmX12_enough s m args below meth c H locs 0 0 Q (F0 m 0 ls []) from by rw [hH, hlo]]
  have N31 : ∀ (ms : Nat → Int32) (ma : Nat → Nat → Int32) (ml : Nat → Nat → Int64) (n31 : Nat) (x1_ : Int64) (x3_ : Int32) (x4_ : Int32) (H : Heap) (locs : List Loc) (ls : Array Slot), P_X12_enough_31  post  ms ma ml n31 x1_ x3_ x4_ → va_P D vwCl (List.flatten (wM aM C ms mw ma ml)) H → va_D A (List.flatten (wM aM C ms mw ma ml)) → va_S A s.heap H locs → lv_has ls 7 [(0, .ref (aM 0)), (1, .long x1_), (3, .int x3_), (4, .int x4_)] → W p l e rmX12_enough s m args below meth c H locs 0 0 Q (F0 m 31 ls []) := by
    intro ms ma ml
    intro n31
    induction n31 with
    | zero => intro x1_ x3_ x4_ H locs ls h hP hD hS hl; exact False.elim h
    | succ n31 ih31 =>
      have N111 : ∀ (x1_ : Int64) (x3_ : Int32) (x4_ : Int32) (x5_ : Int32) (H : Heap) (locs : List Loc) (ls : Array Slot), P_X12_enough_111 ms ma ml post (P_X12_enough_31  post  ms ma ml n31) x1_ x3_ x4_ x5_ → va_P D vwCl (List.flatten (wM aM C ms mw ma ml)) H → va_D A (List.flatten (wM aM C ms mw ma ml)) → va_S A s.heap H locs → lv_has ls 7 [(0, .ref (aM 0)), (1, .long x1_), (3, .int x3_), (4, .int x4_), (5, .int x5_)] → W p l e rmX12_enough s m args below meth c H locs 0 0 Q (F0 m 111 ls []) := by
        intro x1_ x3_ x4_ x5_ H locs ls h hP hD hS hl
        refine lv_iload hx hb dX12_enough_111 (lv_at hl 4 rfl) ?_
        refine lv_iconst (v := (-1)) hx hb dX12_enough_113 (by decide) ?_
        refine lv_icmp_ne (tgt := 119) hx hb dX12_enough_114 (by decide) (fun c1 => ?_) (fun c1 => ?_)
        · have h := h.1 c1
          refine lv_iload_n hx hb dX12_enough_119 rfl (lv_at hl 2 rfl) ?_
          refine lv_iconst (v := 1) hx hb dX12_enough_120 (by decide) ?_
          refine lv_iload hx hb dX12_enough_121 (lv_at hl 4 rfl) ?_
          refine lv_ishl hx hb dX12_enough_123 ?_
          refine lv_ior hx hb dX12_enough_124 ?_
          refine lv_topi (fun x2 ex2 => ?_)
          have h := h x2 ex2
          refine lv_istore_n (lv' := [(3, .int x2), (0, .ref (aM 0)), (1, .long x1_), (4, .int x4_), (5, .int x5_)]) hx hb dX12_enough_125 rfl hl (by decide) rfl (fun ls hl => ?_)
          refine lv_lload_n hx hb dX12_enough_126 rfl (lv_at hl 2 rfl) ?_
          refine lv_aload_n hx hb dX12_enough_127 rfl (lv_at hl 1 rfl) ?_
          refine va_get (D := D) (ci := 12) (v := .ref (aM 28)) (C := RX12) (T := TX12) (N := 51) hx hb hw inW_X12 hown hK hP 0 rfl rfl 43 (by decide) (hw _ mw_6_86) (fun _ h9 => h9) rfl dX12_enough_128 ?_
          refine lv_iload hx hb dX12_enough_131 (lv_at hl 4 rfl) ?_
          refine cLald hx hb hK hP 28 1 rfl rfl x5_.toNatClampNeg rfl h.1 dX12_enough_133 ?_
          have h := h.2
          refine lv_lsub hx hb dX12_enough_134 ?_
          refine lv_topl (fun x3 ex3 => ?_)
          have h := h x3 ex3
          refine lv_lstore_n (lv' := [(1, .long x3), (3, .int x2), (0, .ref (aM 0)), (4, .int x4_), (5, .int x5_)]) hx hb dX12_enough_135 rfl hl (by decide) rfl (fun ls hl => ?_)
          refine lv_iinc (v := (x4_ + 1)) (lv' := [(4, .int (x4_ + 1)), (1, .long x3), (3, .int x2), (0, .ref (aM 0)), (5, .int x5_)]) hx hb dX12_enough_136 hl (k := 3) rfl rfl (by decide) rfl (fun ls hl => ?_)
          refine lv_goto (tgt := 31) hx hb dX12_enough_139 (by decide) ?_
          exact ih31 x3 x2 (x4_ + 1) _ _ _ h hP hD hS (lv_sub hl [3, 1, 2, 0] rfl)
        · have h := h.2 c1
          refine lv_iconst (v := (-1)) hx hb dX12_enough_117 (by decide) ?_
          rw [← hQ]
          exact cRetI (v := (-1)) (ms, ma, ml) hx hb hr hlocks hS hP hD h dX12_enough_118
      have N57 : ∀ (x1_ : Int64) (x3_ : Int32) (x4_ : Int32) (n57 : Nat) (x5_ : Int32) (x6_ : Int32) (H : Heap) (locs : List Loc) (ls : Array Slot), P_X12_enough_57 ms ma ml post (fun (x1_ : Int64) (x3_ : Int32) (x4_ : Int32) (x5_ : Int32) => P_X12_enough_111 ms ma ml post (P_X12_enough_31  post  ms ma ml n31) x1_ x3_ x4_ x5_) x1_ x3_ x4_ n57 x5_ x6_ → va_P D vwCl (List.flatten (wM aM C ms mw ma ml)) H → va_D A (List.flatten (wM aM C ms mw ma ml)) → va_S A s.heap H locs → lv_has ls 7 [(0, .ref (aM 0)), (1, .long x1_), (3, .int x3_), (4, .int x4_), (5, .int x5_), (6, .int x6_)] → W p l e rmX12_enough s m args below meth c H locs 0 0 Q (F0 m 57 ls []) := by
        intro x1_ x3_ x4_
        intro n57
        induction n57 with
        | zero => intro x5_ x6_ H locs ls h hP hD hS hl; exact False.elim h
        | succ n57 ih57 =>
          intro x5_ x6_ H locs ls h hP hD hS hl
          refine lv_iload hx hb dX12_enough_57 (lv_at hl 5 rfl) ?_
          refine lv_aload_n hx hb dX12_enough_59 rfl (lv_at hl 0 rfl) ?_
          refine va_get (D := D) (ci := 12) (v := .ref (aM 13)) (C := RX12) (T := TX12) (N := 51) hx hb hw inW_X12 hown hK hP 0 rfl rfl 23 (by decide) (hw _ mw_6_66) (fun _ h9 => h9) rfl dX12_enough_60 ?_
          refine lv_iconst (v := 0) hx hb dX12_enough_63 (by decide) ?_
          refine cIald hx hb hK hP 13 0 rfl rfl 0 (by decide +kernel) (cIn (by decide +kernel)) dX12_enough_64 ?_
          refine lv_icmp_ge (tgt := 111) hx hb dX12_enough_65 (by decide) (fun c4 => ?_) (fun c4 => ?_)
          · have h := h.1 c4
            exact N111 x1_ x3_ x4_ x5_ _ _ _ h hP hD hS (lv_sub hl [0, 1, 2, 3, 4] rfl)
          · have h := h.2 c4
            refine lv_iload_n hx hb dX12_enough_68 rfl (lv_at hl 2 rfl) ?_
            refine lv_iload hx hb dX12_enough_69 (lv_at hl 5 rfl) ?_
            refine lv_ishr hx hb dX12_enough_71 ?_
            refine lv_iconst (v := 1) hx hb dX12_enough_72 (by decide) ?_
            refine lv_iand hx hb dX12_enough_73 ?_
            refine lv_if_ne (tgt := 105) hx hb dX12_enough_74 (by decide) (fun c5 => ?_) (fun c5 => ?_)
            · have h := h.1 c5
              refine lv_iinc (v := (x6_ + 1)) (lv' := [(6, .int (x6_ + 1)), (0, .ref (aM 0)), (1, .long x1_), (3, .int x3_), (4, .int x4_), (5, .int x5_)]) hx hb dX12_enough_105 hl (k := 5) rfl rfl (by decide) rfl (fun ls hl => ?_)
              refine lv_goto (tgt := 57) hx hb dX12_enough_108 (by decide) ?_
              exact ih57 x5_ (x6_ + 1) _ _ _ h hP hD hS (lv_sub hl [1, 2, 3, 4, 5, 0] rfl)
            · have h := h.2 c5
              refine lv_iload hx hb dX12_enough_77 (lv_at hl 4 rfl) ?_
              refine lv_iconst (v := (-1)) hx hb dX12_enough_79 (by decide) ?_
              refine lv_icmp_eq (tgt := 101) hx hb dX12_enough_80 (by decide) (fun c6 => ?_) (fun c6 => ?_)
              · have h := h.1 c6
                refine lv_iload hx hb dX12_enough_101 (lv_at hl 5 rfl) ?_
                refine lv_istore (lv' := [(5, .int x6_), (0, .ref (aM 0)), (1, .long x1_), (3, .int x3_), (4, .int x4_), (6, .int x6_)]) hx hb dX12_enough_103 hl (by decide) rfl (fun ls hl => ?_)
                refine lv_iinc (v := (x6_ + 1)) (lv' := [(6, .int (x6_ + 1)), (5, .int x6_), (0, .ref (aM 0)), (1, .long x1_), (3, .int x3_), (4, .int x4_)]) hx hb dX12_enough_105 hl (k := 5) rfl rfl (by decide) rfl (fun ls hl => ?_)
                refine lv_goto (tgt := 57) hx hb dX12_enough_108 (by decide) ?_
                exact ih57 x6_ (x6_ + 1) _ _ _ h hP hD hS (lv_sub hl [2, 3, 4, 5, 1, 0] rfl)
              · have h := h.2 c6
                refine lv_aload_n hx hb dX12_enough_83 rfl (lv_at hl 0 rfl) ?_
                refine va_get (D := D) (ci := 12) (v := .ref (aM 28)) (C := RX12) (T := TX12) (N := 51) hx hb hw inW_X12 hown hK hP 0 rfl rfl 43 (by decide) (hw _ mw_6_86) (fun _ h9 => h9) rfl dX12_enough_84 ?_
                refine lv_iload hx hb dX12_enough_87 (lv_at hl 5 rfl) ?_
                refine cLald hx hb hK hP 28 1 rfl rfl x6_.toNatClampNeg rfl h.1 dX12_enough_89 ?_
                have h := h.2
                refine lv_aload_n hx hb dX12_enough_90 rfl (lv_at hl 0 rfl) ?_
                refine va_get (D := D) (ci := 12) (v := .ref (aM 28)) (C := RX12) (T := TX12) (N := 51) hx hb hw inW_X12 hown hK hP 0 rfl rfl 43 (by decide) (hw _ mw_6_86) (fun _ h9 => h9) rfl dX12_enough_91 ?_
                refine lv_iload hx hb dX12_enough_94 (lv_at hl 4 rfl) ?_
                refine cLald hx hb hK hP 28 1 rfl rfl x5_.toNatClampNeg rfl h.1 dX12_enough_96 ?_
                have h := h.2
                refine W.lcmp hx hb dX12_enough_97 ?_
                refine lv_if_le (tgt := 105) hx hb dX12_enough_98 (by decide) (fun c7 => ?_) (fun c7 => ?_)
                · have c7 : (ml 6 x6_.toNatClampNeg) ≤ (ml 6 x5_.toNatClampNeg) := (lg_cmp_le _ _).mp c7
                  have h := h.1 c7
                  refine lv_iinc (v := (x6_ + 1)) (lv' := [(6, .int (x6_ + 1)), (0, .ref (aM 0)), (1, .long x1_), (3, .int x3_), (4, .int x4_), (5, .int x5_)]) hx hb dX12_enough_105 hl (k := 5) rfl rfl (by decide) rfl (fun ls hl => ?_)
                  refine lv_goto (tgt := 57) hx hb dX12_enough_108 (by decide) ?_
                  exact ih57 x5_ (x6_ + 1) _ _ _ h hP hD hS (lv_sub hl [1, 2, 3, 4, 5, 0] rfl)
                · have c7 : ¬ (ml 6 x6_.toNatClampNeg) ≤ (ml 6 x5_.toNatClampNeg) := fun q => c7 ((lg_cmp_le _ _).mpr q)
                  have h := h.2 c7
                  refine lv_iload hx hb dX12_enough_101 (lv_at hl 5 rfl) ?_
                  refine lv_istore (lv' := [(5, .int x6_), (0, .ref (aM 0)), (1, .long x1_), (3, .int x3_), (4, .int x4_), (6, .int x6_)]) hx hb dX12_enough_103 hl (by decide) rfl (fun ls hl => ?_)
                  refine lv_iinc (v := (x6_ + 1)) (lv' := [(6, .int (x6_ + 1)), (5, .int x6_), (0, .ref (aM 0)), (1, .long x1_), (3, .int x3_), (4, .int x4_)]) hx hb dX12_enough_105 hl (k := 5) rfl rfl (by decide) rfl (fun ls hl => ?_)
                  refine lv_goto (tgt := 57) hx hb dX12_enough_108 (by decide) ?_
                  exact ih57 x6_ (x6_ + 1) _ _ _ h hP hD hS (lv_sub hl [2, 3, 4, 5, 1, 0] rfl)
      intro x1_ x3_ x4_ H locs ls h hP hD hS hl
      refine lv_iload hx hb dX12_enough_31 (lv_at hl 3 rfl) ?_
      refine lv_aload_n hx hb dX12_enough_33 rfl (lv_at hl 0 rfl) ?_
      refine va_get (D := D) (ci := 12) (v := .ref (aM 13)) (C := RX12) (T := TX12) (N := 51) hx hb hw inW_X12 hown hK hP 0 rfl rfl 23 (by decide) (hw _ mw_6_66) (fun _ h9 => h9) rfl dX12_enough_34 ?_
      refine lv_iconst (v := 0) hx hb dX12_enough_37 (by decide) ?_
      refine cIald hx hb hK hP 13 0 rfl rfl 0 (by decide +kernel) (cIn (by decide +kernel)) dX12_enough_38 ?_
      refine lv_icmp_gt (tgt := 142) hx hb dX12_enough_39 (by decide) (fun c8 => ?_) (fun c8 => ?_)
      · have h := h.1 c8
        refine lv_iconst (v := (-1)) hx hb dX12_enough_142 (by decide) ?_
        rw [← hQ]
        exact cRetI (v := (-1)) (ms, ma, ml) hx hb hr hlocks hS hP hD h dX12_enough_143
      · have h := h.2 c8
        refine lv_lload_n hx hb dX12_enough_42 rfl (lv_at hl 1 rfl) ?_
        refine lv_lconst (v := 0) hx hb dX12_enough_43 (by decide) ?_
        refine W.lcmp hx hb dX12_enough_44 ?_
        refine lv_if_gt (tgt := 51) hx hb dX12_enough_45 (by decide) (fun c9 => ?_) (fun c9 => ?_)
        · have c9 : 0 < x1_ := (lg_cmp_gt _ _).mp c9
          have h := h.1 c9
          refine lv_iconst (v := (-1)) hx hb dX12_enough_51 (by decide) ?_
          refine lv_istore (lv' := [(5, .int (-1)), (0, .ref (aM 0)), (1, .long x1_), (3, .int x3_), (4, .int x4_)]) hx hb dX12_enough_52 hl (by decide) rfl (fun ls hl => ?_)
          refine lv_iconst (v := 0) hx hb dX12_enough_54 (by decide) ?_
          refine lv_istore (lv' := [(6, .int 0), (5, .int (-1)), (0, .ref (aM 0)), (1, .long x1_), (3, .int x3_), (4, .int x4_)]) hx hb dX12_enough_55 hl (by decide) rfl (fun ls hl => ?_)
          obtain ⟨n, h⟩ := h
          exact N57 x1_ x3_ x4_ n (-1) 0 _ _ _ h hP hD hS (lv_sub hl [2, 3, 4, 5, 1, 0] rfl)
        · have c9 : ¬ 0 < x1_ := fun q => c9 ((lg_cmp_gt _ _).mpr q)
          have h := h.2 c9
          refine lv_iload hx hb dX12_enough_48 (lv_at hl 3 rfl) ?_
          rw [← hQ]
          exact cRetI (v := x4_) (ms, ma, ml) hx hb hr hlocks hS hP hD h dX12_enough_50
  refine lv_aload_n hx hb dX12_enough_0 rfl (lv_at hl 0 rfl) ?_
  refine lv_iconst (v := 0) hx hb dX12_enough_1 (by decide) ?_
  refine va_put (D := D) (ci := 12) (v := .int 0) (ty := .int) (C := RX12) (T := TX12) (N := 51) hx hb hw inW_X12 tyX12 tyX12_ok nmX12 hown hK hP hD hS 0 rfl rfl 0 (by decide) (hw _ mw_6_43) (fun _ h9 => h9) rfl (by decide +kernel) rfl rfl (Nat.le_of_ble_eq_true rfl) dX12_enough_2 (fun H locs hP hD hS => ?_)
  refine lv_aload_n hx hb dX12_enough_5 rfl (lv_at hl 0 rfl) ?_
  refine va_get (D := D) (ci := 12) (v := .ref (aM 17)) (C := RX12) (T := TX12) (N := 51) hx hb hw inW_X12 hown hK hP 0 rfl rfl 27 (by decide) (hw _ mw_6_70) (fun _ h9 => h9) rfl dX12_enough_6 ?_
  refine lv_iconst (v := 3) hx hb dX12_enough_9 (by decide) ?_
  refine cIald hx hb hK hP 17 0 rfl rfl 3 (by decide +kernel) (cIn (by decide +kernel)) dX12_enough_10 ?_
  refine lv_if_ne (tgt := 17) hx hb dX12_enough_11 (by decide) (fun c10 => ?_) (fun c10 => ?_)
  · have h := h.1 c10
    refine lv_aload_n hx hb dX12_enough_17 rfl (lv_at hl 0 rfl) ?_
    have hP : va_P D vwCl (List.flatten (wM aM C (va_up ms 0 0) mw ma ml)) H := hP
    have hD : va_D A (List.flatten (wM aM C (va_up ms 0 0) mw ma ml)) := hD
    refine cGoAV (cRunAV (As := []) (rest := []) ⟨hx, hb, hml, hown, hw⟩ hK hN hP hD (k_X12_laysWatch l D C _ aM  (va_up ms 0 0) mw ma ml  h) (cwV 0 hw (goodV mw_8_191 mw_8_193 mw_s169 mw_1_13 mw_8_194) rfl rfl rfl (by decide +kernel) ⟨Nat.le_of_ble_eq_true rfl, Nat.le_of_ble_eq_true rfl⟩) rfl rfl rfl hl.1 rfl (Nat.le_of_ble_eq_true rfl) dX12_enough_18 ⟨Nat.zero_le _, Nat.zero_le _⟩) hP hD hS hA (fun u H locs h hP hD hS => ?_)
    obtain ⟨ms_11, ma_12, ml_13⟩ := u
    have hP : va_P D vwCl (List.flatten (wM aM C ms_11 mw ma_12 ml_13)) H := hP
    have hD : va_D A (List.flatten (wM aM C ms_11 mw ma_12 ml_13)) := hD
    refine lv_aload_n hx hb dX12_enough_21 rfl (lv_at hl 0 rfl) ?_
    refine cGoAL (cRunAV (As := []) (rest := []) ⟨hx, hb, hml, hown, hw⟩ hK hN hP hD (k_X12_wages l D C _ aM  ms_11 mw ma_12 ml_13  h) (cwV 0 hw (goodV mw_8_20 mw_8_22 mw_s150 mw_1_13 mw_8_23) rfl rfl rfl (by decide +kernel) ⟨Nat.le_of_ble_eq_true rfl, Nat.le_of_ble_eq_true rfl⟩) rfl rfl rfl hl.1 rfl (Nat.le_of_ble_eq_true rfl) dX12_enough_22 ⟨Nat.zero_le _, Nat.zero_le _⟩) hP hD hS hA (fun r14 u H locs h hP hD hS => ?_)
    have hP : va_P D vwCl (List.flatten (wM aM C ms_11 mw ma_12 ml_13)) H := hP
    have hD : va_D A (List.flatten (wM aM C ms_11 mw ma_12 ml_13)) := hD
    refine lv_lstore_n (lv' := [(1, .long r14), (0, .ref (aM 0))]) hx hb dX12_enough_25 rfl hl (by decide) rfl (fun ls hl => ?_)
    refine lv_iconst (v := 0) hx hb dX12_enough_26 (by decide) ?_
    refine lv_istore_n (lv' := [(3, .int 0), (1, .long r14), (0, .ref (aM 0))]) hx hb dX12_enough_27 rfl hl (by decide) rfl (fun ls hl => ?_)
    refine lv_iconst (v := 0) hx hb dX12_enough_28 (by decide) ?_
    refine lv_istore (lv' := [(4, .int 0), (3, .int 0), (1, .long r14), (0, .ref (aM 0))]) hx hb dX12_enough_29 hl (by decide) rfl (fun ls hl => ?_)
    obtain ⟨n, h⟩ := h
    exact N31 ms_11 ma_12 ml_13 n r14 0 0 _ _ _ h hP hD hS (lv_sub hl [3, 2, 1, 0] rfl)
  · have h := h.2 c10
    refine lv_bipush (v := (-2)) hx hb dX12_enough_14 (by decide) ?_
    have hP : va_P D vwCl (List.flatten (wM aM C (va_up ms 0 0) mw ma ml)) H := hP
    have hD : va_D A (List.flatten (wM aM C (va_up ms 0 0) mw ma ml)) := hD
    rw [← hQ]
    exact cRetI (v := (-2)) ((va_up ms 0 0), ma, ml) hx hb hr hlocks hS hP hD h dX12_enough_16
abbrev vsX12_marksSet : List Cond := Cond.code yX12_marksSet cX12_marksSet 3 none :: WS
abbrev rmX12_marksSet : Room := { frames := 1, cells := 0, slots := 0, locals := 21 }
set_option maxHeartbeats 4000000 in
set_option maxRecDepth 100000 in
theorem k_X12_marksSet (l : Launch) (D : va_G) (C : Nat → ClassId) (sz : Nat) (aM : Nat → Nat)  (ms : Nat → Int32) (mw : Nat → Int64) (ma : Nat → Nat → Int32) (ml : Nat → Nat → Int64) (p1 : Int32) {post : (Nat → Nat → Int32) → Prop} (h : P_X12_marksSet ma p1 post) : Met l yX12_marksSet vsX12_marksSet rmX12_marksSet (cPre D C [.ref (aM 0), .int p1] sz (wM aM C ms mw ma ml)) (cQv D (fun (u : (Nat → Nat → Int32)) => post u) (fun u => wM aM C ms mw u ml) (va_A (List.flatten (wM aM C ms mw ma ml)) sz)) 0 0 (va_A (List.flatten (wM aM C ms mw ma ml)) sz) := by
  refine cStart (QA := fun A => cQv D (fun (u : (Nat → Nat → Int32)) => post u) (fun u => wM aM C ms mw u ml) A) (cc := cX12_marksSet) (maxL := 3) (ret := none) (by decide) (Nat.le_of_ble_eq_true rfl) ?_
  intro p e s m args below meth c A ls hx hb hr hml hown hw hlocks hname hK hN hA hP hD hS hl
  generalize hQ : MQ below _ args s 0 0 A = Q
  have hl : lv_has ls 3 [(0, .ref (aM 0)), (1, .int p1)] := hl
  obtain ⟨H, hH⟩ : ∃ H, H = s.heap := ⟨_, rfl⟩
  obtain ⟨locs, hlo⟩ : ∃ z : List Loc, z = [] := ⟨_, rfl⟩
  have hP : va_P D vwCl (List.flatten (wM aM C ms mw ma ml)) H := by rw [hH]; exact hP
  have hS : va_S A s.heap H locs := by rw [hH, hlo]; exact hS
  rw [show W p l e rmX12_marksSet s m args below meth c s.heap [] 0 0 Q (F0 m 0 ls []) = W p l e rmX12_marksSet s m args below meth c H locs 0 0 Q (F0 m 0 ls []) from by rw [hH, hlo]]
  have N2 : ∀  (n2 : Nat) (x2_ : Int32) (ma : Nat → Nat → Int32) (H : Heap) (locs : List Loc) (ls : Array Slot), P_X12_marksSet_2 p1 post   n2 x2_ ma → va_P D vwCl (List.flatten (wM aM C ms mw ma ml)) H → va_D A (List.flatten (wM aM C ms mw ma ml)) → va_S A s.heap H locs → lv_has ls 3 [(0, .ref (aM 0)), (1, .int p1), (2, .int x2_)] → W p l e rmX12_marksSet s m args below meth c H locs 0 0 Q (F0 m 2 ls []) := by
    intro n2
    induction n2 with
    | zero => intro x2_ ma H locs ls h hP hD hS hl; exact False.elim h
    | succ n2 ih2 =>
      intro x2_ ma H locs ls h hP hD hS hl
      refine lv_iload_n hx hb dX12_marksSet_2 rfl (lv_at hl 2 rfl) ?_
      refine lv_aload_n hx hb dX12_marksSet_3 rfl (lv_at hl 0 rfl) ?_
      refine va_get (D := D) (ci := 12) (v := .ref (aM 13)) (C := RX12) (T := TX12) (N := 51) hx hb hw inW_X12 hown hK hP 0 rfl rfl 23 (by decide) (hw _ mw_6_66) (fun _ h9 => h9) rfl dX12_marksSet_4 ?_
      refine lv_iconst (v := 0) hx hb dX12_marksSet_7 (by decide) ?_
      refine cIald hx hb hK hP 13 0 rfl rfl 0 (by decide +kernel) (cIn (by decide +kernel)) dX12_marksSet_8 ?_
      refine lv_icmp_ge (tgt := 35) hx hb dX12_marksSet_9 (by decide) (fun c1 => ?_) (fun c1 => ?_)
      · have h := h.1 c1
        rw [← hQ]
        exact cRetV (ma) hx hb hr hlocks hS hP hD h dX12_marksSet_35
      · have h := h.2 c1
        refine lv_aload_n hx hb dX12_marksSet_12 rfl (lv_at hl 0 rfl) ?_
        refine va_get (D := D) (ci := 12) (v := .ref (aM 14)) (C := RX12) (T := TX12) (N := 51) hx hb hw inW_X12 hown hK hP 0 rfl rfl 24 (by decide) (hw _ mw_6_67) (fun _ h9 => h9) rfl dX12_marksSet_13 ?_
        refine lv_iconst (v := 0) hx hb dX12_marksSet_16 (by decide) ?_
        refine lv_iload_n hx hb dX12_marksSet_17 rfl (lv_at hl 2 rfl) ?_
        refine cGoEI (cRunES (As := [.int 0, .int x2_]) (rest := [.ref (aM 14)]) ⟨hx, hb, hml, hown, hw⟩ hK hN hP hD (k_X12_at l D C _    0 x2_ h) (va_cwS 2 hw (goodS mw_7_148 mw_7_149 mw_1_13 mw_7_150) rfl rfl rfl (by decide +kernel) ⟨Nat.le_of_ble_eq_true rfl, Nat.le_of_ble_eq_true rfl⟩) rfl hl.1 rfl (Nat.le_of_ble_eq_true rfl) dX12_marksSet_18 ⟨Nat.zero_le _, Nat.zero_le _⟩) hP hD hS hA (fun r2 u H locs h hP hD hS => ?_)
        have hP : va_P D vwCl (List.flatten (wM aM C ms mw ma ml)) H := hP
        have hD : va_D A (List.flatten (wM aM C ms mw ma ml)) := hD
        refine lv_iconst (v := 4) hx hb dX12_marksSet_21 (by decide) ?_
        refine lv_iadd hx hb dX12_marksSet_22 ?_
        refine lv_iload_n hx hb dX12_marksSet_23 rfl (lv_at hl 1 rfl) ?_
        refine lv_iload_n hx hb dX12_marksSet_24 rfl (lv_at hl 2 rfl) ?_
        refine lv_ishr hx hb dX12_marksSet_25 ?_
        refine lv_iconst (v := 1) hx hb dX12_marksSet_26 (by decide) ?_
        refine lv_iand hx hb dX12_marksSet_27 ?_
        refine cIast hx hb hK hP hD hS 14 0 rfl rfl ((r2 + 4).toNatClampNeg) rfl h.1 dX12_marksSet_28 (fun H locs hP hD hS => ?_)
        have h := h.2
        refine lv_iinc (v := (x2_ + 1)) (lv' := [(2, .int (x2_ + 1)), (0, .ref (aM 0)), (1, .int p1)]) hx hb dX12_marksSet_29 hl (k := 2) rfl rfl (by decide) rfl (fun ls hl => ?_)
        refine lv_goto (tgt := 2) hx hb dX12_marksSet_32 (by decide) ?_
        have hP : va_P D vwCl (List.flatten (wM aM C ms mw (va_up ma 11 (upd (ma 11) ((r2 + 4).toNatClampNeg) ((p1 >>> (x2_ &&& 31)) &&& 1))) ml)) H := hP
        have hD : va_D A (List.flatten (wM aM C ms mw (va_up ma 11 (upd (ma 11) ((r2 + 4).toNatClampNeg) ((p1 >>> (x2_ &&& 31)) &&& 1))) ml)) := hD
        exact ih2 (x2_ + 1) (va_up ma 11 (upd (ma 11) ((r2 + 4).toNatClampNeg) ((p1 >>> (x2_ &&& 31)) &&& 1))) _ _ _ h hP hD hS (lv_sub hl [1, 2, 0] rfl)
  refine lv_iconst (v := 0) hx hb dX12_marksSet_0 (by decide) ?_
  refine lv_istore_n (lv' := [(2, .int 0), (0, .ref (aM 0)), (1, .int p1)]) hx hb dX12_marksSet_1 rfl hl (by decide) rfl (fun ls hl => ?_)
  obtain ⟨n, h⟩ := h
  exact N2  n 0 ma _ _ _ h hP hD hS (lv_sub hl [1, 2, 0] rfl)
abbrev vsX12_isWanted : List Cond := Cond.code yX12_isWanted cX12_isWanted 2 (some .boolean) :: WS
abbrev rmX12_isWanted : Room := { frames := 4, cells := 0, slots := 0, locals := 95 }
set_option maxHeartbeats 4000000 in
set_option maxRecDepth 100000 in
theorem k_X12_isWanted (l : Launch) (D : va_G) (C : Nat → ClassId) (sz : Nat) (aM : Nat → Nat)  (ms : Nat → Int32) (mw : Nat → Int64) (ma : Nat → Nat → Int32) (ml : Nat → Nat → Int64)  {post : Int32 → (Nat → Int32) → (Nat → Nat → Int32) → Prop} (h : P_X12_isWanted ms ma post) : Met l yX12_isWanted vsX12_isWanted rmX12_isWanted (cPre D C [.ref (aM 0)] sz (wM aM C ms mw ma ml)) (cQi D (fun (r : Int32) (u : (Nat → Int32) × (Nat → Nat → Int32)) => post r u.1 u.2) (fun u => wM aM C u.1 mw u.2 ml) (va_A (List.flatten (wM aM C ms mw ma ml)) sz)) 0 0 (va_A (List.flatten (wM aM C ms mw ma ml)) sz) := by
  refine cStart (QA := fun A => cQi D (fun (r : Int32) (u : (Nat → Int32) × (Nat → Nat → Int32)) => post r u.1 u.2) (fun u => wM aM C u.1 mw u.2 ml) A) (cc := cX12_isWanted) (maxL := 2) (ret := (some .boolean)) (by decide) (Nat.le_of_ble_eq_true rfl) ?_
  intro p e s m args below meth c A ls hx hb hr hml hown hw hlocks hname hK hN hA hP hD hS hl
  generalize hQ : MQ below _ args s 0 0 A = Q
  have hl : lv_has ls 2 [(0, .ref (aM 0))] := hl
  obtain ⟨H, hH⟩ : ∃ H, H = s.heap := ⟨_, rfl⟩
  obtain ⟨locs, hlo⟩ : ∃ z : List Loc, z = [] := ⟨_, rfl⟩
  have hP : va_P D vwCl (List.flatten (wM aM C ms mw ma ml)) H := by rw [hH]; exact hP
  have hS : va_S A s.heap H locs := by rw [hH, hlo]; exact hS
  rw [show W p l e rmX12_isWanted s m args below meth c s.heap [] 0 0 Q (F0 m 0 ls []) = W p l e rmX12_isWanted s m args below meth c H locs 0 0 Q (F0 m 0 ls []) from by rw [hH, hlo]]
  have N7 : ∀ (ms : Nat → Int32) (ma : Nat → Nat → Int32) (n7 : Nat) (x1_ : Int32) (H : Heap) (locs : List Loc) (ls : Array Slot), P_X12_isWanted_7  post  ms ma n7 x1_ → va_P D vwCl (List.flatten (wM aM C ms mw ma ml)) H → va_D A (List.flatten (wM aM C ms mw ma ml)) → va_S A s.heap H locs → lv_has ls 2 [(0, .ref (aM 0)), (1, .int x1_)] → W p l e rmX12_isWanted s m args below meth c H locs 0 0 Q (F0 m 7 ls []) := by
    intro ms ma
    intro n7
    induction n7 with
    | zero => intro x1_ H locs ls h hP hD hS hl; exact False.elim h
    | succ n7 ih7 =>
      intro x1_ H locs ls h hP hD hS hl
      refine lv_iload_n hx hb dX12_isWanted_7 rfl (lv_at hl 1 rfl) ?_
      refine lv_aload_n hx hb dX12_isWanted_8 rfl (lv_at hl 0 rfl) ?_
      refine va_get (D := D) (ci := 12) (v := .ref (aM 15)) (C := RX12) (T := TX12) (N := 51) hx hb hw inW_X12 hown hK hP 0 rfl rfl 25 (by decide) (hw _ mw_6_68) (fun _ h9 => h9) rfl dX12_isWanted_9 ?_
      refine lv_iconst (v := 0) hx hb dX12_isWanted_12 (by decide) ?_
      refine cIald hx hb hK hP 15 0 rfl rfl 0 (by decide +kernel) (cIn (by decide +kernel)) dX12_isWanted_13 ?_
      refine lv_icmp_ge (tgt := 33) hx hb dX12_isWanted_14 (by decide) (fun c1 => ?_) (fun c1 => ?_)
      · have h := h.1 c1
        refine lv_iconst (v := 0) hx hb dX12_isWanted_33 (by decide) ?_
        rw [← hQ]
        exact cRetZ (v := 0) (ms, ma) hx hb hr hlocks hS hP hD (Or.inl rfl) h dX12_isWanted_34
      · have h := h.2 c1
        refine lv_aload_n hx hb dX12_isWanted_17 rfl (lv_at hl 0 rfl) ?_
        refine lv_iload_n hx hb dX12_isWanted_18 rfl (lv_at hl 1 rfl) ?_
        refine cGoAI (cRunAV (As := [.int x1_]) (rest := []) ⟨hx, hb, hml, hown, hw⟩ hK hN hP hD (k_X12_wantsOf l D C _ aM  ms mw ma ml x1_ h) (cwV 1 hw (goodV mw_7_192 mw_7_194 mw_s140 mw_1_13 mw_7_195) rfl rfl rfl (by decide +kernel) ⟨Nat.le_of_ble_eq_true rfl, Nat.le_of_ble_eq_true rfl⟩) rfl rfl rfl hl.1 rfl (Nat.le_of_ble_eq_true rfl) dX12_isWanted_19 ⟨Nat.zero_le _, Nat.zero_le _⟩) hP hD hS hA (fun r2 u H locs h hP hD hS => ?_)
        have hP : va_P D vwCl (List.flatten (wM aM C ms mw ma ml)) H := hP
        have hD : va_D A (List.flatten (wM aM C ms mw ma ml)) := hD
        refine lv_if_le (tgt := 27) hx hb dX12_isWanted_22 (by decide) (fun c3 => ?_) (fun c3 => ?_)
        · have h := h.1 c3
          refine lv_iinc (v := (x1_ + 1)) (lv' := [(1, .int (x1_ + 1)), (0, .ref (aM 0))]) hx hb dX12_isWanted_27 hl (k := 1) rfl rfl (by decide) rfl (fun ls hl => ?_)
          refine lv_goto (tgt := 7) hx hb dX12_isWanted_30 (by decide) ?_
          exact ih7 (x1_ + 1) _ _ _ h hP hD hS (lv_sub hl [1, 0] rfl)
        · have h := h.2 c3
          refine lv_iconst (v := 1) hx hb dX12_isWanted_25 (by decide) ?_
          rw [← hQ]
          exact cRetZ (v := 1) (ms, ma) hx hb hr hlocks hS hP hD (Or.inr rfl) h dX12_isWanted_26
  refine lv_aload_n hx hb dX12_isWanted_0 rfl (lv_at hl 0 rfl) ?_
  refine lv_iconst (v := (-1)) hx hb dX12_isWanted_1 (by decide) ?_
  refine cGoAV (cRunAV (As := [.int (-1)]) (rest := []) ⟨hx, hb, hml, hown, hw⟩ hK hN hP hD (k_X12_lays l D C _ aM  ms mw ma ml (-1) h) (cwV 1 hw (goodV mw_7_180 mw_7_182 mw_s138 mw_1_13 mw_7_183) rfl rfl rfl (by decide +kernel) ⟨Nat.le_of_ble_eq_true rfl, Nat.le_of_ble_eq_true rfl⟩) rfl rfl rfl hl.1 rfl (Nat.le_of_ble_eq_true rfl) dX12_isWanted_2 ⟨Nat.zero_le _, Nat.zero_le _⟩) hP hD hS hA (fun u H locs h hP hD hS => ?_)
  obtain ⟨ms_4, ma_5⟩ := u
  have hP : va_P D vwCl (List.flatten (wM aM C ms_4 mw ma_5 ml)) H := hP
  have hD : va_D A (List.flatten (wM aM C ms_4 mw ma_5 ml)) := hD
  refine lv_iconst (v := 0) hx hb dX12_isWanted_5 (by decide) ?_
  refine lv_istore_n (lv' := [(1, .int 0), (0, .ref (aM 0))]) hx hb dX12_isWanted_6 rfl hl (by decide) rfl (fun ls hl => ?_)
  obtain ⟨n, h⟩ := h
  exact N7 ms_4 ma_5 n 0 _ _ _ h hP hD hS (lv_sub hl [1, 0] rfl)
abbrev vsX12_marks : List Cond := Cond.code yX12_marks cX12_marks 3 (some .int) :: WS
abbrev rmX12_marks : Room := { frames := 5, cells := 0, slots := 0, locals := 116 }
set_option maxHeartbeats 4000000 in
set_option maxRecDepth 100000 in
theorem k_X12_marks (l : Launch) (D : va_G) (C : Nat → ClassId) (sz : Nat) (aM : Nat → Nat)  (ms : Nat → Int32) (mw : Nat → Int64) (ma : Nat → Nat → Int32) (ml : Nat → Nat → Int64)  {post : Int32 → (Nat → Int32) → (Nat → Nat → Int32) → Prop} (h : P_X12_marks ms ma post) : Met l yX12_marks vsX12_marks rmX12_marks (cPre D C [.ref (aM 0)] sz (wM aM C ms mw ma ml)) (cQi D (fun (r : Int32) (u : (Nat → Int32) × (Nat → Nat → Int32)) => post r u.1 u.2) (fun u => wM aM C u.1 mw u.2 ml) (va_A (List.flatten (wM aM C ms mw ma ml)) sz)) 0 0 (va_A (List.flatten (wM aM C ms mw ma ml)) sz) := by
  refine cStart (QA := fun A => cQi D (fun (r : Int32) (u : (Nat → Int32) × (Nat → Nat → Int32)) => post r u.1 u.2) (fun u => wM aM C u.1 mw u.2 ml) A) (cc := cX12_marks) (maxL := 3) (ret := (some .int)) (by decide) (Nat.le_of_ble_eq_true rfl) ?_
  intro p e s m args below meth c A ls hx hb hr hml hown hw hlocks hname hK hN hA hP hD hS hl
  generalize hQ : MQ below _ args s 0 0 A = Q
  have hl : lv_has ls 3 [(0, .ref (aM 0))] := hl
  obtain ⟨H, hH⟩ : ∃ H, H = s.heap := ⟨_, rfl⟩
  obtain ⟨locs, hlo⟩ : ∃ z : List Loc, z = [] := ⟨_, rfl⟩
  have hP : va_P D vwCl (List.flatten (wM aM C ms mw ma ml)) H := by rw [hH]; exact hP
  have hS : va_S A s.heap H locs := by rw [hH, hlo]; exact hS
  rw [show W p l e rmX12_marks s m args below meth c s.heap [] 0 0 Q (F0 m 0 ls []) = W p l e rmX12_marks s m args below meth c H locs 0 0 Q (F0 m 0 ls []) from by rw [hH, hlo]]
  have N66 : ∀ (x1_ : Int32) (ms : Nat → Int32) (ma : Nat → Nat → Int32) (H : Heap) (locs : List Loc) (ls : Array Slot), P_X12_marks_66  post  x1_ ms ma → va_P D vwCl (List.flatten (wM aM C ms mw ma ml)) H → va_D A (List.flatten (wM aM C ms mw ma ml)) → va_S A s.heap H locs → lv_has ls 3 [(0, .ref (aM 0)), (1, .int x1_)] → W p l e rmX12_marks s m args below meth c H locs 0 0 Q (F0 m 66 ls []) := by
    intro x1_ ms ma H locs ls h hP hD hS hl
    refine lv_aload_n hx hb dX12_marks_66 rfl (lv_at hl 0 rfl) ?_
    refine cGoAV (cRunAV (As := []) (rest := []) ⟨hx, hb, hml, hown, hw⟩ hK hN hP hD (k_X12_takesBack l D C _ aM  ms mw ma ml  h) (cwV 0 hw (goodV mw_8_97 mw_8_99 mw_s162 mw_1_13 mw_8_100) rfl rfl rfl (by decide +kernel) ⟨Nat.le_of_ble_eq_true rfl, Nat.le_of_ble_eq_true rfl⟩) rfl rfl rfl hl.1 rfl (Nat.le_of_ble_eq_true rfl) dX12_marks_67 ⟨Nat.zero_le _, Nat.zero_le _⟩) hP hD hS hA (fun ma_1 H locs h hP hD hS => ?_)
    have hP : va_P D vwCl (List.flatten (wM aM C ms mw ma_1 ml)) H := hP
    have hD : va_D A (List.flatten (wM aM C ms mw ma_1 ml)) := hD
    refine lv_iload_n hx hb dX12_marks_70 rfl (lv_at hl 1 rfl) ?_
    rw [← hQ]
    exact cRetI (v := x1_) (ms, ma_1) hx hb hr hlocks hS hP hD h dX12_marks_71
  have N23 : ∀  (n23 : Nat) (x1_ : Int32) (x2_ : Int32) (ms : Nat → Int32) (ma : Nat → Nat → Int32) (H : Heap) (locs : List Loc) (ls : Array Slot), P_X12_marks_23  post (fun (x1_ : Int32) (ms : Nat → Int32) (ma : Nat → Nat → Int32) => P_X12_marks_66  post  x1_ ms ma)  n23 x1_ x2_ ms ma → va_P D vwCl (List.flatten (wM aM C ms mw ma ml)) H → va_D A (List.flatten (wM aM C ms mw ma ml)) → va_S A s.heap H locs → lv_has ls 3 [(0, .ref (aM 0)), (1, .int x1_), (2, .int x2_)] → W p l e rmX12_marks s m args below meth c H locs 0 0 Q (F0 m 23 ls []) := by
    intro n23
    induction n23 with
    | zero => intro x1_ x2_ ms ma H locs ls h hP hD hS hl; exact False.elim h
    | succ n23 ih23 =>
      intro x1_ x2_ ms ma H locs ls h hP hD hS hl
      refine lv_iload_n hx hb dX12_marks_23 rfl (lv_at hl 2 rfl) ?_
      refine lv_aload_n hx hb dX12_marks_24 rfl (lv_at hl 0 rfl) ?_
      refine va_get (D := D) (ci := 12) (v := .ref (aM 13)) (C := RX12) (T := TX12) (N := 51) hx hb hw inW_X12 hown hK hP 0 rfl rfl 23 (by decide) (hw _ mw_6_66) (fun _ h9 => h9) rfl dX12_marks_25 ?_
      refine lv_iconst (v := 0) hx hb dX12_marks_28 (by decide) ?_
      refine cIald hx hb hK hP 13 0 rfl rfl 0 (by decide +kernel) (cIn (by decide +kernel)) dX12_marks_29 ?_
      refine lv_icmp_gt (tgt := 66) hx hb dX12_marks_30 (by decide) (fun c2 => ?_) (fun c2 => ?_)
      · have h := h.1 c2
        exact N66 x1_ ms ma _ _ _ h hP hD hS (lv_sub hl [0, 1] rfl)
      · have h := h.2 c2
        refine lv_iload_n hx hb dX12_marks_33 rfl (lv_at hl 1 rfl) ?_
        refine lv_iconst (v := (-1)) hx hb dX12_marks_34 (by decide) ?_
        refine lv_icmp_ne (tgt := 66) hx hb dX12_marks_35 (by decide) (fun c3 => ?_) (fun c3 => ?_)
        · have h := h.1 c3
          exact N66 x1_ ms ma _ _ _ h hP hD hS (lv_sub hl [0, 1] rfl)
        · have h := h.2 c3
          refine lv_aload_n hx hb dX12_marks_38 rfl (lv_at hl 0 rfl) ?_
          refine lv_iconst (v := 1) hx hb dX12_marks_39 (by decide) ?_
          refine lv_iload_n hx hb dX12_marks_40 rfl (lv_at hl 2 rfl) ?_
          refine lv_ishl hx hb dX12_marks_41 ?_
          refine lv_iconst (v := 1) hx hb dX12_marks_42 (by decide) ?_
          refine lv_isub hx hb dX12_marks_43 ?_
          refine cGoAV (cRunAV (As := [.int (((1 : Int32) <<< (x2_ &&& 31)) - 1)]) (rest := []) ⟨hx, hb, hml, hown, hw⟩ hK hN hP hD (k_X12_marksSet l D C _ aM  ms mw ma ml (((1 : Int32) <<< (x2_ &&& 31)) - 1) h) (cwV 1 hw (goodV mw_8_203 mw_8_205 mw_s170 mw_1_13 mw_8_206) rfl rfl rfl (by decide +kernel) ⟨Nat.le_of_ble_eq_true rfl, Nat.le_of_ble_eq_true rfl⟩) rfl rfl rfl hl.1 rfl (Nat.le_of_ble_eq_true rfl) dX12_marks_44 ⟨Nat.zero_le _, Nat.zero_le _⟩) hP hD hS hA (fun ma_4 H locs h hP hD hS => ?_)
          have hP : va_P D vwCl (List.flatten (wM aM C ms mw ma_4 ml)) H := hP
          have hD : va_D A (List.flatten (wM aM C ms mw ma_4 ml)) := hD
          refine lv_aload_n hx hb dX12_marks_47 rfl (lv_at hl 0 rfl) ?_
          refine cGoAI (cRunAV (As := []) (rest := []) ⟨hx, hb, hml, hown, hw⟩ hK hN hP hD (k_X12_isWanted l D C _ aM  ms mw ma_4 ml  h) (cwV 0 hw (goodV mw_8_207 mw_8_209 mw_s171 mw_1_13 mw_8_210) rfl rfl rfl (by decide +kernel) ⟨Nat.le_of_ble_eq_true rfl, Nat.le_of_ble_eq_true rfl⟩) rfl rfl rfl hl.1 rfl (Nat.le_of_ble_eq_true rfl) dX12_marks_48 ⟨Nat.zero_le _, Nat.zero_le _⟩) hP hD hS hA (fun r7 u H locs h hP hD hS => ?_)
          obtain ⟨ms_5, ma_6⟩ := u
          have hP : va_P D vwCl (List.flatten (wM aM C ms_5 mw ma_6 ml)) H := hP
          have hD : va_D A (List.flatten (wM aM C ms_5 mw ma_6 ml)) := hD
          refine lv_if_eq (tgt := 58) hx hb dX12_marks_51 (by decide) (fun c8 => ?_) (fun c8 => ?_)
          · have h := h.1 c8
            refine lv_iload_n hx hb dX12_marks_58 rfl (lv_at hl 2 rfl) ?_
            refine lv_istore_n (lv' := [(1, .int x2_), (0, .ref (aM 0)), (2, .int x2_)]) hx hb dX12_marks_59 rfl hl (by decide) rfl (fun ls hl => ?_)
            refine lv_iinc (v := (x2_ + 1)) (lv' := [(2, .int (x2_ + 1)), (1, .int x2_), (0, .ref (aM 0))]) hx hb dX12_marks_60 hl (k := 2) rfl rfl (by decide) rfl (fun ls hl => ?_)
            refine lv_goto (tgt := 23) hx hb dX12_marks_63 (by decide) ?_
            exact ih23 x2_ (x2_ + 1) ms_5 ma_6 _ _ _ h hP hD hS (lv_sub hl [2, 1, 0] rfl)
          · have h := h.2 c8
            refine lv_iconst (v := (-1)) hx hb dX12_marks_54 (by decide) ?_
            refine lv_goto (tgt := 59) hx hb dX12_marks_55 (by decide) ?_
            refine lv_istore_n (lv' := [(1, .int (-1)), (0, .ref (aM 0)), (2, .int x2_)]) hx hb dX12_marks_59 rfl hl (by decide) rfl (fun ls hl => ?_)
            refine lv_iinc (v := (x2_ + 1)) (lv' := [(2, .int (x2_ + 1)), (1, .int (-1)), (0, .ref (aM 0))]) hx hb dX12_marks_60 hl (k := 2) rfl rfl (by decide) rfl (fun ls hl => ?_)
            refine lv_goto (tgt := 23) hx hb dX12_marks_63 (by decide) ?_
            exact ih23 (-1) (x2_ + 1) ms_5 ma_6 _ _ _ h hP hD hS (lv_sub hl [2, 1, 0] rfl)
  refine lv_aload_n hx hb dX12_marks_0 rfl (lv_at hl 0 rfl) ?_
  refine lv_iconst (v := 0) hx hb dX12_marks_1 (by decide) ?_
  refine va_put (D := D) (ci := 12) (v := .int 0) (ty := .int) (C := RX12) (T := TX12) (N := 51) hx hb hw inW_X12 tyX12 tyX12_ok nmX12 hown hK hP hD hS 0 rfl rfl 0 (by decide) (hw _ mw_6_43) (fun _ h9 => h9) rfl (by decide +kernel) rfl rfl (Nat.le_of_ble_eq_true rfl) dX12_marks_2 (fun H locs hP hD hS => ?_)
  refine lv_aload_n hx hb dX12_marks_5 rfl (lv_at hl 0 rfl) ?_
  have hP : va_P D vwCl (List.flatten (wM aM C (va_up ms 0 0) mw ma ml)) H := hP
  have hD : va_D A (List.flatten (wM aM C (va_up ms 0 0) mw ma ml)) := hD
  refine cGoAI (cRunAV (As := []) (rest := []) ⟨hx, hb, hml, hown, hw⟩ hK hN hP hD (k_X12_isRail l D C _ aM  (va_up ms 0 0) mw ma ml  h) (cwV 0 hw (goodV mw_7_204 mw_7_206 mw_s142 mw_1_13 mw_7_207) rfl rfl rfl (by decide +kernel) ⟨Nat.le_of_ble_eq_true rfl, Nat.le_of_ble_eq_true rfl⟩) rfl rfl rfl hl.1 rfl (Nat.le_of_ble_eq_true rfl) dX12_marks_6 ⟨Nat.zero_le _, Nat.zero_le _⟩) hP hD hS hA (fun r9 u H locs h hP hD hS => ?_)
  have hP : va_P D vwCl (List.flatten (wM aM C (va_up ms 0 0) mw ma ml)) H := hP
  have hD : va_D A (List.flatten (wM aM C (va_up ms 0 0) mw ma ml)) := hD
  refine lv_if_ne (tgt := 15) hx hb dX12_marks_9 (by decide) (fun c10 => ?_) (fun c10 => ?_)
  · have h := h.1 c10
    refine lv_aload_n hx hb dX12_marks_15 rfl (lv_at hl 0 rfl) ?_
    refine cGoAV (cRunAV (As := []) (rest := []) ⟨hx, hb, hml, hown, hw⟩ hK hN hP hD (k_X12_laysAside l D C _ aM  (va_up ms 0 0) mw ma ml  h) (cwV 0 hw (goodV mw_8_93 mw_8_95 mw_s161 mw_1_13 mw_8_96) rfl rfl rfl (by decide +kernel) ⟨Nat.le_of_ble_eq_true rfl, Nat.le_of_ble_eq_true rfl⟩) rfl rfl rfl hl.1 rfl (Nat.le_of_ble_eq_true rfl) dX12_marks_16 ⟨Nat.zero_le _, Nat.zero_le _⟩) hP hD hS hA (fun ma_11 H locs h hP hD hS => ?_)
    have hP : va_P D vwCl (List.flatten (wM aM C (va_up ms 0 0) mw ma_11 ml)) H := hP
    have hD : va_D A (List.flatten (wM aM C (va_up ms 0 0) mw ma_11 ml)) := hD
    refine lv_iconst (v := (-1)) hx hb dX12_marks_19 (by decide) ?_
    refine lv_istore_n (lv' := [(1, .int (-1)), (0, .ref (aM 0))]) hx hb dX12_marks_20 rfl hl (by decide) rfl (fun ls hl => ?_)
    refine lv_iconst (v := 0) hx hb dX12_marks_21 (by decide) ?_
    refine lv_istore_n (lv' := [(2, .int 0), (1, .int (-1)), (0, .ref (aM 0))]) hx hb dX12_marks_22 rfl hl (by decide) rfl (fun ls hl => ?_)
    obtain ⟨n, h⟩ := h
    exact N23  n (-1) 0 (va_up ms 0 0) ma_11 _ _ _ h hP hD hS (lv_sub hl [2, 1, 0] rfl)
  · have h := h.2 c10
    refine lv_bipush (v := (-2)) hx hb dX12_marks_12 (by decide) ?_
    rw [← hQ]
    exact cRetI (v := (-2)) ((va_up ms 0 0), ma) hx hb hr hlocks hS hP hD h dX12_marks_14
abbrev vsX12_hides : List Cond := Cond.code yX12_hides cX12_hides 4 (some .long) :: WS
abbrev rmX12_hides : Room := { frames := 5, cells := 0, slots := 0, locals := 119 }
set_option maxHeartbeats 4000000 in
set_option maxRecDepth 100000 in
theorem k_X12_hides (l : Launch) (D : va_G) (C : Nat → ClassId) (sz : Nat) (aM : Nat → Nat)  (ms : Nat → Int32) (mw : Nat → Int64) (ma : Nat → Nat → Int32) (ml : Nat → Nat → Int64) (p1 : Int32) {post : Int64 → (Nat → Int32) → (Nat → Nat → Int32) → (Nat → Nat → Int64) → Prop} (h : P_X12_hides ms ma ml p1 post) : Met l yX12_hides vsX12_hides rmX12_hides (cPre D C [.ref (aM 0), .int p1] sz (wM aM C ms mw ma ml)) (cQl D (fun (r : Int64) (u : (Nat → Int32) × (Nat → Nat → Int32) × (Nat → Nat → Int64)) => post r u.1 u.2.1 u.2.2) (fun u => wM aM C u.1 mw u.2.1 u.2.2) (va_A (List.flatten (wM aM C ms mw ma ml)) sz)) 0 0 (va_A (List.flatten (wM aM C ms mw ma ml)) sz) := by
  refine cStart (QA := fun A => cQl D (fun (r : Int64) (u : (Nat → Int32) × (Nat → Nat → Int32) × (Nat → Nat → Int64)) => post r u.1 u.2.1 u.2.2) (fun u => wM aM C u.1 mw u.2.1 u.2.2) A) (cc := cX12_hides) (maxL := 4) (ret := (some .long)) (by decide) (Nat.le_of_ble_eq_true rfl) ?_
  intro p e s m args below meth c A ls hx hb hr hml hown hw hlocks hname hK hN hA hP hD hS hl
  generalize hQ : MQ below _ args s 0 0 A = Q
  have hl : lv_has ls 4 [(0, .ref (aM 0)), (1, .int p1)] := hl
  obtain ⟨H, hH⟩ : ∃ H, H = s.heap := ⟨_, rfl⟩
  obtain ⟨locs, hlo⟩ : ∃ z : List Loc, z = [] := ⟨_, rfl⟩
  have hP : va_P D vwCl (List.flatten (wM aM C ms mw ma ml)) H := by rw [hH]; exact hP
  have hS : va_S A s.heap H locs := by rw [hH, hlo]; exact hS
  rw [show W p l e rmX12_hides s m args below meth c s.heap [] 0 0 Q (F0 m 0 ls []) = W p l e rmX12_hides s m args below meth c H locs 0 0 Q (F0 m 0 ls []) from by rw [hH, hlo]]
  refine lv_aload_n hx hb dX12_hides_0 rfl (lv_at hl 0 rfl) ?_
  refine lv_iconst (v := 0) hx hb dX12_hides_1 (by decide) ?_
  refine va_put (D := D) (ci := 12) (v := .int 0) (ty := .int) (C := RX12) (T := TX12) (N := 51) hx hb hw inW_X12 tyX12 tyX12_ok nmX12 hown hK hP hD hS 0 rfl rfl 0 (by decide) (hw _ mw_6_43) (fun _ h9 => h9) rfl (by decide +kernel) rfl rfl (Nat.le_of_ble_eq_true rfl) dX12_hides_2 (fun H locs hP hD hS => ?_)
  refine lv_aload_n hx hb dX12_hides_5 rfl (lv_at hl 0 rfl) ?_
  refine lv_iload_n hx hb dX12_hides_6 rfl (lv_at hl 1 rfl) ?_
  have hP : va_P D vwCl (List.flatten (wM aM C (va_up ms 0 0) mw ma ml)) H := hP
  have hD : va_D A (List.flatten (wM aM C (va_up ms 0 0) mw ma ml)) := hD
  refine cGoAI (cRunAV (As := [.int p1]) (rest := []) ⟨hx, hb, hml, hown, hw⟩ hK hN hP hD (k_X12_isBike l D C _ aM  (va_up ms 0 0) mw ma ml p1 h) (cwV 1 hw (goodV mw_7_143 mw_7_145 mw_s133 mw_1_13 mw_7_146) rfl rfl rfl (by decide +kernel) ⟨Nat.le_of_ble_eq_true rfl, Nat.le_of_ble_eq_true rfl⟩) rfl rfl rfl hl.1 rfl (Nat.le_of_ble_eq_true rfl) dX12_hides_7 ⟨Nat.zero_le _, Nat.zero_le _⟩) hP hD hS hA (fun r1 u H locs h hP hD hS => ?_)
  have hP : va_P D vwCl (List.flatten (wM aM C (va_up ms 0 0) mw ma ml)) H := hP
  have hD : va_D A (List.flatten (wM aM C (va_up ms 0 0) mw ma ml)) := hD
  refine lv_if_ne (tgt := 17) hx hb dX12_hides_10 (by decide) (fun c2 => ?_) (fun c2 => ?_)
  · have h := h.1 c2
    refine lv_aload_n hx hb dX12_hides_17 rfl (lv_at hl 0 rfl) ?_
    refine cGoAV (cRunAV (As := []) (rest := []) ⟨hx, hb, hml, hown, hw⟩ hK hN hP hD (k_X12_laysAside l D C _ aM  (va_up ms 0 0) mw ma ml  h) (cwV 0 hw (goodV mw_8_93 mw_8_95 mw_s161 mw_1_13 mw_8_96) rfl rfl rfl (by decide +kernel) ⟨Nat.le_of_ble_eq_true rfl, Nat.le_of_ble_eq_true rfl⟩) rfl rfl rfl hl.1 rfl (Nat.le_of_ble_eq_true rfl) dX12_hides_18 ⟨Nat.zero_le _, Nat.zero_le _⟩) hP hD hS hA (fun ma_3 H locs h hP hD hS => ?_)
    have hP : va_P D vwCl (List.flatten (wM aM C (va_up ms 0 0) mw ma_3 ml)) H := hP
    have hD : va_D A (List.flatten (wM aM C (va_up ms 0 0) mw ma_3 ml)) := hD
    refine lv_aload_n hx hb dX12_hides_21 rfl (lv_at hl 0 rfl) ?_
    refine lv_iconst (v := 0) hx hb dX12_hides_22 (by decide) ?_
    refine cGoAV (cRunAV (As := [.int 0]) (rest := []) ⟨hx, hb, hml, hown, hw⟩ hK hN hP hD (k_X12_marksSet l D C _ aM  (va_up ms 0 0) mw ma_3 ml 0 h) (cwV 1 hw (goodV mw_8_203 mw_8_205 mw_s170 mw_1_13 mw_8_206) rfl rfl rfl (by decide +kernel) ⟨Nat.le_of_ble_eq_true rfl, Nat.le_of_ble_eq_true rfl⟩) rfl rfl rfl hl.1 rfl (Nat.le_of_ble_eq_true rfl) dX12_hides_23 ⟨Nat.zero_le _, Nat.zero_le _⟩) hP hD hS hA (fun ma_4 H locs h hP hD hS => ?_)
    have hP : va_P D vwCl (List.flatten (wM aM C (va_up ms 0 0) mw ma_4 ml)) H := hP
    have hD : va_D A (List.flatten (wM aM C (va_up ms 0 0) mw ma_4 ml)) := hD
    refine lv_aload_n hx hb dX12_hides_26 rfl (lv_at hl 0 rfl) ?_
    refine cGoAV (cRunAV (As := []) (rest := []) ⟨hx, hb, hml, hown, hw⟩ hK hN hP hD (k_X12_night l D C _ aM  (va_up ms 0 0) mw ma_4 ml  h) (cwV 0 hw (goodV mw_7_209 mw_7_211 mw_s143 mw_1_13 mw_7_212) rfl rfl rfl (by decide +kernel) ⟨Nat.le_of_ble_eq_true rfl, Nat.le_of_ble_eq_true rfl⟩) rfl rfl rfl hl.1 rfl (Nat.le_of_ble_eq_true rfl) dX12_hides_27 ⟨Nat.zero_le _, Nat.zero_le _⟩) hP hD hS hA (fun u H locs h hP hD hS => ?_)
    obtain ⟨ms_5, ma_6, ml_7⟩ := u
    have hP : va_P D vwCl (List.flatten (wM aM C ms_5 mw ma_6 ml_7)) H := hP
    have hD : va_D A (List.flatten (wM aM C ms_5 mw ma_6 ml_7)) := hD
    refine lv_aload_n hx hb dX12_hides_30 rfl (lv_at hl 0 rfl) ?_
    refine lv_iload_n hx hb dX12_hides_31 rfl (lv_at hl 1 rfl) ?_
    refine cGoAL (cRunAV (As := [.int p1]) (rest := []) ⟨hx, hb, hml, hown, hw⟩ hK hN hP hD (k_X12_lossOf l D C _ aM  ms_5 mw ma_6 ml_7 p1 h) (cwV 1 hw (goodV mw_8_11 mw_8_13 mw_s148 mw_1_13 mw_8_14) rfl rfl rfl (by decide +kernel) ⟨Nat.le_of_ble_eq_true rfl, Nat.le_of_ble_eq_true rfl⟩) rfl rfl rfl hl.1 rfl (Nat.le_of_ble_eq_true rfl) dX12_hides_32 ⟨Nat.zero_le _, Nat.zero_le _⟩) hP hD hS hA (fun r8 u H locs h hP hD hS => ?_)
    have hP : va_P D vwCl (List.flatten (wM aM C ms_5 mw ma_6 ml_7)) H := hP
    have hD : va_D A (List.flatten (wM aM C ms_5 mw ma_6 ml_7)) := hD
    refine lv_lstore_n (lv' := [(2, .long r8), (0, .ref (aM 0)), (1, .int p1)]) hx hb dX12_hides_35 rfl hl (by decide) rfl (fun ls hl => ?_)
    refine lv_aload_n hx hb dX12_hides_36 rfl (lv_at hl 1 rfl) ?_
    refine lv_iconst (v := 1) hx hb dX12_hides_37 (by decide) ?_
    refine lv_aload_n hx hb dX12_hides_38 rfl (lv_at hl 1 rfl) ?_
    refine va_get (D := D) (ci := 12) (v := .ref (aM 13)) (C := RX12) (T := TX12) (N := 51) hx hb hw inW_X12 hown hK hP 0 rfl rfl 23 (by decide) (hw _ mw_6_66) (fun _ h9 => h9) rfl dX12_hides_39 ?_
    refine lv_iconst (v := 0) hx hb dX12_hides_42 (by decide) ?_
    refine cIald hx hb hK hP 13 0 rfl rfl 0 (by decide +kernel) (cIn (by decide +kernel)) dX12_hides_43 ?_
    refine lv_ishl hx hb dX12_hides_44 ?_
    refine lv_iconst (v := 1) hx hb dX12_hides_45 (by decide) ?_
    refine lv_isub hx hb dX12_hides_46 ?_
    refine lv_iconst (v := 1) hx hb dX12_hides_47 (by decide) ?_
    refine lv_iload_n hx hb dX12_hides_48 rfl (lv_at hl 2 rfl) ?_
    refine lv_ishl hx hb dX12_hides_49 ?_
    refine lv_iconst (v := (-1)) hx hb dX12_hides_50 (by decide) ?_
    refine lv_ixor hx hb dX12_hides_51 ?_
    refine lv_iand hx hb dX12_hides_52 ?_
    refine cGoAV (cRunAV (As := [.int ((((1 : Int32) <<< ((ma_6 10 0) &&& 31)) - 1) &&& (((1 : Int32) <<< (p1 &&& 31)) ^^^ (-1)))]) (rest := []) ⟨hx, hb, hml, hown, hw⟩ hK hN hP hD (k_X12_marksSet l D C _ aM  ms_5 mw ma_6 ml_7 ((((1 : Int32) <<< ((ma_6 10 0) &&& 31)) - 1) &&& (((1 : Int32) <<< (p1 &&& 31)) ^^^ (-1))) h) (cwV 1 hw (goodV mw_8_203 mw_8_205 mw_s170 mw_1_13 mw_8_206) rfl rfl rfl (by decide +kernel) ⟨Nat.le_of_ble_eq_true rfl, Nat.le_of_ble_eq_true rfl⟩) rfl rfl rfl hl.1 rfl (Nat.le_of_ble_eq_true rfl) dX12_hides_53 ⟨Nat.zero_le _, Nat.zero_le _⟩) hP hD hS hA (fun ma_9 H locs h hP hD hS => ?_)
    have hP : va_P D vwCl (List.flatten (wM aM C ms_5 mw ma_9 ml_7)) H := hP
    have hD : va_D A (List.flatten (wM aM C ms_5 mw ma_9 ml_7)) := hD
    refine lv_aload_n hx hb dX12_hides_56 rfl (lv_at hl 1 rfl) ?_
    refine cGoAV (cRunAV (As := []) (rest := []) ⟨hx, hb, hml, hown, hw⟩ hK hN hP hD (k_X12_night l D C _ aM  ms_5 mw ma_9 ml_7  h) (cwV 0 hw (goodV mw_7_209 mw_7_211 mw_s143 mw_1_13 mw_7_212) rfl rfl rfl (by decide +kernel) ⟨Nat.le_of_ble_eq_true rfl, Nat.le_of_ble_eq_true rfl⟩) rfl rfl rfl hl.1 rfl (Nat.le_of_ble_eq_true rfl) dX12_hides_57 ⟨Nat.zero_le _, Nat.zero_le _⟩) hP hD hS hA (fun u H locs h hP hD hS => ?_)
    obtain ⟨ms_10, ma_11, ml_12⟩ := u
    have hP : va_P D vwCl (List.flatten (wM aM C ms_10 mw ma_11 ml_12)) H := hP
    have hD : va_D A (List.flatten (wM aM C ms_10 mw ma_11 ml_12)) := hD
    refine lv_lload_n hx hb dX12_hides_60 rfl (lv_at hl 0 rfl) ?_
    refine lv_aload_n hx hb dX12_hides_61 rfl (lv_at hl 1 rfl) ?_
    refine lv_iload_n hx hb dX12_hides_62 rfl (lv_at hl 2 rfl) ?_
    refine cGoAL (cRunAV (As := [.int p1]) (rest := [.long r8]) ⟨hx, hb, hml, hown, hw⟩ hK hN hP hD (k_X12_lossOf l D C _ aM  ms_10 mw ma_11 ml_12 p1 h) (cwV 1 hw (goodV mw_8_11 mw_8_13 mw_s148 mw_1_13 mw_8_14) rfl rfl rfl (by decide +kernel) ⟨Nat.le_of_ble_eq_true rfl, Nat.le_of_ble_eq_true rfl⟩) rfl rfl rfl hl.1 rfl (Nat.le_of_ble_eq_true rfl) dX12_hides_63 ⟨Nat.zero_le _, Nat.zero_le _⟩) hP hD hS hA (fun r13 u H locs h hP hD hS => ?_)
    have hP : va_P D vwCl (List.flatten (wM aM C ms_10 mw ma_11 ml_12)) H := hP
    have hD : va_D A (List.flatten (wM aM C ms_10 mw ma_11 ml_12)) := hD
    refine lv_lsub hx hb dX12_hides_66 ?_
    refine lv_topl (fun x14 ex14 => ?_)
    have h := h x14 ex14
    refine lv_lstore_n (lv' := [(2, .long x14), (0, .ref (aM 0)), (1, .int p1)]) hx hb dX12_hides_67 rfl hl (by decide) rfl (fun ls hl => ?_)
    refine lv_aload_n hx hb dX12_hides_68 rfl (lv_at hl 1 rfl) ?_
    refine cGoAV (cRunAV (As := []) (rest := []) ⟨hx, hb, hml, hown, hw⟩ hK hN hP hD (k_X12_takesBack l D C _ aM  ms_10 mw ma_11 ml_12  h) (cwV 0 hw (goodV mw_8_97 mw_8_99 mw_s162 mw_1_13 mw_8_100) rfl rfl rfl (by decide +kernel) ⟨Nat.le_of_ble_eq_true rfl, Nat.le_of_ble_eq_true rfl⟩) rfl rfl rfl hl.1 rfl (Nat.le_of_ble_eq_true rfl) dX12_hides_69 ⟨Nat.zero_le _, Nat.zero_le _⟩) hP hD hS hA (fun ma_15 H locs h hP hD hS => ?_)
    have hP : va_P D vwCl (List.flatten (wM aM C ms_10 mw ma_15 ml_12)) H := hP
    have hD : va_D A (List.flatten (wM aM C ms_10 mw ma_15 ml_12)) := hD
    refine lv_lload_n hx hb dX12_hides_72 rfl (lv_at hl 0 rfl) ?_
    rw [← hQ]
    exact cRetL (v := x14) (ms_10, ma_15, ml_12) hx hb hr hlocks hS hP hD h dX12_hides_73
  · have h := h.2 c2
    refine lv_ldc2 (v := (-1000000000000)) hx hb hown (hw _ mw_8_134) dX12_hides_13 ?_
    rw [← hQ]
    exact cRetL (v := (-1000000000000)) ((va_up ms 0 0), ma, ml) hx hb hr hlocks hS hP hD h dX12_hides_16
abbrev vsX12_state : List Cond := Cond.code yX12_state cX12_state 2 (some .int) :: WS
abbrev rmX12_state : Room := { frames := 0, cells := 0, slots := 0, locals := 0 }
set_option maxHeartbeats 4000000 in
set_option maxRecDepth 100000 in
theorem k_X12_state (l : Launch) (D : va_G) (C : Nat → ClassId) (sz : Nat)    (p1 : Int32) (p2 : Int32) {post : Int32 → Prop} (h : P_X12_state p1 p2 post) : Met l yX12_state vsX12_state rmX12_state (cPre D C [.int p1, .int p2] sz (([] : List va_W))) (cQi D (fun (r : Int32) (u : Unit) => post r ) (fun u => ([] : List va_W)) (va_A (List.flatten (([] : List va_W))) sz)) 0 0 (va_A (List.flatten (([] : List va_W))) sz) := by
  refine cStart (QA := fun A => cQi D (fun (r : Int32) (u : Unit) => post r ) (fun u => ([] : List va_W)) A) (cc := cX12_state) (maxL := 2) (ret := (some .int)) (by decide) (Nat.le_of_ble_eq_true rfl) ?_
  intro p e s m args below meth c A ls hx hb hr hml hown hw hlocks hname hK hN hA hP hD hS hl
  generalize hQ : MQ below _ args s 0 0 A = Q
  have hl : lv_has ls 2 [(0, .int p1), (1, .int p2)] := hl
  obtain ⟨H, hH⟩ : ∃ H, H = s.heap := ⟨_, rfl⟩
  obtain ⟨locs, hlo⟩ : ∃ z : List Loc, z = [] := ⟨_, rfl⟩
  have hP : va_P D vwCl (List.flatten (([] : List va_W))) H := by rw [hH]; exact hP
  have hS : va_S A s.heap H locs := by rw [hH, hlo]; exact hS
  rw [show W p l e rmX12_state s m args below meth c s.heap [] 0 0 Q (F0 m 0 ls []) = W p l e rmX12_state s m args below meth c H locs 0 0 Q (F0 m 0 ls []) from by rw [hH, hlo]]
  refine lv_bipush (v := 64) hx hb dX12_state_0 (by decide) ?_
  refine lv_iload_n hx hb dX12_state_2 rfl (lv_at hl 0 rfl) ?_
  refine lv_imul hx hb dX12_state_3 ?_
  refine lv_iload_n hx hb dX12_state_4 rfl (lv_at hl 1 rfl) ?_
  refine lv_iadd hx hb dX12_state_5 ?_
  rw [← hQ]
  exact cRetI (v := ((64 * p1) + p2)) () hx hb hr hlocks hS hP hD h dX12_state_6
abbrev vsX12_thiefGoes : List Cond := Cond.code yX12_thiefGoes cX12_thiefGoes 12 none :: WS
abbrev rmX12_thiefGoes : Room := { frames := 1, cells := 0, slots := 0, locals := 26 }
set_option maxHeartbeats 4000000 in
set_option maxRecDepth 100000 in
theorem k_X12_thiefGoes (l : Launch) (D : va_G) (C : Nat → ClassId) (sz : Nat) (aM : Nat → Nat)  (ms : Nat → Int32) (mw : Nat → Int64) (ma : Nat → Nat → Int32) (ml : Nat → Nat → Int64) (p1 : Int32) (p2 : Int32) {post : (Nat → Nat → Int64) → Prop} (h : P_X12_thiefGoes ms ma ml p1 p2 post) : Met l yX12_thiefGoes vsX12_thiefGoes rmX12_thiefGoes (cPre D C [.ref (aM 0), .int p1, .int p2] sz (wM aM C ms mw ma ml)) (cQv D (fun (u : (Nat → Nat → Int64)) => post u) (fun u => wM aM C ms mw ma u) (va_A (List.flatten (wM aM C ms mw ma ml)) sz)) 0 0 (va_A (List.flatten (wM aM C ms mw ma ml)) sz) := by
  refine cStart (QA := fun A => cQv D (fun (u : (Nat → Nat → Int64)) => post u) (fun u => wM aM C ms mw ma u) A) (cc := cX12_thiefGoes) (maxL := 12) (ret := none) (by decide) (Nat.le_of_ble_eq_true rfl) ?_
  intro p e s m args below meth c A ls hx hb hr hml hown hw hlocks hname hK hN hA hP hD hS hl
  generalize hQ : MQ below _ args s 0 0 A = Q
  have hl : lv_has ls 12 [(0, .ref (aM 0)), (1, .int p1), (2, .int p2)] := hl
  obtain ⟨H, hH⟩ : ∃ H, H = s.heap := ⟨_, rfl⟩
  obtain ⟨locs, hlo⟩ : ∃ z : List Loc, z = [] := ⟨_, rfl⟩
  have hP : va_P D vwCl (List.flatten (wM aM C ms mw ma ml)) H := by rw [hH]; exact hP
  have hS : va_S A s.heap H locs := by rw [hH, hlo]; exact hS
  rw [show W p l e rmX12_thiefGoes s m args below meth c s.heap [] 0 0 Q (F0 m 0 ls []) = W p l e rmX12_thiefGoes s m args below meth c H locs 0 0 Q (F0 m 0 ls []) from by rw [hH, hlo]]
  have N107 : ∀ (x3_ : Int32) (x4_ : Int32) (n107 : Nat) (x5_ : Int32) (ml : Nat → Nat → Int64) (H : Heap) (locs : List Loc) (ls : Array Slot), P_X12_thiefGoes_107 ms ma p1 p2 post  x3_ x4_ n107 x5_ ml → va_P D vwCl (List.flatten (wM aM C ms mw ma ml)) H → va_D A (List.flatten (wM aM C ms mw ma ml)) → va_S A s.heap H locs → lv_has ls 12 [(0, .ref (aM 0)), (1, .int p1), (2, .int p2), (3, .int x3_), (4, .int x4_), (5, .int x5_)] → W p l e rmX12_thiefGoes s m args below meth c H locs 0 0 Q (F0 m 107 ls []) := by
    intro x3_ x4_
    intro n107
    induction n107 with
    | zero => intro x5_ ml H locs ls h hP hD hS hl; exact False.elim h
    | succ n107 ih107 =>
      have N134 : ∀ (x5_ : Int32) (x6_ : Int32) (n134 : Nat) (x7_ : Int32) (ml : Nat → Nat → Int64) (H : Heap) (locs : List Loc) (ls : Array Slot), P_X12_thiefGoes_134 ms ma p1 p2 x3_ x4_ post (P_X12_thiefGoes_107 ms ma p1 p2 post  x3_ x4_ n107) x5_ x6_ n134 x7_ ml → va_P D vwCl (List.flatten (wM aM C ms mw ma ml)) H → va_D A (List.flatten (wM aM C ms mw ma ml)) → va_S A s.heap H locs → lv_has ls 12 [(0, .ref (aM 0)), (1, .int p1), (2, .int p2), (3, .int x3_), (4, .int x4_), (5, .int x5_), (6, .int x6_), (7, .int x7_)] → W p l e rmX12_thiefGoes s m args below meth c H locs 0 0 Q (F0 m 134 ls []) := by
        intro x5_ x6_
        intro n134
        induction n134 with
        | zero => intro x7_ ml H locs ls h hP hD hS hl; exact False.elim h
        | succ n134 ih134 =>
          have N189 : ∀ (x7_ : Int32) (x8_ : Int64) (k0_ : Int64) (ml : Nat → Nat → Int64) (H : Heap) (locs : List Loc) (ls : Array Slot), P_X12_thiefGoes_189 ms ma p1 p2 x3_ x4_ x5_ x6_ post (P_X12_thiefGoes_134 ms ma p1 p2 x3_ x4_ post (P_X12_thiefGoes_107 ms ma p1 p2 post  x3_ x4_ n107) x5_ x6_ n134) x7_ x8_ k0_ ml → va_P D vwCl (List.flatten (wM aM C ms mw ma ml)) H → va_D A (List.flatten (wM aM C ms mw ma ml)) → va_S A s.heap H locs → lv_has ls 12 [(0, .ref (aM 0)), (1, .int p1), (2, .int p2), (3, .int x3_), (4, .int x4_), (5, .int x5_), (6, .int x6_), (7, .int x7_), (8, .long x8_)] → W p l e rmX12_thiefGoes s m args below meth c H locs 0 0 Q (F0 m 189 ls [.long k0_]) := by
            intro x7_ x8_ k0_ ml H locs ls h hP hD hS hl
            unfold P_X12_thiefGoes_189 at h
            refine lv_lstore (lv' := [(10, .long k0_), (0, .ref (aM 0)), (1, .int p1), (2, .int p2), (3, .int x3_), (4, .int x4_), (5, .int x5_), (6, .int x6_), (7, .int x7_), (8, .long x8_)]) hx hb dX12_thiefGoes_189 hl (by decide) rfl (fun ls hl => ?_)
            refine lv_aload_n hx hb dX12_thiefGoes_191 rfl (lv_at hl 1 rfl) ?_
            refine va_get (D := D) (ci := 12) (v := .ref (aM 29)) (C := RX12) (T := TX12) (N := 51) hx hb hw inW_X12 hown hK hP 0 rfl rfl 44 (by decide) (hw _ mw_6_87) (fun _ h9 => h9) rfl dX12_thiefGoes_192 ?_
            refine lv_iload hx hb dX12_thiefGoes_195 (lv_at hl 6 rfl) ?_
            refine lv_iload hx hb dX12_thiefGoes_197 (lv_at hl 8 rfl) ?_
            refine cGoEI (cRunES (As := [.int x5_, .int x7_]) (rest := [.ref (aM 29)]) ⟨hx, hb, hml, hown, hw⟩ hK hN hP hD (k_X12_state l D C _    x5_ x7_ h) (va_cwS 2 hw (goodS mw_8_228 mw_8_229 mw_1_13 mw_8_230) rfl rfl rfl (by decide +kernel) ⟨Nat.le_of_ble_eq_true rfl, Nat.le_of_ble_eq_true rfl⟩) rfl hl.1 rfl (Nat.le_of_ble_eq_true rfl) dX12_thiefGoes_199 ⟨Nat.zero_le _, Nat.zero_le _⟩) hP hD hS hA (fun r1 u H locs h hP hD hS => ?_)
            have hP : va_P D vwCl (List.flatten (wM aM C ms mw ma ml)) H := hP
            have hD : va_D A (List.flatten (wM aM C ms mw ma ml)) := hD
            refine lv_dup2_11 hx hb dX12_thiefGoes_202 rfl rfl ?_
            try dsimp only at h
            obtain ⟨kk_2, hkk_2⟩ : ∃ z : Nat, r1.toNatClampNeg = z := ⟨_, rfl⟩
            rw [hkk_2] at h
            refine cLald hx hb hK hP 29 1 rfl rfl kk_2 hkk_2 h.1 dX12_thiefGoes_203 ?_
            have h := h.2
            refine lv_lload hx hb dX12_thiefGoes_204 (lv_at hl 9 rfl) ?_
            refine lv_lsub hx hb dX12_thiefGoes_206 ?_
            try dsimp only at h
            refine cLast hx hb hK hP hD hS 29 1 rfl rfl kk_2 hkk_2 h.1 dX12_thiefGoes_207 (fun H locs hP hD hS => ?_)
            have h := h.2
            refine lv_aload_n hx hb dX12_thiefGoes_208 rfl (lv_at hl 1 rfl) ?_
            refine va_get (D := D) (ci := 12) (v := .ref (aM 29)) (C := RX12) (T := TX12) (N := 51) hx hb hw inW_X12 hown hK hP 0 rfl rfl 44 (by decide) (hw _ mw_6_87) (fun _ h9 => h9) rfl dX12_thiefGoes_209 ?_
            refine lv_iload hx hb dX12_thiefGoes_212 (lv_at hl 6 rfl) ?_
            refine lv_iconst (v := 1) hx hb dX12_thiefGoes_214 (by decide) ?_
            refine lv_iload hx hb dX12_thiefGoes_215 (lv_at hl 7 rfl) ?_
            refine lv_ishl hx hb dX12_thiefGoes_217 ?_
            refine lv_ior hx hb dX12_thiefGoes_218 ?_
            refine lv_iload hx hb dX12_thiefGoes_219 (lv_at hl 8 rfl) ?_
            refine lv_iconst (v := 1) hx hb dX12_thiefGoes_221 (by decide) ?_
            refine lv_iload_n hx hb dX12_thiefGoes_222 rfl (lv_at hl 2 rfl) ?_
            refine lv_ishl hx hb dX12_thiefGoes_223 ?_
            refine lv_ior hx hb dX12_thiefGoes_224 ?_
            have hP : va_P D vwCl (List.flatten (wM aM C ms mw ma (va_up ml 7 (vp_updL (ml 7) kk_2 ((ml 7 kk_2) - x8_))))) H := hP
            have hD : va_D A (List.flatten (wM aM C ms mw ma (va_up ml 7 (vp_updL (ml 7) kk_2 ((ml 7 kk_2) - x8_))))) := hD
            refine cGoEI (cRunES (As := [.int (x5_ ||| ((1 : Int32) <<< (x6_ &&& 31))), .int (x7_ ||| ((1 : Int32) <<< (p1 &&& 31)))]) (rest := [.ref (aM 29)]) ⟨hx, hb, hml, hown, hw⟩ hK hN hP hD (k_X12_state l D C _    (x5_ ||| ((1 : Int32) <<< (x6_ &&& 31))) (x7_ ||| ((1 : Int32) <<< (p1 &&& 31))) h) (va_cwS 2 hw (goodS mw_8_228 mw_8_229 mw_1_13 mw_8_230) rfl rfl rfl (by decide +kernel) ⟨Nat.le_of_ble_eq_true rfl, Nat.le_of_ble_eq_true rfl⟩) rfl hl.1 rfl (Nat.le_of_ble_eq_true rfl) dX12_thiefGoes_225 ⟨Nat.zero_le _, Nat.zero_le _⟩) hP hD hS hA (fun r3 u H locs h hP hD hS => ?_)
            have hP : va_P D vwCl (List.flatten (wM aM C ms mw ma (va_up ml 7 (vp_updL (ml 7) kk_2 ((ml 7 kk_2) - x8_))))) H := hP
            have hD : va_D A (List.flatten (wM aM C ms mw ma (va_up ml 7 (vp_updL (ml 7) kk_2 ((ml 7 kk_2) - x8_))))) := hD
            refine lv_dup2_11 hx hb dX12_thiefGoes_228 rfl rfl ?_
            try dsimp only at h
            obtain ⟨kk_4, hkk_4⟩ : ∃ z : Nat, r3.toNatClampNeg = z := ⟨_, rfl⟩
            rw [hkk_4] at h
            refine cLald hx hb hK hP 29 1 rfl rfl kk_4 hkk_4 h.1 dX12_thiefGoes_229 ?_
            have h := h.2
            refine lv_lload hx hb dX12_thiefGoes_230 (lv_at hl 0 rfl) ?_
            refine lv_ladd hx hb dX12_thiefGoes_232 ?_
            try dsimp only at h
            refine cLast hx hb hK hP hD hS 29 1 rfl rfl kk_4 hkk_4 h.1 dX12_thiefGoes_233 (fun H locs hP hD hS => ?_)
            have h := h.2
            refine lv_aload_n hx hb dX12_thiefGoes_234 rfl (lv_at hl 1 rfl) ?_
            refine va_get (D := D) (ci := 12) (v := .ref (aM 29)) (C := RX12) (T := TX12) (N := 51) hx hb hw inW_X12 hown hK hP 0 rfl rfl 44 (by decide) (hw _ mw_6_87) (fun _ h9 => h9) rfl dX12_thiefGoes_235 ?_
            refine lv_iload hx hb dX12_thiefGoes_238 (lv_at hl 6 rfl) ?_
            refine lv_iconst (v := 1) hx hb dX12_thiefGoes_240 (by decide) ?_
            refine lv_iload hx hb dX12_thiefGoes_241 (lv_at hl 7 rfl) ?_
            refine lv_ishl hx hb dX12_thiefGoes_243 ?_
            refine lv_ior hx hb dX12_thiefGoes_244 ?_
            refine lv_iload hx hb dX12_thiefGoes_245 (lv_at hl 8 rfl) ?_
            have hP : va_P D vwCl (List.flatten (wM aM C ms mw ma (va_up ml 7 (vp_updL (vp_updL (ml 7) kk_2 ((ml 7 kk_2) - x8_)) kk_4 (((vp_updL (ml 7) kk_2 ((ml 7 kk_2) - x8_)) kk_4) + k0_))))) H := hP
            have hD : va_D A (List.flatten (wM aM C ms mw ma (va_up ml 7 (vp_updL (vp_updL (ml 7) kk_2 ((ml 7 kk_2) - x8_)) kk_4 (((vp_updL (ml 7) kk_2 ((ml 7 kk_2) - x8_)) kk_4) + k0_))))) := hD
            refine cGoEI (cRunES (As := [.int (x5_ ||| ((1 : Int32) <<< (x6_ &&& 31))), .int x7_]) (rest := [.ref (aM 29)]) ⟨hx, hb, hml, hown, hw⟩ hK hN hP hD (k_X12_state l D C _    (x5_ ||| ((1 : Int32) <<< (x6_ &&& 31))) x7_ h) (va_cwS 2 hw (goodS mw_8_228 mw_8_229 mw_1_13 mw_8_230) rfl rfl rfl (by decide +kernel) ⟨Nat.le_of_ble_eq_true rfl, Nat.le_of_ble_eq_true rfl⟩) rfl hl.1 rfl (Nat.le_of_ble_eq_true rfl) dX12_thiefGoes_247 ⟨Nat.zero_le _, Nat.zero_le _⟩) hP hD hS hA (fun r5 u H locs h hP hD hS => ?_)
            have hP : va_P D vwCl (List.flatten (wM aM C ms mw ma (va_up ml 7 (vp_updL (vp_updL (ml 7) kk_2 ((ml 7 kk_2) - x8_)) kk_4 (((vp_updL (ml 7) kk_2 ((ml 7 kk_2) - x8_)) kk_4) + k0_))))) H := hP
            have hD : va_D A (List.flatten (wM aM C ms mw ma (va_up ml 7 (vp_updL (vp_updL (ml 7) kk_2 ((ml 7 kk_2) - x8_)) kk_4 (((vp_updL (ml 7) kk_2 ((ml 7 kk_2) - x8_)) kk_4) + k0_))))) := hD
            refine lv_dup2_11 hx hb dX12_thiefGoes_250 rfl rfl ?_
            try dsimp only at h
            obtain ⟨kk_6, hkk_6⟩ : ∃ z : Nat, r5.toNatClampNeg = z := ⟨_, rfl⟩
            rw [hkk_6] at h
            refine cLald hx hb hK hP 29 1 rfl rfl kk_6 hkk_6 h.1 dX12_thiefGoes_251 ?_
            have h := h.2
            refine lv_lload hx hb dX12_thiefGoes_252 (lv_at hl 9 rfl) ?_
            refine lv_lload hx hb dX12_thiefGoes_254 (lv_at hl 0 rfl) ?_
            refine lv_lsub hx hb dX12_thiefGoes_256 ?_
            refine lv_ladd hx hb dX12_thiefGoes_257 ?_
            try dsimp only at h
            refine cLast hx hb hK hP hD hS 29 1 rfl rfl kk_6 hkk_6 h.1 dX12_thiefGoes_258 (fun H locs hP hD hS => ?_)
            have h := h.2
            refine lv_iinc (v := (x7_ + 1)) (lv' := [(7, .int (x7_ + 1)), (10, .long k0_), (0, .ref (aM 0)), (1, .int p1), (2, .int p2), (3, .int x3_), (4, .int x4_), (5, .int x5_), (6, .int x6_), (8, .long x8_)]) hx hb dX12_thiefGoes_259 hl (k := 8) rfl rfl (by decide) rfl (fun ls hl => ?_)
            refine lv_goto (tgt := 134) hx hb dX12_thiefGoes_262 (by decide) ?_
            have hP : va_P D vwCl (List.flatten (wM aM C ms mw ma (va_up ml 7 (vp_updL (vp_updL (vp_updL (ml 7) kk_2 ((ml 7 kk_2) - x8_)) kk_4 (((vp_updL (ml 7) kk_2 ((ml 7 kk_2) - x8_)) kk_4) + k0_)) kk_6 (((vp_updL (vp_updL (ml 7) kk_2 ((ml 7 kk_2) - x8_)) kk_4 (((vp_updL (ml 7) kk_2 ((ml 7 kk_2) - x8_)) kk_4) + k0_)) kk_6) + (x8_ - k0_)))))) H := hP
            have hD : va_D A (List.flatten (wM aM C ms mw ma (va_up ml 7 (vp_updL (vp_updL (vp_updL (ml 7) kk_2 ((ml 7 kk_2) - x8_)) kk_4 (((vp_updL (ml 7) kk_2 ((ml 7 kk_2) - x8_)) kk_4) + k0_)) kk_6 (((vp_updL (vp_updL (ml 7) kk_2 ((ml 7 kk_2) - x8_)) kk_4 (((vp_updL (ml 7) kk_2 ((ml 7 kk_2) - x8_)) kk_4) + k0_)) kk_6) + (x8_ - k0_)))))) := hD
            exact ih134 (x7_ + 1) (va_up ml 7 (vp_updL (vp_updL (vp_updL (ml 7) kk_2 ((ml 7 kk_2) - x8_)) kk_4 (((vp_updL (ml 7) kk_2 ((ml 7 kk_2) - x8_)) kk_4) + k0_)) kk_6 (((vp_updL (vp_updL (ml 7) kk_2 ((ml 7 kk_2) - x8_)) kk_4 (((vp_updL (ml 7) kk_2 ((ml 7 kk_2) - x8_)) kk_4) + k0_)) kk_6) + (x8_ - k0_)))) _ _ _ h hP hD hS (lv_sub hl [2, 3, 4, 5, 6, 7, 8, 0] rfl)
          intro x7_ ml H locs ls h hP hD hS hl
          have h : P_X12_thiefGoes_134_b ms ma p1 p2 x3_ x4_ post (P_X12_thiefGoes_107 ms ma p1 p2 post  x3_ x4_ n107) x5_ x6_ (P_X12_thiefGoes_134 ms ma p1 p2 x3_ x4_ post (P_X12_thiefGoes_107 ms ma p1 p2 post  x3_ x4_ n107) x5_ x6_ n134) x7_ ml := h
          unfold P_X12_thiefGoes_134_b at h
          refine lv_iload hx hb dX12_thiefGoes_134 (lv_at hl 7 rfl) ?_
          refine lv_iload hx hb dX12_thiefGoes_136 (lv_at hl 4 rfl) ?_
          refine lv_icmp_ge (tgt := 265) hx hb dX12_thiefGoes_138 (by decide) (fun c7 => ?_) (fun c7 => ?_)
          · have h := h.1 c7
            refine lv_iinc (v := (x5_ + 1)) (lv' := [(5, .int (x5_ + 1)), (0, .ref (aM 0)), (1, .int p1), (2, .int p2), (3, .int x3_), (4, .int x4_), (6, .int x6_), (7, .int x7_)]) hx hb dX12_thiefGoes_265 hl (k := 5) rfl rfl (by decide) rfl (fun ls hl => ?_)
            refine lv_goto (tgt := 107) hx hb dX12_thiefGoes_268 (by decide) ?_
            exact ih107 (x5_ + 1) ml _ _ _ h hP hD hS (lv_sub hl [1, 2, 3, 4, 5, 0] rfl)
          · have h := h.2 c7
            refine lv_aload_n hx hb dX12_thiefGoes_141 rfl (lv_at hl 0 rfl) ?_
            refine va_get (D := D) (ci := 12) (v := .ref (aM 30)) (C := RX12) (T := TX12) (N := 51) hx hb hw inW_X12 hown hK hP 0 rfl rfl 45 (by decide) (hw _ mw_6_88) (fun _ h9 => h9) rfl dX12_thiefGoes_142 ?_
            refine lv_iload hx hb dX12_thiefGoes_145 (lv_at hl 5 rfl) ?_
            refine lv_iload hx hb dX12_thiefGoes_147 (lv_at hl 7 rfl) ?_
            refine cGoEI (cRunES (As := [.int x5_, .int x7_]) (rest := [.ref (aM 30)]) ⟨hx, hb, hml, hown, hw⟩ hK hN hP hD (k_X12_state l D C _    x5_ x7_ h) (va_cwS 2 hw (goodS mw_8_228 mw_8_229 mw_1_13 mw_8_230) rfl rfl rfl (by decide +kernel) ⟨Nat.le_of_ble_eq_true rfl, Nat.le_of_ble_eq_true rfl⟩) rfl hl.1 rfl (Nat.le_of_ble_eq_true rfl) dX12_thiefGoes_149 ⟨Nat.zero_le _, Nat.zero_le _⟩) hP hD hS hA (fun r8 u H locs h hP hD hS => ?_)
            have hP : va_P D vwCl (List.flatten (wM aM C ms mw ma ml)) H := hP
            have hD : va_D A (List.flatten (wM aM C ms mw ma ml)) := hD
            try dsimp only at h
            obtain ⟨kk_9, hkk_9⟩ : ∃ z : Nat, r8.toNatClampNeg = z := ⟨_, rfl⟩
            rw [hkk_9] at h
            refine cLald hx hb hK hP 30 1 rfl rfl kk_9 hkk_9 h.1 dX12_thiefGoes_152 ?_
            have h := h.2
            refine lv_topl (fun x10 ex10 => ?_)
            have h := h x10 ex10
            refine lv_lstore (lv' := [(8, .long x10), (0, .ref (aM 0)), (1, .int p1), (2, .int p2), (3, .int x3_), (4, .int x4_), (5, .int x5_), (6, .int x6_), (7, .int x7_)]) hx hb dX12_thiefGoes_153 hl (by decide) rfl (fun ls hl => ?_)
            refine lv_lload hx hb dX12_thiefGoes_155 (lv_at hl 0 rfl) ?_
            refine lv_lconst (v := 0) hx hb dX12_thiefGoes_157 (by decide) ?_
            refine W.lcmp hx hb dX12_thiefGoes_158 ?_
            refine lv_if_ne (tgt := 165) hx hb dX12_thiefGoes_159 (by decide) (fun c11 => ?_) (fun c11 => ?_)
            · have c11 : ¬ x10 = 0 := fun q => c11 ((lg_cmp_eq _ _).mpr q)
              have h := h.1 c11
              refine lv_iload hx hb dX12_thiefGoes_165 (lv_at hl 7 rfl) ?_
              refine lv_aload_n hx hb dX12_thiefGoes_167 rfl (lv_at hl 1 rfl) ?_
              refine va_get (D := D) (ci := 12) (v := .ref (aM 13)) (C := RX12) (T := TX12) (N := 51) hx hb hw inW_X12 hown hK hP 0 rfl rfl 23 (by decide) (hw _ mw_6_66) (fun _ h9 => h9) rfl dX12_thiefGoes_168 ?_
              refine lv_iconst (v := 0) hx hb dX12_thiefGoes_171 (by decide) ?_
              refine cIald hx hb hK hP 13 0 rfl rfl 0 (by decide +kernel) (cIn (by decide +kernel)) dX12_thiefGoes_172 ?_
              refine lv_icmp_ne (tgt := 188) hx hb dX12_thiefGoes_173 (by decide) (fun c12 => ?_) (fun c12 => ?_)
              · have h := h.1 c12
                refine lv_lconst (v := 0) hx hb dX12_thiefGoes_188 (by decide) ?_
                exact N189 x7_ x10 0 ml _ _ _ h hP hD hS (lv_sub hl [1, 2, 3, 4, 5, 6, 7, 8, 0] rfl)
              · have h := h.2 c12
                refine lv_lload hx hb dX12_thiefGoes_176 (lv_at hl 0 rfl) ?_
                refine lv_iload_n hx hb dX12_thiefGoes_178 rfl (lv_at hl 3 rfl) ?_
                refine lv_i2l hx hb dX12_thiefGoes_179 rfl ?_
                refine lv_lmul hx hb dX12_thiefGoes_180 ?_
                refine lv_ldc2 (v := 100) hx hb hown (hw _ mw_7_163) dX12_thiefGoes_181 ?_
                refine lv_ldiv hx hb dX12_thiefGoes_184 (by decide) ?_
                refine lv_goto (tgt := 189) hx hb dX12_thiefGoes_185 (by decide) ?_
                exact N189 x7_ x10 ((x10 * p2.toInt64) / 100) ml _ _ _ h hP hD hS (lv_sub hl [1, 2, 3, 4, 5, 6, 7, 8, 0] rfl)
            · have c11 : x10 = 0 := (lg_cmp_eq _ _).mp c11
              have h := h.2 c11
              refine lv_goto (tgt := 259) hx hb dX12_thiefGoes_162 (by decide) ?_
              refine lv_iinc (v := (x7_ + 1)) (lv' := [(7, .int (x7_ + 1)), (8, .long x10), (0, .ref (aM 0)), (1, .int p1), (2, .int p2), (3, .int x3_), (4, .int x4_), (5, .int x5_), (6, .int x6_)]) hx hb dX12_thiefGoes_259 hl (k := 8) rfl rfl (by decide) rfl (fun ls hl => ?_)
              refine lv_goto (tgt := 134) hx hb dX12_thiefGoes_262 (by decide) ?_
              exact ih134 (x7_ + 1) ml _ _ _ h hP hD hS (lv_sub hl [2, 3, 4, 5, 6, 7, 8, 0] rfl)
      intro x5_ ml H locs ls h hP hD hS hl
      have h : P_X12_thiefGoes_107_b ms ma p1 p2 post  x3_ x4_ (P_X12_thiefGoes_107 ms ma p1 p2 post  x3_ x4_ n107) x5_ ml := h
      unfold P_X12_thiefGoes_107_b at h
      refine lv_iload hx hb dX12_thiefGoes_107 (lv_at hl 5 rfl) ?_
      refine lv_iload_n hx hb dX12_thiefGoes_109 rfl (lv_at hl 3 rfl) ?_
      refine lv_icmp_ge (tgt := 271) hx hb dX12_thiefGoes_110 (by decide) (fun c21 => ?_) (fun c21 => ?_)
      · have h := h.1 c21
        rw [← hQ]
        exact cRetV (ml) hx hb hr hlocks hS hP hD h dX12_thiefGoes_271
      · have h := h.2 c21
        refine lv_aload_n hx hb dX12_thiefGoes_113 rfl (lv_at hl 0 rfl) ?_
        refine lv_iload_n hx hb dX12_thiefGoes_114 rfl (lv_at hl 1 rfl) ?_
        refine lv_iload hx hb dX12_thiefGoes_115 (lv_at hl 5 rfl) ?_
        refine cGoAI (cRunAV (As := [.int p1, .int x5_]) (rest := []) ⟨hx, hb, hml, hown, hw⟩ hK hN hP hD (k_X12_takesOf l D C _ aM  ms mw ma ml p1 x5_ h) (cwV 2 hw (goodV mw_7_184 mw_7_186 mw_s139 mw_1_13 mw_7_187) rfl rfl rfl (by decide +kernel) ⟨Nat.le_of_ble_eq_true rfl, Nat.le_of_ble_eq_true rfl⟩) rfl rfl rfl hl.1 rfl (Nat.le_of_ble_eq_true rfl) dX12_thiefGoes_117 ⟨Nat.zero_le _, Nat.zero_le _⟩) hP hD hS hA (fun r22 u H locs h hP hD hS => ?_)
        have hP : va_P D vwCl (List.flatten (wM aM C ms mw ma ml)) H := hP
        have hD : va_D A (List.flatten (wM aM C ms mw ma ml)) := hD
        refine lv_istore (lv' := [(6, .int r22), (0, .ref (aM 0)), (1, .int p1), (2, .int p2), (3, .int x3_), (4, .int x4_), (5, .int x5_)]) hx hb dX12_thiefGoes_120 hl (by decide) rfl (fun ls hl => ?_)
        refine lv_iload hx hb dX12_thiefGoes_122 (lv_at hl 0 rfl) ?_
        refine lv_iconst (v := (-1)) hx hb dX12_thiefGoes_124 (by decide) ?_
        refine lv_icmp_ne (tgt := 131) hx hb dX12_thiefGoes_125 (by decide) (fun c23 => ?_) (fun c23 => ?_)
        · have h := h.1 c23
          refine lv_iconst (v := 0) hx hb dX12_thiefGoes_131 (by decide) ?_
          refine lv_istore (lv' := [(7, .int 0), (6, .int r22), (0, .ref (aM 0)), (1, .int p1), (2, .int p2), (3, .int x3_), (4, .int x4_), (5, .int x5_)]) hx hb dX12_thiefGoes_132 hl (by decide) rfl (fun ls hl => ?_)
          obtain ⟨n, h⟩ := h
          exact N134 x5_ r22 n 0 ml _ _ _ h hP hD hS (lv_sub hl [2, 3, 4, 5, 6, 7, 1, 0] rfl)
        · have h := h.2 c23
          refine lv_goto (tgt := 265) hx hb dX12_thiefGoes_128 (by decide) ?_
          refine lv_iinc (v := (x5_ + 1)) (lv' := [(5, .int (x5_ + 1)), (6, .int r22), (0, .ref (aM 0)), (1, .int p1), (2, .int p2), (3, .int x3_), (4, .int x4_)]) hx hb dX12_thiefGoes_265 hl (k := 6) rfl rfl (by decide) rfl (fun ls hl => ?_)
          refine lv_goto (tgt := 107) hx hb dX12_thiefGoes_268 (by decide) ?_
          exact ih107 (x5_ + 1) ml _ _ _ h hP hD hS (lv_sub hl [2, 3, 4, 5, 6, 0] rfl)
  have N22 : ∀ (x3_ : Int32) (x4_ : Int32) (n22 : Nat) (x5_ : Int32) (ml : Nat → Nat → Int64) (H : Heap) (locs : List Loc) (ls : Array Slot), P_X12_thiefGoes_22 ms ma p1 p2 post (fun (x3_ : Int32) (x4_ : Int32) (x5_ : Int32) (ml : Nat → Nat → Int64) => ∃ n : Nat, P_X12_thiefGoes_107 ms ma p1 p2 post  x3_ x4_ n x5_ ml) x3_ x4_ n22 x5_ ml → va_P D vwCl (List.flatten (wM aM C ms mw ma ml)) H → va_D A (List.flatten (wM aM C ms mw ma ml)) → va_S A s.heap H locs → lv_has ls 12 [(0, .ref (aM 0)), (1, .int p1), (2, .int p2), (3, .int x3_), (4, .int x4_), (5, .int x5_)] → W p l e rmX12_thiefGoes s m args below meth c H locs 0 0 Q (F0 m 22 ls []) := by
    intro x3_ x4_
    intro n22
    induction n22 with
    | zero => intro x5_ ml H locs ls h hP hD hS hl; exact False.elim h
    | succ n22 ih22 =>
      have N31 : ∀ (x5_ : Int32) (n31 : Nat) (x6_ : Int32) (ml : Nat → Nat → Int64) (H : Heap) (locs : List Loc) (ls : Array Slot), P_X12_thiefGoes_31 ms ma p1 p2 x3_ x4_ post (P_X12_thiefGoes_22 ms ma p1 p2 post (fun (x3_ : Int32) (x4_ : Int32) (x5_ : Int32) (ml : Nat → Nat → Int64) => ∃ n : Nat, P_X12_thiefGoes_107 ms ma p1 p2 post  x3_ x4_ n x5_ ml) x3_ x4_ n22) x5_ n31 x6_ ml → va_P D vwCl (List.flatten (wM aM C ms mw ma ml)) H → va_D A (List.flatten (wM aM C ms mw ma ml)) → va_S A s.heap H locs → lv_has ls 12 [(0, .ref (aM 0)), (1, .int p1), (2, .int p2), (3, .int x3_), (4, .int x4_), (5, .int x5_), (6, .int x6_)] → W p l e rmX12_thiefGoes s m args below meth c H locs 0 0 Q (F0 m 31 ls []) := by
        intro x5_
        intro n31
        induction n31 with
        | zero => intro x6_ ml H locs ls h hP hD hS hl; exact False.elim h
        | succ n31 ih31 =>
          intro x6_ ml H locs ls h hP hD hS hl
          have h : P_X12_thiefGoes_31_b ms ma p1 p2 x3_ x4_ post (P_X12_thiefGoes_22 ms ma p1 p2 post (fun (x3_ : Int32) (x4_ : Int32) (x5_ : Int32) (ml : Nat → Nat → Int64) => ∃ n : Nat, P_X12_thiefGoes_107 ms ma p1 p2 post  x3_ x4_ n x5_ ml) x3_ x4_ n22) x5_ (P_X12_thiefGoes_31 ms ma p1 p2 x3_ x4_ post (P_X12_thiefGoes_22 ms ma p1 p2 post (fun (x3_ : Int32) (x4_ : Int32) (x5_ : Int32) (ml : Nat → Nat → Int64) => ∃ n : Nat, P_X12_thiefGoes_107 ms ma p1 p2 post  x3_ x4_ n x5_ ml) x3_ x4_ n22) x5_ n31) x6_ ml := h
          unfold P_X12_thiefGoes_31_b at h
          refine lv_iload hx hb dX12_thiefGoes_31 (lv_at hl 6 rfl) ?_
          refine lv_iload hx hb dX12_thiefGoes_33 (lv_at hl 4 rfl) ?_
          refine lv_icmp_ge (tgt := 98) hx hb dX12_thiefGoes_35 (by decide) (fun c13 => ?_) (fun c13 => ?_)
          · have h := h.1 c13
            refine lv_iinc (v := (x5_ + 1)) (lv' := [(5, .int (x5_ + 1)), (0, .ref (aM 0)), (1, .int p1), (2, .int p2), (3, .int x3_), (4, .int x4_), (6, .int x6_)]) hx hb dX12_thiefGoes_98 hl (k := 5) rfl rfl (by decide) rfl (fun ls hl => ?_)
            refine lv_goto (tgt := 22) hx hb dX12_thiefGoes_101 (by decide) ?_
            exact ih22 (x5_ + 1) ml _ _ _ h hP hD hS (lv_sub hl [1, 2, 3, 4, 5, 0] rfl)
          · have h := h.2 c13
            refine lv_aload_n hx hb dX12_thiefGoes_38 rfl (lv_at hl 0 rfl) ?_
            refine va_get (D := D) (ci := 12) (v := .ref (aM 30)) (C := RX12) (T := TX12) (N := 51) hx hb hw inW_X12 hown hK hP 0 rfl rfl 45 (by decide) (hw _ mw_6_88) (fun _ h9 => h9) rfl dX12_thiefGoes_39 ?_
            refine lv_iload hx hb dX12_thiefGoes_42 (lv_at hl 5 rfl) ?_
            refine lv_iload hx hb dX12_thiefGoes_44 (lv_at hl 6 rfl) ?_
            refine cGoEI (cRunES (As := [.int x5_, .int x6_]) (rest := [.ref (aM 30)]) ⟨hx, hb, hml, hown, hw⟩ hK hN hP hD (k_X12_state l D C _    x5_ x6_ h) (va_cwS 2 hw (goodS mw_8_228 mw_8_229 mw_1_13 mw_8_230) rfl rfl rfl (by decide +kernel) ⟨Nat.le_of_ble_eq_true rfl, Nat.le_of_ble_eq_true rfl⟩) rfl hl.1 rfl (Nat.le_of_ble_eq_true rfl) dX12_thiefGoes_46 ⟨Nat.zero_le _, Nat.zero_le _⟩) hP hD hS hA (fun r14 u H locs h hP hD hS => ?_)
            have hP : va_P D vwCl (List.flatten (wM aM C ms mw ma ml)) H := hP
            have hD : va_D A (List.flatten (wM aM C ms mw ma ml)) := hD
            refine lv_iload hx hb dX12_thiefGoes_49 (lv_at hl 6 rfl) ?_
            refine lv_iload_n hx hb dX12_thiefGoes_51 rfl (lv_at hl 1 rfl) ?_
            refine lv_ishr hx hb dX12_thiefGoes_52 ?_
            refine lv_iconst (v := 1) hx hb dX12_thiefGoes_53 (by decide) ?_
            refine lv_iand hx hb dX12_thiefGoes_54 ?_
            refine lv_iconst (v := 1) hx hb dX12_thiefGoes_55 (by decide) ?_
            refine lv_icmp_ne (tgt := 63) hx hb dX12_thiefGoes_56 (by decide) (fun c15 => ?_) (fun c15 => ?_)
            · have h := h.1 c15
              refine lv_aload_n hx hb dX12_thiefGoes_63 rfl (lv_at hl 0 rfl) ?_
              refine va_get (D := D) (ci := 12) (v := .ref (aM 29)) (C := RX12) (T := TX12) (N := 51) hx hb hw inW_X12 hown hK hP 0 rfl rfl 44 (by decide) (hw _ mw_6_87) (fun _ h9 => h9) rfl dX12_thiefGoes_64 ?_
              refine lv_iload hx hb dX12_thiefGoes_67 (lv_at hl 5 rfl) ?_
              refine lv_iload hx hb dX12_thiefGoes_69 (lv_at hl 6 rfl) ?_
              refine cGoEI (cRunES (As := [.int x5_, .int x6_]) (rest := [.ref (aM 29), .int r14, .ref (aM 30)]) ⟨hx, hb, hml, hown, hw⟩ hK hN hP hD (k_X12_state l D C _    x5_ x6_ h) (va_cwS 2 hw (goodS mw_8_228 mw_8_229 mw_1_13 mw_8_230) rfl rfl rfl (by decide +kernel) ⟨Nat.le_of_ble_eq_true rfl, Nat.le_of_ble_eq_true rfl⟩) rfl hl.1 rfl (Nat.le_of_ble_eq_true rfl) dX12_thiefGoes_71 ⟨Nat.zero_le _, Nat.zero_le _⟩) hP hD hS hA (fun r16 u H locs h hP hD hS => ?_)
              have hP : va_P D vwCl (List.flatten (wM aM C ms mw ma ml)) H := hP
              have hD : va_D A (List.flatten (wM aM C ms mw ma ml)) := hD
              try dsimp only at h
              obtain ⟨kk_17, hkk_17⟩ : ∃ z : Nat, r16.toNatClampNeg = z := ⟨_, rfl⟩
              rw [hkk_17] at h
              refine cLald hx hb hK hP 29 1 rfl rfl kk_17 hkk_17 h.1 dX12_thiefGoes_74 ?_
              have h := h.2
              refine lv_aload_n hx hb dX12_thiefGoes_75 rfl (lv_at hl 0 rfl) ?_
              refine va_get (D := D) (ci := 12) (v := .ref (aM 16)) (C := RX12) (T := TX12) (N := 51) hx hb hw inW_X12 hown hK hP 0 rfl rfl 26 (by decide) (hw _ mw_6_69) (fun _ h9 => h9) rfl dX12_thiefGoes_76 ?_
              refine lv_iconst (v := 5) hx hb dX12_thiefGoes_79 (by decide) ?_
              refine lv_iload_n hx hb dX12_thiefGoes_80 rfl (lv_at hl 1 rfl) ?_
              refine lv_imul hx hb dX12_thiefGoes_81 ?_
              refine lv_iconst (v := 1) hx hb dX12_thiefGoes_82 (by decide) ?_
              refine lv_iadd hx hb dX12_thiefGoes_83 ?_
              try dsimp only at h
              obtain ⟨kk_18, hkk_18⟩ : ∃ z : Nat, ((5 * p1) + 1).toNatClampNeg = z := ⟨_, rfl⟩
              rw [hkk_18] at h
              refine cIald hx hb hK hP 16 0 rfl rfl kk_18 hkk_18 h.1 dX12_thiefGoes_84 ?_
              have h := h.2
              refine lv_i2l hx hb dX12_thiefGoes_85 rfl ?_
              refine lv_lmul hx hb dX12_thiefGoes_86 ?_
              refine lv_ldc2 (v := 100) hx hb hown (hw _ mw_7_163) dX12_thiefGoes_87 ?_
              refine lv_ldiv hx hb dX12_thiefGoes_90 (by decide) ?_
              try dsimp only at h
              obtain ⟨kk_19, hkk_19⟩ : ∃ z : Nat, r14.toNatClampNeg = z := ⟨_, rfl⟩
              rw [hkk_19] at h
              refine cLast hx hb hK hP hD hS 30 1 rfl rfl kk_19 hkk_19 h.1 dX12_thiefGoes_91 (fun H locs hP hD hS => ?_)
              have h := h.2
              refine lv_iinc (v := (x6_ + 1)) (lv' := [(6, .int (x6_ + 1)), (0, .ref (aM 0)), (1, .int p1), (2, .int p2), (3, .int x3_), (4, .int x4_), (5, .int x5_)]) hx hb dX12_thiefGoes_92 hl (k := 6) rfl rfl (by decide) rfl (fun ls hl => ?_)
              refine lv_goto (tgt := 31) hx hb dX12_thiefGoes_95 (by decide) ?_
              have hP : va_P D vwCl (List.flatten (wM aM C ms mw ma (va_up ml 8 (vp_updL (ml 8) kk_19 (((ml 7 kk_17) * (ma 13 kk_18).toInt64) / 100))))) H := hP
              have hD : va_D A (List.flatten (wM aM C ms mw ma (va_up ml 8 (vp_updL (ml 8) kk_19 (((ml 7 kk_17) * (ma 13 kk_18).toInt64) / 100))))) := hD
              exact ih31 (x6_ + 1) (va_up ml 8 (vp_updL (ml 8) kk_19 (((ml 7 kk_17) * (ma 13 kk_18).toInt64) / 100))) _ _ _ h hP hD hS (lv_sub hl [1, 2, 3, 4, 5, 6, 0] rfl)
            · have h := h.2 c15
              refine lv_lconst (v := 0) hx hb dX12_thiefGoes_59 (by decide) ?_
              refine lv_goto (tgt := 91) hx hb dX12_thiefGoes_60 (by decide) ?_
              try dsimp only at h
              obtain ⟨kk_20, hkk_20⟩ : ∃ z : Nat, r14.toNatClampNeg = z := ⟨_, rfl⟩
              rw [hkk_20] at h
              refine cLast hx hb hK hP hD hS 30 1 rfl rfl kk_20 hkk_20 h.1 dX12_thiefGoes_91 (fun H locs hP hD hS => ?_)
              have h := h.2
              refine lv_iinc (v := (x6_ + 1)) (lv' := [(6, .int (x6_ + 1)), (0, .ref (aM 0)), (1, .int p1), (2, .int p2), (3, .int x3_), (4, .int x4_), (5, .int x5_)]) hx hb dX12_thiefGoes_92 hl (k := 6) rfl rfl (by decide) rfl (fun ls hl => ?_)
              refine lv_goto (tgt := 31) hx hb dX12_thiefGoes_95 (by decide) ?_
              have hP : va_P D vwCl (List.flatten (wM aM C ms mw ma (va_up ml 8 (vp_updL (ml 8) kk_20 0)))) H := hP
              have hD : va_D A (List.flatten (wM aM C ms mw ma (va_up ml 8 (vp_updL (ml 8) kk_20 0)))) := hD
              exact ih31 (x6_ + 1) (va_up ml 8 (vp_updL (ml 8) kk_20 0)) _ _ _ h hP hD hS (lv_sub hl [1, 2, 3, 4, 5, 6, 0] rfl)
      intro x5_ ml H locs ls h hP hD hS hl
      have h : P_X12_thiefGoes_22_b ms ma p1 p2 post (fun (x3_ : Int32) (x4_ : Int32) (x5_ : Int32) (ml : Nat → Nat → Int64) => ∃ n : Nat, P_X12_thiefGoes_107 ms ma p1 p2 post  x3_ x4_ n x5_ ml) x3_ x4_ (P_X12_thiefGoes_22 ms ma p1 p2 post (fun (x3_ : Int32) (x4_ : Int32) (x5_ : Int32) (ml : Nat → Nat → Int64) => ∃ n : Nat, P_X12_thiefGoes_107 ms ma p1 p2 post  x3_ x4_ n x5_ ml) x3_ x4_ n22) x5_ ml := h
      unfold P_X12_thiefGoes_22_b at h
      refine lv_iload hx hb dX12_thiefGoes_22 (lv_at hl 5 rfl) ?_
      refine lv_iload_n hx hb dX12_thiefGoes_24 rfl (lv_at hl 3 rfl) ?_
      refine lv_icmp_ge (tgt := 104) hx hb dX12_thiefGoes_25 (by decide) (fun c24 => ?_) (fun c24 => ?_)
      · have h := h.1 c24
        refine lv_iconst (v := 0) hx hb dX12_thiefGoes_104 (by decide) ?_
        refine lv_istore (lv' := [(5, .int 0), (0, .ref (aM 0)), (1, .int p1), (2, .int p2), (3, .int x3_), (4, .int x4_)]) hx hb dX12_thiefGoes_105 hl (by decide) rfl (fun ls hl => ?_)
        obtain ⟨n, h⟩ := h
        exact N107 x3_ x4_ n 0 ml _ _ _ h hP hD hS (lv_sub hl [1, 2, 3, 4, 5, 0] rfl)
      · have h := h.2 c24
        refine lv_iconst (v := 0) hx hb dX12_thiefGoes_28 (by decide) ?_
        refine lv_istore (lv' := [(6, .int 0), (0, .ref (aM 0)), (1, .int p1), (2, .int p2), (3, .int x3_), (4, .int x4_), (5, .int x5_)]) hx hb dX12_thiefGoes_29 hl (by decide) rfl (fun ls hl => ?_)
        obtain ⟨n, h⟩ := h
        exact N31 x5_ n 0 ml _ _ _ h hP hD hS (lv_sub hl [1, 2, 3, 4, 5, 6, 0] rfl)
  unfold P_X12_thiefGoes at h
  refine lv_iconst (v := 2) hx hb dX12_thiefGoes_0 (by decide) ?_
  refine lv_aload_n hx hb dX12_thiefGoes_1 rfl (lv_at hl 0 rfl) ?_
  refine va_get (D := D) (ci := 12) (v := .ref (aM 13)) (C := RX12) (T := TX12) (N := 51) hx hb hw inW_X12 hown hK hP 0 rfl rfl 23 (by decide) (hw _ mw_6_66) (fun _ h9 => h9) rfl dX12_thiefGoes_2 ?_
  refine lv_iconst (v := 0) hx hb dX12_thiefGoes_5 (by decide) ?_
  refine cIald hx hb hK hP 13 0 rfl rfl 0 (by decide +kernel) (cIn (by decide +kernel)) dX12_thiefGoes_6 ?_
  refine lv_ishl hx hb dX12_thiefGoes_7 ?_
  refine lv_topi (fun x25 ex25 => ?_)
  have h := h x25 ex25
  refine lv_istore_n (lv' := [(3, .int x25), (0, .ref (aM 0)), (1, .int p1), (2, .int p2)]) hx hb dX12_thiefGoes_8 rfl hl (by decide) rfl (fun ls hl => ?_)
  refine lv_iconst (v := 1) hx hb dX12_thiefGoes_9 (by decide) ?_
  refine lv_aload_n hx hb dX12_thiefGoes_10 rfl (lv_at hl 1 rfl) ?_
  refine va_get (D := D) (ci := 12) (v := .ref (aM 15)) (C := RX12) (T := TX12) (N := 51) hx hb hw inW_X12 hown hK hP 0 rfl rfl 25 (by decide) (hw _ mw_6_68) (fun _ h9 => h9) rfl dX12_thiefGoes_11 ?_
  refine lv_iconst (v := 0) hx hb dX12_thiefGoes_14 (by decide) ?_
  refine cIald hx hb hK hP 15 0 rfl rfl 0 (by decide +kernel) (cIn (by decide +kernel)) dX12_thiefGoes_15 ?_
  refine lv_ishl hx hb dX12_thiefGoes_16 ?_
  refine lv_topi (fun x26 ex26 => ?_)
  have h := h x26 ex26
  refine lv_istore (lv' := [(4, .int x26), (3, .int x25), (0, .ref (aM 0)), (1, .int p1), (2, .int p2)]) hx hb dX12_thiefGoes_17 hl (by decide) rfl (fun ls hl => ?_)
  refine lv_iconst (v := 0) hx hb dX12_thiefGoes_19 (by decide) ?_
  refine lv_istore (lv' := [(5, .int 0), (4, .int x26), (3, .int x25), (0, .ref (aM 0)), (1, .int p1), (2, .int p2)]) hx hb dX12_thiefGoes_20 hl (by decide) rfl (fun ls hl => ?_)
  obtain ⟨n, h⟩ := h
  exact N22 x25 x26 n 0 ml _ _ _ h hP hD hS (lv_sub hl [3, 4, 5, 2, 1, 0] rfl)
abbrev vsX12_baits : List Cond := Cond.code yX12_baits cX12_baits 10 none :: WS
abbrev rmX12_baits : Room := { frames := 4, cells := 0, slots := 0, locals := 95 }
set_option maxHeartbeats 4000000 in
set_option maxRecDepth 100000 in
theorem k_X12_baits (l : Launch) (D : va_G) (C : Nat → ClassId) (sz : Nat) (aM : Nat → Nat)  (ms : Nat → Int32) (mw : Nat → Int64) (ma : Nat → Nat → Int32) (ml : Nat → Nat → Int64) (p1 : Int32) (p2 : Int32) (p3 : Int32) {post : (Nat → Int32) → (Nat → Int64) → (Nat → Nat → Int32) → (Nat → Nat → Int64) → Prop} (h : P_X12_baits ms mw ma ml p1 p2 p3 post) : Met l yX12_baits vsX12_baits rmX12_baits (cPre D C [.ref (aM 0), .int p1, .int p2, .int p3] sz (wM aM C ms mw ma ml)) (cQv D (fun (u : (Nat → Int32) × (Nat → Int64) × (Nat → Nat → Int32) × (Nat → Nat → Int64)) => post u.1 u.2.1 u.2.2.1 u.2.2.2) (fun u => wM aM C u.1 u.2.1 u.2.2.1 u.2.2.2) (va_A (List.flatten (wM aM C ms mw ma ml)) sz)) 0 0 (va_A (List.flatten (wM aM C ms mw ma ml)) sz) := by
  refine cStart (QA := fun A => cQv D (fun (u : (Nat → Int32) × (Nat → Int64) × (Nat → Nat → Int32) × (Nat → Nat → Int64)) => post u.1 u.2.1 u.2.2.1 u.2.2.2) (fun u => wM aM C u.1 u.2.1 u.2.2.1 u.2.2.2) A) (cc := cX12_baits) (maxL := 10) (ret := none) (by decide) (Nat.le_of_ble_eq_true rfl) ?_
  intro p e s m args below meth c A ls hx hb hr hml hown hw hlocks hname hK hN hA hP hD hS hl
  generalize hQ : MQ below _ args s 0 0 A = Q
  have hl : lv_has ls 10 [(0, .ref (aM 0)), (1, .int p1), (2, .int p2), (3, .int p3)] := hl
  obtain ⟨H, hH⟩ : ∃ H, H = s.heap := ⟨_, rfl⟩
  obtain ⟨locs, hlo⟩ : ∃ z : List Loc, z = [] := ⟨_, rfl⟩
  have hP : va_P D vwCl (List.flatten (wM aM C ms mw ma ml)) H := by rw [hH]; exact hP
  have hS : va_S A s.heap H locs := by rw [hH, hlo]; exact hS
  rw [show W p l e rmX12_baits s m args below meth c s.heap [] 0 0 Q (F0 m 0 ls []) = W p l e rmX12_baits s m args below meth c H locs 0 0 Q (F0 m 0 ls []) from by rw [hH, hlo]]
  have N68 : ∀ (x4_ : Int32) (x5_ : Int32) (ms : Nat → Int32) (ma : Nat → Nat → Int32) (n68 : Nat) (x6_ : Int32) (mw : Nat → Int64) (ml : Nat → Nat → Int64) (H : Heap) (locs : List Loc) (ls : Array Slot), P_X12_baits_68 p1 p2 p3 post  x4_ x5_ ms ma n68 x6_ mw ml → va_P D vwCl (List.flatten (wM aM C ms mw ma ml)) H → va_D A (List.flatten (wM aM C ms mw ma ml)) → va_S A s.heap H locs → lv_has ls 10 [(0, .ref (aM 0)), (3, .int p3), (4, .int x4_), (5, .int x5_), (6, .int x6_)] → W p l e rmX12_baits s m args below meth c H locs 0 0 Q (F0 m 68 ls []) := by
    intro x4_ x5_ ms ma
    intro n68
    induction n68 with
    | zero => intro x6_ mw ml H locs ls h hP hD hS hl; exact False.elim h
    | succ n68 ih68 =>
      have N193 : ∀ (x6_ : Int32) (n193 : Nat) (x7_ : Int32) (mw : Nat → Int64) (ml : Nat → Nat → Int64) (H : Heap) (locs : List Loc) (ls : Array Slot), P_X12_baits_193 p1 p2 p3 x4_ x5_ ms ma post (P_X12_baits_68 p1 p2 p3 post  x4_ x5_ ms ma n68) x6_ n193 x7_ mw ml → va_P D vwCl (List.flatten (wM aM C ms mw ma ml)) H → va_D A (List.flatten (wM aM C ms mw ma ml)) → va_S A s.heap H locs → lv_has ls 10 [(0, .ref (aM 0)), (3, .int p3), (4, .int x4_), (5, .int x5_), (6, .int x6_), (7, .int x7_)] → W p l e rmX12_baits s m args below meth c H locs 0 0 Q (F0 m 193 ls []) := by
        intro x6_
        intro n193
        induction n193 with
        | zero => intro x7_ mw ml H locs ls h hP hD hS hl; exact False.elim h
        | succ n193 ih193 =>
          have N257 : ∀ (x7_ : Int32) (x8_ : Int32) (n257 : Nat) (x9_ : Int32) (mw : Nat → Int64) (ml : Nat → Nat → Int64) (H : Heap) (locs : List Loc) (ls : Array Slot), P_X12_baits_257 p1 p2 p3 x4_ x5_ ms ma x6_ post (P_X12_baits_193 p1 p2 p3 x4_ x5_ ms ma post (P_X12_baits_68 p1 p2 p3 post  x4_ x5_ ms ma n68) x6_ n193) x7_ x8_ n257 x9_ mw ml → va_P D vwCl (List.flatten (wM aM C ms mw ma ml)) H → va_D A (List.flatten (wM aM C ms mw ma ml)) → va_S A s.heap H locs → lv_has ls 10 [(0, .ref (aM 0)), (3, .int p3), (4, .int x4_), (5, .int x5_), (6, .int x6_), (7, .int x7_), (8, .int x8_), (9, .int x9_)] → W p l e rmX12_baits s m args below meth c H locs 0 0 Q (F0 m 257 ls []) := by
            intro x7_ x8_
            intro n257
            induction n257 with
            | zero => intro x9_ mw ml H locs ls h hP hD hS hl; exact False.elim h
            | succ n257 ih257 =>
              intro x9_ mw ml H locs ls h hP hD hS hl
              refine lv_iload hx hb dX12_baits_257 (lv_at hl 7 rfl) ?_
              refine lv_iload hx hb dX12_baits_259 (lv_at hl 3 rfl) ?_
              refine lv_icmp_ge (tgt := 317) hx hb dX12_baits_261 (by decide) (fun c1 => ?_) (fun c1 => ?_)
              · have h := h.1 c1
                refine lv_iinc (v := (x7_ + 1)) (lv' := [(7, .int (x7_ + 1)), (0, .ref (aM 0)), (3, .int p3), (4, .int x4_), (5, .int x5_), (6, .int x6_), (8, .int x8_), (9, .int x9_)]) hx hb dX12_baits_317 hl (k := 5) rfl rfl (by decide) rfl (fun ls hl => ?_)
                refine lv_goto (tgt := 193) hx hb dX12_baits_320 (by decide) ?_
                exact ih193 (x7_ + 1) mw ml _ _ _ h hP hD hS (lv_sub hl [1, 2, 3, 4, 5, 0] rfl)
              · have h := h.2 c1
                refine lv_aload_n hx hb dX12_baits_264 rfl (lv_at hl 0 rfl) ?_
                refine va_get (D := D) (ci := 12) (v := .ref (aM 31)) (C := RX12) (T := TX12) (N := 51) hx hb hw inW_X12 hown hK hP 0 rfl rfl 46 (by decide) (hw _ mw_6_89) (fun _ h9 => h9) rfl dX12_baits_265 ?_
                refine lv_iload hx hb dX12_baits_268 (lv_at hl 7 rfl) ?_
                refine lv_dup2_11 hx hb dX12_baits_270 rfl rfl ?_
                refine cLald hx hb hK hP 31 1 rfl rfl x9_.toNatClampNeg rfl h.1 dX12_baits_271 ?_
                have h := h.2
                refine lv_aload_n hx hb dX12_baits_272 rfl (lv_at hl 0 rfl) ?_
                refine va_get (D := D) (ci := 12) (v := .ref (aM 29)) (C := RX12) (T := TX12) (N := 51) hx hb hw inW_X12 hown hK hP 0 rfl rfl 44 (by decide) (hw _ mw_6_87) (fun _ h9 => h9) rfl dX12_baits_273 ?_
                refine lv_iload hx hb dX12_baits_276 (lv_at hl 5 rfl) ?_
                refine lv_iload hx hb dX12_baits_278 (lv_at hl 7 rfl) ?_
                refine cGoEI (cRunES (As := [.int x7_, .int x9_]) (rest := [.ref (aM 29), .long (ml 9 x9_.toNatClampNeg), .int x9_, .ref (aM 31)]) ⟨hx, hb, hml, hown, hw⟩ hK hN hP hD (k_X12_state l D C _    x7_ x9_ h) (va_cwS 2 hw (goodS mw_8_228 mw_8_229 mw_1_13 mw_8_230) rfl rfl rfl (by decide +kernel) ⟨Nat.le_of_ble_eq_true rfl, Nat.le_of_ble_eq_true rfl⟩) rfl hl.1 rfl (Nat.le_of_ble_eq_true rfl) dX12_baits_280 ⟨Nat.zero_le _, Nat.zero_le _⟩) hP hD hS hA (fun r2 u H locs h hP hD hS => ?_)
                have hP : va_P D vwCl (List.flatten (wM aM C ms mw ma ml)) H := hP
                have hD : va_D A (List.flatten (wM aM C ms mw ma ml)) := hD
                refine cLald hx hb hK hP 29 1 rfl rfl r2.toNatClampNeg rfl h.1 dX12_baits_283 ?_
                have h := h.2
                refine lv_ladd hx hb dX12_baits_284 ?_
                refine cLast hx hb hK hP hD hS 31 1 rfl rfl x9_.toNatClampNeg rfl h.1 dX12_baits_285 (fun H locs hP hD hS => ?_)
                have h := h.2
                refine lv_aload_n hx hb dX12_baits_286 rfl (lv_at hl 0 rfl) ?_
                refine lv_dup hx hb dX12_baits_287 rfl ?_
                refine va_get (D := D) (ci := 12) (v := .long (mw 2)) (C := RX12) (T := TX12) (N := 51) hx hb hw inW_X12 hown hK hP 0 rfl rfl 47 (by decide) (hw _ mw_6_90) (fun _ h9 => h9) rfl dX12_baits_288 ?_
                refine lv_aload_n hx hb dX12_baits_291 rfl (lv_at hl 0 rfl) ?_
                refine va_get (D := D) (ci := 12) (v := .ref (aM 29)) (C := RX12) (T := TX12) (N := 51) hx hb hw inW_X12 hown hK hP 0 rfl rfl 44 (by decide) (hw _ mw_6_87) (fun _ h9 => h9) rfl dX12_baits_292 ?_
                refine lv_iload hx hb dX12_baits_295 (lv_at hl 5 rfl) ?_
                refine lv_iload hx hb dX12_baits_297 (lv_at hl 7 rfl) ?_
                have hP : va_P D vwCl (List.flatten (wM aM C ms mw ma (va_up ml 9 (vp_updL (ml 9) x9_.toNatClampNeg ((ml 9 x9_.toNatClampNeg) + (ml 7 r2.toNatClampNeg)))))) H := hP
                have hD : va_D A (List.flatten (wM aM C ms mw ma (va_up ml 9 (vp_updL (ml 9) x9_.toNatClampNeg ((ml 9 x9_.toNatClampNeg) + (ml 7 r2.toNatClampNeg)))))) := hD
                refine cGoEI (cRunES (As := [.int x7_, .int x9_]) (rest := [.ref (aM 29), .long (mw 2), .ref (aM 0)]) ⟨hx, hb, hml, hown, hw⟩ hK hN hP hD (k_X12_state l D C _    x7_ x9_ h) (va_cwS 2 hw (goodS mw_8_228 mw_8_229 mw_1_13 mw_8_230) rfl rfl rfl (by decide +kernel) ⟨Nat.le_of_ble_eq_true rfl, Nat.le_of_ble_eq_true rfl⟩) rfl hl.1 rfl (Nat.le_of_ble_eq_true rfl) dX12_baits_299 ⟨Nat.zero_le _, Nat.zero_le _⟩) hP hD hS hA (fun r3 u H locs h hP hD hS => ?_)
                have hP : va_P D vwCl (List.flatten (wM aM C ms mw ma (va_up ml 9 (vp_updL (ml 9) x9_.toNatClampNeg ((ml 9 x9_.toNatClampNeg) + (ml 7 r2.toNatClampNeg)))))) H := hP
                have hD : va_D A (List.flatten (wM aM C ms mw ma (va_up ml 9 (vp_updL (ml 9) x9_.toNatClampNeg ((ml 9 x9_.toNatClampNeg) + (ml 7 r2.toNatClampNeg)))))) := hD
                refine cLald hx hb hK hP 29 1 rfl rfl r3.toNatClampNeg rfl h.1 dX12_baits_302 ?_
                have h := h.2
                refine lv_iload hx hb dX12_baits_303 (lv_at hl 6 rfl) ?_
                refine lv_i2l hx hb dX12_baits_305 rfl ?_
                refine lv_lmul hx hb dX12_baits_306 ?_
                refine lv_ladd hx hb dX12_baits_307 ?_
                refine lv_topl (fun x4 ex4 => ?_)
                have h := h x4 ex4
                refine va_put (D := D) (ci := 12) (v := .long x4) (ty := .long) (C := RX12) (T := TX12) (N := 51) hx hb hw inW_X12 tyX12 tyX12_ok nmX12 hown hK hP hD hS 0 rfl rfl 47 (by decide) (hw _ mw_6_90) (fun _ h9 => h9) rfl (by decide +kernel) rfl rfl (Nat.le_of_ble_eq_true rfl) dX12_baits_308 (fun H locs hP hD hS => ?_)
                refine lv_iinc (v := (x9_ + 1)) (lv' := [(9, .int (x9_ + 1)), (0, .ref (aM 0)), (3, .int p3), (4, .int x4_), (5, .int x5_), (6, .int x6_), (7, .int x7_), (8, .int x8_)]) hx hb dX12_baits_311 hl (k := 7) rfl rfl (by decide) rfl (fun ls hl => ?_)
                refine lv_goto (tgt := 257) hx hb dX12_baits_314 (by decide) ?_
                have hP : va_P D vwCl (List.flatten (wM aM C ms (va_up mw 2 x4) ma (va_up ml 9 (vp_updL (ml 9) x9_.toNatClampNeg ((ml 9 x9_.toNatClampNeg) + (ml 7 r2.toNatClampNeg)))))) H := hP
                have hD : va_D A (List.flatten (wM aM C ms (va_up mw 2 x4) ma (va_up ml 9 (vp_updL (ml 9) x9_.toNatClampNeg ((ml 9 x9_.toNatClampNeg) + (ml 7 r2.toNatClampNeg)))))) := hD
                exact ih257 (x9_ + 1) (va_up mw 2 x4) (va_up ml 9 (vp_updL (ml 9) x9_.toNatClampNeg ((ml 9 x9_.toNatClampNeg) + (ml 7 r2.toNatClampNeg)))) _ _ _ h hP hD hS (lv_sub hl [1, 2, 3, 4, 5, 6, 7, 0] rfl)
          have N206 : ∀ (x7_ : Int32) (mw : Nat → Int64) (ml : Nat → Nat → Int64) (n206 : Nat) (x8_ : Int32) (x9_ : Int32) (H : Heap) (locs : List Loc) (ls : Array Slot), P_X12_baits_206 p1 p2 p3 x4_ x5_ ms ma x6_ post (fun (x7_ : Int32) (x8_ : Int32) (x9_ : Int32) (mw : Nat → Int64) (ml : Nat → Nat → Int64) => ∃ n : Nat, P_X12_baits_257 p1 p2 p3 x4_ x5_ ms ma x6_ post (P_X12_baits_193 p1 p2 p3 x4_ x5_ ms ma post (P_X12_baits_68 p1 p2 p3 post  x4_ x5_ ms ma n68) x6_ n193) x7_ x8_ n x9_ mw ml) x7_ mw ml n206 x8_ x9_ → va_P D vwCl (List.flatten (wM aM C ms mw ma ml)) H → va_D A (List.flatten (wM aM C ms mw ma ml)) → va_S A s.heap H locs → lv_has ls 10 [(0, .ref (aM 0)), (3, .int p3), (4, .int x4_), (5, .int x5_), (6, .int x6_), (7, .int x7_), (8, .int x8_), (9, .int x9_)] → W p l e rmX12_baits s m args below meth c H locs 0 0 Q (F0 m 206 ls []) := by
            intro x7_ mw ml
            intro n206
            induction n206 with
            | zero => intro x8_ x9_ H locs ls h hP hD hS hl; exact False.elim h
            | succ n206 ih206 =>
              intro x8_ x9_ H locs ls h hP hD hS hl
              refine lv_iload hx hb dX12_baits_206 (lv_at hl 7 rfl) ?_
              refine lv_aload_n hx hb dX12_baits_208 rfl (lv_at hl 0 rfl) ?_
              refine va_get (D := D) (ci := 12) (v := .ref (aM 13)) (C := RX12) (T := TX12) (N := 51) hx hb hw inW_X12 hown hK hP 0 rfl rfl 23 (by decide) (hw _ mw_6_66) (fun _ h9 => h9) rfl dX12_baits_209 ?_
              refine lv_iconst (v := 0) hx hb dX12_baits_212 (by decide) ?_
              refine cIald hx hb hK hP 13 0 rfl rfl 0 (by decide +kernel) (cIn (by decide +kernel)) dX12_baits_213 ?_
              refine lv_icmp_ge (tgt := 254) hx hb dX12_baits_214 (by decide) (fun c5 => ?_) (fun c5 => ?_)
              · have h := h.1 c5
                refine lv_iconst (v := 0) hx hb dX12_baits_254 (by decide) ?_
                refine lv_istore (lv' := [(9, .int 0), (0, .ref (aM 0)), (3, .int p3), (4, .int x4_), (5, .int x5_), (6, .int x6_), (7, .int x7_), (8, .int x8_)]) hx hb dX12_baits_255 hl (by decide) rfl (fun ls hl => ?_)
                obtain ⟨n, h⟩ := h
                exact N257 x7_ x8_ n 0 mw ml _ _ _ h hP hD hS (lv_sub hl [1, 2, 3, 4, 5, 6, 7, 0] rfl)
              · have h := h.2 c5
                refine lv_iload hx hb dX12_baits_217 (lv_at hl 6 rfl) ?_
                refine lv_iload hx hb dX12_baits_219 (lv_at hl 5 rfl) ?_
                refine lv_iload hx hb dX12_baits_221 (lv_at hl 7 rfl) ?_
                refine lv_ishr hx hb dX12_baits_223 ?_
                refine lv_iconst (v := 1) hx hb dX12_baits_224 (by decide) ?_
                refine lv_iand hx hb dX12_baits_225 ?_
                refine lv_iconst (v := 1) hx hb dX12_baits_226 (by decide) ?_
                refine lv_icmp_ne (tgt := 244) hx hb dX12_baits_227 (by decide) (fun c6 => ?_) (fun c6 => ?_)
                · have h := h.1 c6
                  refine lv_iconst (v := 0) hx hb dX12_baits_244 (by decide) ?_
                  refine lv_iadd hx hb dX12_baits_245 ?_
                  refine lv_topi (fun x7 ex7 => ?_)
                  have h := h x7 ex7
                  refine lv_istore (lv' := [(8, .int x7), (0, .ref (aM 0)), (3, .int p3), (4, .int x4_), (5, .int x5_), (6, .int x6_), (7, .int x7_), (9, .int x9_)]) hx hb dX12_baits_246 hl (by decide) rfl (fun ls hl => ?_)
                  refine lv_iinc (v := (x9_ + 1)) (lv' := [(9, .int (x9_ + 1)), (8, .int x7), (0, .ref (aM 0)), (3, .int p3), (4, .int x4_), (5, .int x5_), (6, .int x6_), (7, .int x7_)]) hx hb dX12_baits_248 hl (k := 7) rfl rfl (by decide) rfl (fun ls hl => ?_)
                  refine lv_goto (tgt := 206) hx hb dX12_baits_251 (by decide) ?_
                  exact ih206 x7 (x9_ + 1) _ _ _ h hP hD hS (lv_sub hl [2, 3, 4, 5, 6, 7, 1, 0] rfl)
                · have h := h.2 c6
                  refine lv_aload_n hx hb dX12_baits_230 rfl (lv_at hl 0 rfl) ?_
                  refine va_get (D := D) (ci := 12) (v := .ref (aM 14)) (C := RX12) (T := TX12) (N := 51) hx hb hw inW_X12 hown hK hP 0 rfl rfl 24 (by decide) (hw _ mw_6_67) (fun _ h9 => h9) rfl dX12_baits_231 ?_
                  refine lv_iconst (v := 0) hx hb dX12_baits_234 (by decide) ?_
                  refine lv_iload hx hb dX12_baits_235 (lv_at hl 7 rfl) ?_
                  refine cGoEI (cRunES (As := [.int 0, .int x9_]) (rest := [.ref (aM 14), .int x8_]) ⟨hx, hb, hml, hown, hw⟩ hK hN hP hD (k_X12_at l D C _    0 x9_ h) (va_cwS 2 hw (goodS mw_7_148 mw_7_149 mw_1_13 mw_7_150) rfl rfl rfl (by decide +kernel) ⟨Nat.le_of_ble_eq_true rfl, Nat.le_of_ble_eq_true rfl⟩) rfl hl.1 rfl (Nat.le_of_ble_eq_true rfl) dX12_baits_237 ⟨Nat.zero_le _, Nat.zero_le _⟩) hP hD hS hA (fun r8 u H locs h hP hD hS => ?_)
                  have hP : va_P D vwCl (List.flatten (wM aM C ms mw ma ml)) H := hP
                  have hD : va_D A (List.flatten (wM aM C ms mw ma ml)) := hD
                  refine cIald hx hb hK hP 14 0 rfl rfl r8.toNatClampNeg rfl h.1 dX12_baits_240 ?_
                  have h := h.2
                  refine lv_goto (tgt := 245) hx hb dX12_baits_241 (by decide) ?_
                  refine lv_iadd hx hb dX12_baits_245 ?_
                  refine lv_topi (fun x9 ex9 => ?_)
                  have h := h x9 ex9
                  refine lv_istore (lv' := [(8, .int x9), (0, .ref (aM 0)), (3, .int p3), (4, .int x4_), (5, .int x5_), (6, .int x6_), (7, .int x7_), (9, .int x9_)]) hx hb dX12_baits_246 hl (by decide) rfl (fun ls hl => ?_)
                  refine lv_iinc (v := (x9_ + 1)) (lv' := [(9, .int (x9_ + 1)), (8, .int x9), (0, .ref (aM 0)), (3, .int p3), (4, .int x4_), (5, .int x5_), (6, .int x6_), (7, .int x7_)]) hx hb dX12_baits_248 hl (k := 7) rfl rfl (by decide) rfl (fun ls hl => ?_)
                  refine lv_goto (tgt := 206) hx hb dX12_baits_251 (by decide) ?_
                  exact ih206 x9 (x9_ + 1) _ _ _ h hP hD hS (lv_sub hl [2, 3, 4, 5, 6, 7, 1, 0] rfl)
          intro x7_ mw ml H locs ls h hP hD hS hl
          refine lv_iload hx hb dX12_baits_193 (lv_at hl 5 rfl) ?_
          refine lv_iload hx hb dX12_baits_195 (lv_at hl 2 rfl) ?_
          refine lv_icmp_ge (tgt := 323) hx hb dX12_baits_197 (by decide) (fun c13 => ?_) (fun c13 => ?_)
          · have h := h.1 c13
            refine lv_iinc (v := (x6_ + 1)) (lv' := [(6, .int (x6_ + 1)), (0, .ref (aM 0)), (3, .int p3), (4, .int x4_), (5, .int x5_), (7, .int x7_)]) hx hb dX12_baits_323 hl (k := 4) rfl rfl (by decide) rfl (fun ls hl => ?_)
            refine lv_goto (tgt := 68) hx hb dX12_baits_326 (by decide) ?_
            exact ih68 (x6_ + 1) mw ml _ _ _ h hP hD hS (lv_sub hl [1, 2, 3, 4, 0] rfl)
          · have h := h.2 c13
            refine lv_iconst (v := 0) hx hb dX12_baits_200 (by decide) ?_
            refine lv_istore (lv' := [(8, .int 0), (0, .ref (aM 0)), (3, .int p3), (4, .int x4_), (5, .int x5_), (6, .int x6_), (7, .int x7_)]) hx hb dX12_baits_201 hl (by decide) rfl (fun ls hl => ?_)
            refine lv_iconst (v := 0) hx hb dX12_baits_203 (by decide) ?_
            refine lv_istore (lv' := [(9, .int 0), (8, .int 0), (0, .ref (aM 0)), (3, .int p3), (4, .int x4_), (5, .int x5_), (6, .int x6_), (7, .int x7_)]) hx hb dX12_baits_204 hl (by decide) rfl (fun ls hl => ?_)
            obtain ⟨n, h⟩ := h
            exact N206 x7_ mw ml n 0 0 _ _ _ h hP hD hS (lv_sub hl [2, 3, 4, 5, 6, 7, 1, 0] rfl)
      have N169 : ∀ (x6_ : Int32) (mw : Nat → Int64) (n169 : Nat) (x7_ : Int32) (ml : Nat → Nat → Int64) (H : Heap) (locs : List Loc) (ls : Array Slot), P_X12_baits_169 p1 p2 p3 x4_ x5_ ms ma post (fun (x6_ : Int32) (x7_ : Int32) (mw : Nat → Int64) (ml : Nat → Nat → Int64) => ∃ n : Nat, P_X12_baits_193 p1 p2 p3 x4_ x5_ ms ma post (P_X12_baits_68 p1 p2 p3 post  x4_ x5_ ms ma n68) x6_ n x7_ mw ml) x6_ mw n169 x7_ ml → va_P D vwCl (List.flatten (wM aM C ms mw ma ml)) H → va_D A (List.flatten (wM aM C ms mw ma ml)) → va_S A s.heap H locs → lv_has ls 10 [(0, .ref (aM 0)), (3, .int p3), (4, .int x4_), (5, .int x5_), (6, .int x6_), (7, .int x7_)] → W p l e rmX12_baits s m args below meth c H locs 0 0 Q (F0 m 169 ls []) := by
        intro x6_ mw
        intro n169
        induction n169 with
        | zero => intro x7_ ml H locs ls h hP hD hS hl; exact False.elim h
        | succ n169 ih169 =>
          intro x7_ ml H locs ls h hP hD hS hl
          refine lv_iload hx hb dX12_baits_169 (lv_at hl 5 rfl) ?_
          refine lv_iload hx hb dX12_baits_171 (lv_at hl 3 rfl) ?_
          refine lv_icmp_ge (tgt := 190) hx hb dX12_baits_173 (by decide) (fun c14 => ?_) (fun c14 => ?_)
          · have h := h.1 c14
            refine lv_iconst (v := 0) hx hb dX12_baits_190 (by decide) ?_
            refine lv_istore (lv' := [(7, .int 0), (0, .ref (aM 0)), (3, .int p3), (4, .int x4_), (5, .int x5_), (6, .int x6_)]) hx hb dX12_baits_191 hl (by decide) rfl (fun ls hl => ?_)
            obtain ⟨n, h⟩ := h
            exact N193 x6_ n 0 mw ml _ _ _ h hP hD hS (lv_sub hl [1, 2, 3, 4, 5, 0] rfl)
          · have h := h.2 c14
            refine lv_aload_n hx hb dX12_baits_176 rfl (lv_at hl 0 rfl) ?_
            refine va_get (D := D) (ci := 12) (v := .ref (aM 31)) (C := RX12) (T := TX12) (N := 51) hx hb hw inW_X12 hown hK hP 0 rfl rfl 46 (by decide) (hw _ mw_6_89) (fun _ h9 => h9) rfl dX12_baits_177 ?_
            refine lv_iload hx hb dX12_baits_180 (lv_at hl 5 rfl) ?_
            refine lv_lconst (v := 0) hx hb dX12_baits_182 (by decide) ?_
            refine cLast hx hb hK hP hD hS 31 1 rfl rfl x7_.toNatClampNeg rfl h.1 dX12_baits_183 (fun H locs hP hD hS => ?_)
            have h := h.2
            refine lv_iinc (v := (x7_ + 1)) (lv' := [(7, .int (x7_ + 1)), (0, .ref (aM 0)), (3, .int p3), (4, .int x4_), (5, .int x5_), (6, .int x6_)]) hx hb dX12_baits_184 hl (k := 5) rfl rfl (by decide) rfl (fun ls hl => ?_)
            refine lv_goto (tgt := 169) hx hb dX12_baits_187 (by decide) ?_
            have hP : va_P D vwCl (List.flatten (wM aM C ms mw ma (va_up ml 9 (vp_updL (ml 9) x7_.toNatClampNeg 0)))) H := hP
            have hD : va_D A (List.flatten (wM aM C ms mw ma (va_up ml 9 (vp_updL (ml 9) x7_.toNatClampNeg 0)))) := hD
            exact ih169 (x7_ + 1) (va_up ml 9 (vp_updL (ml 9) x7_.toNatClampNeg 0)) _ _ _ h hP hD hS (lv_sub hl [1, 2, 3, 4, 5, 0] rfl)
      have N142 : ∀ (x6_ : Int32) (mw : Nat → Int64) (n142 : Nat) (x7_ : Int32) (ml : Nat → Nat → Int64) (H : Heap) (locs : List Loc) (ls : Array Slot), P_X12_baits_142 p1 p2 p3 x4_ x5_ ms ma post (fun (x6_ : Int32) (mw : Nat → Int64) (x7_ : Int32) (ml : Nat → Nat → Int64) => ∃ n : Nat, P_X12_baits_169 p1 p2 p3 x4_ x5_ ms ma post (fun (x6_ : Int32) (x7_ : Int32) (mw : Nat → Int64) (ml : Nat → Nat → Int64) => ∃ n : Nat, P_X12_baits_193 p1 p2 p3 x4_ x5_ ms ma post (P_X12_baits_68 p1 p2 p3 post  x4_ x5_ ms ma n68) x6_ n x7_ mw ml) x6_ mw n x7_ ml) x6_ mw n142 x7_ ml → va_P D vwCl (List.flatten (wM aM C ms mw ma ml)) H → va_D A (List.flatten (wM aM C ms mw ma ml)) → va_S A s.heap H locs → lv_has ls 10 [(0, .ref (aM 0)), (3, .int p3), (4, .int x4_), (5, .int x5_), (6, .int x6_), (7, .int x7_)] → W p l e rmX12_baits s m args below meth c H locs 0 0 Q (F0 m 142 ls []) := by
        intro x6_ mw
        intro n142
        induction n142 with
        | zero => intro x7_ ml H locs ls h hP hD hS hl; exact False.elim h
        | succ n142 ih142 =>
          intro x7_ ml H locs ls h hP hD hS hl
          refine lv_iload hx hb dX12_baits_142 (lv_at hl 5 rfl) ?_
          refine lv_aload_n hx hb dX12_baits_144 rfl (lv_at hl 0 rfl) ?_
          refine va_get (D := D) (ci := 12) (v := .ref (aM 15)) (C := RX12) (T := TX12) (N := 51) hx hb hw inW_X12 hown hK hP 0 rfl rfl 25 (by decide) (hw _ mw_6_68) (fun _ h9 => h9) rfl dX12_baits_145 ?_
          refine lv_iconst (v := 0) hx hb dX12_baits_148 (by decide) ?_
          refine cIald hx hb hK hP 15 0 rfl rfl 0 (by decide +kernel) (cIn (by decide +kernel)) dX12_baits_149 ?_
          refine lv_icmp_ge (tgt := 166) hx hb dX12_baits_150 (by decide) (fun c15 => ?_) (fun c15 => ?_)
          · have h := h.1 c15
            refine lv_iconst (v := 0) hx hb dX12_baits_166 (by decide) ?_
            refine lv_istore (lv' := [(7, .int 0), (0, .ref (aM 0)), (3, .int p3), (4, .int x4_), (5, .int x5_), (6, .int x6_)]) hx hb dX12_baits_167 hl (by decide) rfl (fun ls hl => ?_)
            obtain ⟨n, h⟩ := h
            exact N169 x6_ mw n 0 ml _ _ _ h hP hD hS (lv_sub hl [1, 2, 3, 4, 5, 0] rfl)
          · have h := h.2 c15
            refine lv_aload_n hx hb dX12_baits_153 rfl (lv_at hl 0 rfl) ?_
            refine lv_iload hx hb dX12_baits_154 (lv_at hl 5 rfl) ?_
            refine lv_iload_n hx hb dX12_baits_156 rfl (lv_at hl 1 rfl) ?_
            refine cGoAV (cRunAV (As := [.int x7_, .int p3]) (rest := []) ⟨hx, hb, hml, hown, hw⟩ hK hN hP hD (k_X12_thiefGoes l D C _ aM  ms mw ma ml x7_ p3 h) (cwV 2 hw (goodV mw_8_231 mw_8_233 mw_s174 mw_1_13 mw_8_234) rfl rfl rfl (by decide +kernel) ⟨Nat.le_of_ble_eq_true rfl, Nat.le_of_ble_eq_true rfl⟩) rfl rfl rfl hl.1 rfl (Nat.le_of_ble_eq_true rfl) dX12_baits_157 ⟨Nat.zero_le _, Nat.zero_le _⟩) hP hD hS hA (fun ml_16 H locs h hP hD hS => ?_)
            have hP : va_P D vwCl (List.flatten (wM aM C ms mw ma ml_16)) H := hP
            have hD : va_D A (List.flatten (wM aM C ms mw ma ml_16)) := hD
            refine lv_iinc (v := (x7_ + 1)) (lv' := [(7, .int (x7_ + 1)), (0, .ref (aM 0)), (3, .int p3), (4, .int x4_), (5, .int x5_), (6, .int x6_)]) hx hb dX12_baits_160 hl (k := 5) rfl rfl (by decide) rfl (fun ls hl => ?_)
            refine lv_goto (tgt := 142) hx hb dX12_baits_163 (by decide) ?_
            exact ih142 (x7_ + 1) ml_16 _ _ _ h hP hD hS (lv_sub hl [1, 2, 3, 4, 5, 0] rfl)
      have N82 : ∀ (x6_ : Int32) (mw : Nat → Int64) (n82 : Nat) (x7_ : Int32) (ml : Nat → Nat → Int64) (H : Heap) (locs : List Loc) (ls : Array Slot), P_X12_baits_82 p1 p2 p3 x4_ x5_ ms ma post (fun (x6_ : Int32) (mw : Nat → Int64) (x7_ : Int32) (ml : Nat → Nat → Int64) => ∃ n : Nat, P_X12_baits_142 p1 p2 p3 x4_ x5_ ms ma post (fun (x6_ : Int32) (mw : Nat → Int64) (x7_ : Int32) (ml : Nat → Nat → Int64) => ∃ n : Nat, P_X12_baits_169 p1 p2 p3 x4_ x5_ ms ma post (fun (x6_ : Int32) (x7_ : Int32) (mw : Nat → Int64) (ml : Nat → Nat → Int64) => ∃ n : Nat, P_X12_baits_193 p1 p2 p3 x4_ x5_ ms ma post (P_X12_baits_68 p1 p2 p3 post  x4_ x5_ ms ma n68) x6_ n x7_ mw ml) x6_ mw n x7_ ml) x6_ mw n x7_ ml) x6_ mw n82 x7_ ml → va_P D vwCl (List.flatten (wM aM C ms mw ma ml)) H → va_D A (List.flatten (wM aM C ms mw ma ml)) → va_S A s.heap H locs → lv_has ls 10 [(0, .ref (aM 0)), (3, .int p3), (4, .int x4_), (5, .int x5_), (6, .int x6_), (7, .int x7_)] → W p l e rmX12_baits s m args below meth c H locs 0 0 Q (F0 m 82 ls []) := by
        intro x6_ mw
        intro n82
        induction n82 with
        | zero => intro x7_ ml H locs ls h hP hD hS hl; exact False.elim h
        | succ n82 ih82 =>
          have N92 : ∀ (x7_ : Int32) (n92 : Nat) (x8_ : Int32) (ml : Nat → Nat → Int64) (H : Heap) (locs : List Loc) (ls : Array Slot), P_X12_baits_92 p1 p2 p3 x4_ x5_ ms ma x6_ mw post (P_X12_baits_82 p1 p2 p3 x4_ x5_ ms ma post (fun (x6_ : Int32) (mw : Nat → Int64) (x7_ : Int32) (ml : Nat → Nat → Int64) => ∃ n : Nat, P_X12_baits_142 p1 p2 p3 x4_ x5_ ms ma post (fun (x6_ : Int32) (mw : Nat → Int64) (x7_ : Int32) (ml : Nat → Nat → Int64) => ∃ n : Nat, P_X12_baits_169 p1 p2 p3 x4_ x5_ ms ma post (fun (x6_ : Int32) (x7_ : Int32) (mw : Nat → Int64) (ml : Nat → Nat → Int64) => ∃ n : Nat, P_X12_baits_193 p1 p2 p3 x4_ x5_ ms ma post (P_X12_baits_68 p1 p2 p3 post  x4_ x5_ ms ma n68) x6_ n x7_ mw ml) x6_ mw n x7_ ml) x6_ mw n x7_ ml) x6_ mw n82) x7_ n92 x8_ ml → va_P D vwCl (List.flatten (wM aM C ms mw ma ml)) H → va_D A (List.flatten (wM aM C ms mw ma ml)) → va_S A s.heap H locs → lv_has ls 10 [(0, .ref (aM 0)), (3, .int p3), (4, .int x4_), (5, .int x5_), (6, .int x6_), (7, .int x7_), (8, .int x8_)] → W p l e rmX12_baits s m args below meth c H locs 0 0 Q (F0 m 92 ls []) := by
            intro x7_
            intro n92
            induction n92 with
            | zero => intro x8_ ml H locs ls h hP hD hS hl; exact False.elim h
            | succ n92 ih92 =>
              intro x8_ ml H locs ls h hP hD hS hl
              refine lv_iload hx hb dX12_baits_92 (lv_at hl 6 rfl) ?_
              refine lv_iload hx hb dX12_baits_94 (lv_at hl 3 rfl) ?_
              refine lv_icmp_ge (tgt := 133) hx hb dX12_baits_96 (by decide) (fun c10 => ?_) (fun c10 => ?_)
              · have h := h.1 c10
                refine lv_iinc (v := (x7_ + 1)) (lv' := [(7, .int (x7_ + 1)), (0, .ref (aM 0)), (3, .int p3), (4, .int x4_), (5, .int x5_), (6, .int x6_), (8, .int x8_)]) hx hb dX12_baits_133 hl (k := 5) rfl rfl (by decide) rfl (fun ls hl => ?_)
                refine lv_goto (tgt := 82) hx hb dX12_baits_136 (by decide) ?_
                exact ih82 (x7_ + 1) ml _ _ _ h hP hD hS (lv_sub hl [1, 2, 3, 4, 5, 0] rfl)
              · have h := h.2 c10
                refine lv_aload_n hx hb dX12_baits_99 rfl (lv_at hl 0 rfl) ?_
                refine va_get (D := D) (ci := 12) (v := .ref (aM 29)) (C := RX12) (T := TX12) (N := 51) hx hb hw inW_X12 hown hK hP 0 rfl rfl 44 (by decide) (hw _ mw_6_87) (fun _ h9 => h9) rfl dX12_baits_100 ?_
                refine lv_iload hx hb dX12_baits_103 (lv_at hl 5 rfl) ?_
                refine lv_iload hx hb dX12_baits_105 (lv_at hl 6 rfl) ?_
                refine cGoEI (cRunES (As := [.int x7_, .int x8_]) (rest := [.ref (aM 29)]) ⟨hx, hb, hml, hown, hw⟩ hK hN hP hD (k_X12_state l D C _    x7_ x8_ h) (va_cwS 2 hw (goodS mw_8_228 mw_8_229 mw_1_13 mw_8_230) rfl rfl rfl (by decide +kernel) ⟨Nat.le_of_ble_eq_true rfl, Nat.le_of_ble_eq_true rfl⟩) rfl hl.1 rfl (Nat.le_of_ble_eq_true rfl) dX12_baits_107 ⟨Nat.zero_le _, Nat.zero_le _⟩) hP hD hS hA (fun r11 u H locs h hP hD hS => ?_)
                have hP : va_P D vwCl (List.flatten (wM aM C ms mw ma ml)) H := hP
                have hD : va_D A (List.flatten (wM aM C ms mw ma ml)) := hD
                refine lv_iload hx hb dX12_baits_110 (lv_at hl 5 rfl) ?_
                refine lv_if_ne (tgt := 125) hx hb dX12_baits_112 (by decide) (fun c12 => ?_) (fun c12 => ?_)
                · have h := h.1 c12
                  refine lv_lconst (v := 0) hx hb dX12_baits_125 (by decide) ?_
                  refine cLast hx hb hK hP hD hS 29 1 rfl rfl r11.toNatClampNeg rfl h.1 dX12_baits_126 (fun H locs hP hD hS => ?_)
                  have h := h.2
                  refine lv_iinc (v := (x8_ + 1)) (lv' := [(8, .int (x8_ + 1)), (0, .ref (aM 0)), (3, .int p3), (4, .int x4_), (5, .int x5_), (6, .int x6_), (7, .int x7_)]) hx hb dX12_baits_127 hl (k := 6) rfl rfl (by decide) rfl (fun ls hl => ?_)
                  refine lv_goto (tgt := 92) hx hb dX12_baits_130 (by decide) ?_
                  have hP : va_P D vwCl (List.flatten (wM aM C ms mw ma (va_up ml 7 (vp_updL (ml 7) r11.toNatClampNeg 0)))) H := hP
                  have hD : va_D A (List.flatten (wM aM C ms mw ma (va_up ml 7 (vp_updL (ml 7) r11.toNatClampNeg 0)))) := hD
                  exact ih92 (x8_ + 1) (va_up ml 7 (vp_updL (ml 7) r11.toNatClampNeg 0)) _ _ _ h hP hD hS (lv_sub hl [1, 2, 3, 4, 5, 6, 0] rfl)
                · have h := h.2 c12
                  refine lv_aload_n hx hb dX12_baits_115 rfl (lv_at hl 0 rfl) ?_
                  refine va_get (D := D) (ci := 12) (v := .ref (aM 31)) (C := RX12) (T := TX12) (N := 51) hx hb hw inW_X12 hown hK hP 0 rfl rfl 46 (by decide) (hw _ mw_6_89) (fun _ h9 => h9) rfl dX12_baits_116 ?_
                  refine lv_iload hx hb dX12_baits_119 (lv_at hl 6 rfl) ?_
                  refine cLald hx hb hK hP 31 1 rfl rfl x8_.toNatClampNeg rfl h.1 dX12_baits_121 ?_
                  have h := h.2
                  refine lv_goto (tgt := 126) hx hb dX12_baits_122 (by decide) ?_
                  refine cLast hx hb hK hP hD hS 29 1 rfl rfl r11.toNatClampNeg rfl h.1 dX12_baits_126 (fun H locs hP hD hS => ?_)
                  have h := h.2
                  refine lv_iinc (v := (x8_ + 1)) (lv' := [(8, .int (x8_ + 1)), (0, .ref (aM 0)), (3, .int p3), (4, .int x4_), (5, .int x5_), (6, .int x6_), (7, .int x7_)]) hx hb dX12_baits_127 hl (k := 6) rfl rfl (by decide) rfl (fun ls hl => ?_)
                  refine lv_goto (tgt := 92) hx hb dX12_baits_130 (by decide) ?_
                  have hP : va_P D vwCl (List.flatten (wM aM C ms mw ma (va_up ml 7 (vp_updL (ml 7) r11.toNatClampNeg (ml 9 x8_.toNatClampNeg))))) H := hP
                  have hD : va_D A (List.flatten (wM aM C ms mw ma (va_up ml 7 (vp_updL (ml 7) r11.toNatClampNeg (ml 9 x8_.toNatClampNeg))))) := hD
                  exact ih92 (x8_ + 1) (va_up ml 7 (vp_updL (ml 7) r11.toNatClampNeg (ml 9 x8_.toNatClampNeg))) _ _ _ h hP hD hS (lv_sub hl [1, 2, 3, 4, 5, 6, 0] rfl)
          intro x7_ ml H locs ls h hP hD hS hl
          refine lv_iload hx hb dX12_baits_82 (lv_at hl 5 rfl) ?_
          refine lv_iload hx hb dX12_baits_84 (lv_at hl 2 rfl) ?_
          refine lv_icmp_ge (tgt := 139) hx hb dX12_baits_86 (by decide) (fun c17 => ?_) (fun c17 => ?_)
          · have h := h.1 c17
            refine lv_iconst (v := 0) hx hb dX12_baits_139 (by decide) ?_
            refine lv_istore (lv' := [(7, .int 0), (0, .ref (aM 0)), (3, .int p3), (4, .int x4_), (5, .int x5_), (6, .int x6_)]) hx hb dX12_baits_140 hl (by decide) rfl (fun ls hl => ?_)
            obtain ⟨n, h⟩ := h
            exact N142 x6_ mw n 0 ml _ _ _ h hP hD hS (lv_sub hl [1, 2, 3, 4, 5, 0] rfl)
          · have h := h.2 c17
            refine lv_iconst (v := 0) hx hb dX12_baits_89 (by decide) ?_
            refine lv_istore (lv' := [(8, .int 0), (0, .ref (aM 0)), (3, .int p3), (4, .int x4_), (5, .int x5_), (6, .int x6_), (7, .int x7_)]) hx hb dX12_baits_90 hl (by decide) rfl (fun ls hl => ?_)
            obtain ⟨n, h⟩ := h
            exact N92 x7_ n 0 ml _ _ _ h hP hD hS (lv_sub hl [1, 2, 3, 4, 5, 6, 0] rfl)
      intro x6_ mw ml H locs ls h hP hD hS hl
      refine lv_iload hx hb dX12_baits_68 (lv_at hl 4 rfl) ?_
      refine lv_aload_n hx hb dX12_baits_70 rfl (lv_at hl 0 rfl) ?_
      refine va_get (D := D) (ci := 12) (v := .ref (aM 8)) (C := RX12) (T := TX12) (N := 51) hx hb hw inW_X12 hown hK hP 0 rfl rfl 18 (by decide) (hw _ mw_6_61) (fun _ h9 => h9) rfl dX12_baits_71 ?_
      refine lv_iconst (v := 0) hx hb dX12_baits_74 (by decide) ?_
      refine cIald hx hb hK hP 8 0 rfl rfl 0 (by decide +kernel) (cIn (by decide +kernel)) dX12_baits_75 ?_
      refine lv_icmp_ge (tgt := 329) hx hb dX12_baits_76 (by decide) (fun c18 => ?_) (fun c18 => ?_)
      · have h := h.1 c18
        rw [← hQ]
        exact cRetV (ms, mw, ma, ml) hx hb hr hlocks hS hP hD h dX12_baits_329
      · have h := h.2 c18
        refine lv_iconst (v := 0) hx hb dX12_baits_79 (by decide) ?_
        refine lv_istore (lv' := [(7, .int 0), (0, .ref (aM 0)), (3, .int p3), (4, .int x4_), (5, .int x5_), (6, .int x6_)]) hx hb dX12_baits_80 hl (by decide) rfl (fun ls hl => ?_)
        obtain ⟨n, h⟩ := h
        exact N82 x6_ mw n 0 ml _ _ _ h hP hD hS (lv_sub hl [1, 2, 3, 4, 5, 0] rfl)
  have N33 : ∀ (x4_ : Int32) (x5_ : Int32) (ms : Nat → Int32) (mw : Nat → Int64) (ma : Nat → Nat → Int32) (n33 : Nat) (x6_ : Int32) (ml : Nat → Nat → Int64) (H : Heap) (locs : List Loc) (ls : Array Slot), P_X12_baits_33 p1 p2 p3 post (fun (x4_ : Int32) (x5_ : Int32) (ms : Nat → Int32) (ma : Nat → Nat → Int32) (x6_ : Int32) (mw : Nat → Int64) (ml : Nat → Nat → Int64) => ∃ n : Nat, P_X12_baits_68 p1 p2 p3 post  x4_ x5_ ms ma n x6_ mw ml) x4_ x5_ ms mw ma n33 x6_ ml → va_P D vwCl (List.flatten (wM aM C ms mw ma ml)) H → va_D A (List.flatten (wM aM C ms mw ma ml)) → va_S A s.heap H locs → lv_has ls 10 [(0, .ref (aM 0)), (3, .int p3), (4, .int x4_), (5, .int x5_), (6, .int x6_)] → W p l e rmX12_baits s m args below meth c H locs 0 0 Q (F0 m 33 ls []) := by
    intro x4_ x5_ ms mw ma
    intro n33
    induction n33 with
    | zero => intro x6_ ml H locs ls h hP hD hS hl; exact False.elim h
    | succ n33 ih33 =>
      intro x6_ ml H locs ls h hP hD hS hl
      refine lv_iload hx hb dX12_baits_33 (lv_at hl 4 rfl) ?_
      refine lv_iload hx hb dX12_baits_35 (lv_at hl 3 rfl) ?_
      refine lv_icmp_ge (tgt := 65) hx hb dX12_baits_37 (by decide) (fun c19 => ?_) (fun c19 => ?_)
      · have h := h.1 c19
        refine lv_iconst (v := 0) hx hb dX12_baits_65 (by decide) ?_
        refine lv_istore (lv' := [(6, .int 0), (0, .ref (aM 0)), (3, .int p3), (4, .int x4_), (5, .int x5_)]) hx hb dX12_baits_66 hl (by decide) rfl (fun ls hl => ?_)
        obtain ⟨n, h⟩ := h
        exact N68 x4_ x5_ ms ma n 0 mw ml _ _ _ h hP hD hS (lv_sub hl [1, 2, 3, 4, 0] rfl)
      · have h := h.2 c19
        refine lv_aload_n hx hb dX12_baits_40 rfl (lv_at hl 0 rfl) ?_
        refine va_get (D := D) (ci := 12) (v := .ref (aM 31)) (C := RX12) (T := TX12) (N := 51) hx hb hw inW_X12 hown hK hP 0 rfl rfl 46 (by decide) (hw _ mw_6_89) (fun _ h9 => h9) rfl dX12_baits_41 ?_
        refine lv_iload hx hb dX12_baits_44 (lv_at hl 4 rfl) ?_
        refine lv_iload hx hb dX12_baits_46 (lv_at hl 4 rfl) ?_
        refine lv_if_ne (tgt := 57) hx hb dX12_baits_48 (by decide) (fun c20 => ?_) (fun c20 => ?_)
        · have h := h.1 c20
          refine lv_lconst (v := 0) hx hb dX12_baits_57 (by decide) ?_
          refine cLast hx hb hK hP hD hS 31 1 rfl rfl x6_.toNatClampNeg rfl h.1 dX12_baits_58 (fun H locs hP hD hS => ?_)
          have h := h.2
          refine lv_iinc (v := (x6_ + 1)) (lv' := [(6, .int (x6_ + 1)), (0, .ref (aM 0)), (3, .int p3), (4, .int x4_), (5, .int x5_)]) hx hb dX12_baits_59 hl (k := 4) rfl rfl (by decide) rfl (fun ls hl => ?_)
          refine lv_goto (tgt := 33) hx hb dX12_baits_62 (by decide) ?_
          have hP : va_P D vwCl (List.flatten (wM aM C ms mw ma (va_up ml 9 (vp_updL (ml 9) x6_.toNatClampNeg 0)))) H := hP
          have hD : va_D A (List.flatten (wM aM C ms mw ma (va_up ml 9 (vp_updL (ml 9) x6_.toNatClampNeg 0)))) := hD
          exact ih33 (x6_ + 1) (va_up ml 9 (vp_updL (ml 9) x6_.toNatClampNeg 0)) _ _ _ h hP hD hS (lv_sub hl [1, 2, 3, 4, 0] rfl)
        · have h := h.2 c20
          refine lv_ldc2 (v := 1000000000000) hx hb hown (hw _ mw_7_213) dX12_baits_51 ?_
          refine lv_goto (tgt := 58) hx hb dX12_baits_54 (by decide) ?_
          refine cLast hx hb hK hP hD hS 31 1 rfl rfl x6_.toNatClampNeg rfl h.1 dX12_baits_58 (fun H locs hP hD hS => ?_)
          have h := h.2
          refine lv_iinc (v := (x6_ + 1)) (lv' := [(6, .int (x6_ + 1)), (0, .ref (aM 0)), (3, .int p3), (4, .int x4_), (5, .int x5_)]) hx hb dX12_baits_59 hl (k := 4) rfl rfl (by decide) rfl (fun ls hl => ?_)
          refine lv_goto (tgt := 33) hx hb dX12_baits_62 (by decide) ?_
          have hP : va_P D vwCl (List.flatten (wM aM C ms mw ma (va_up ml 9 (vp_updL (ml 9) x6_.toNatClampNeg 1000000000000)))) H := hP
          have hD : va_D A (List.flatten (wM aM C ms mw ma (va_up ml 9 (vp_updL (ml 9) x6_.toNatClampNeg 1000000000000)))) := hD
          exact ih33 (x6_ + 1) (va_up ml 9 (vp_updL (ml 9) x6_.toNatClampNeg 1000000000000)) _ _ _ h hP hD hS (lv_sub hl [1, 2, 3, 4, 0] rfl)
  refine lv_aload_n hx hb dX12_baits_0 rfl (lv_at hl 0 rfl) ?_
  refine lv_iload_n hx hb dX12_baits_1 rfl (lv_at hl 2 rfl) ?_
  refine cGoAV (cRunAV (As := [.int p2]) (rest := []) ⟨hx, hb, hml, hown, hw⟩ hK hN hP hD (k_X12_lays l D C _ aM  ms mw ma ml p2 h) (cwV 1 hw (goodV mw_7_180 mw_7_182 mw_s138 mw_1_13 mw_7_183) rfl rfl rfl (by decide +kernel) ⟨Nat.le_of_ble_eq_true rfl, Nat.le_of_ble_eq_true rfl⟩) rfl rfl rfl hl.1 rfl (Nat.le_of_ble_eq_true rfl) dX12_baits_2 ⟨Nat.zero_le _, Nat.zero_le _⟩) hP hD hS hA (fun u H locs h hP hD hS => ?_)
  obtain ⟨ms_21, ma_22⟩ := u
  have hP : va_P D vwCl (List.flatten (wM aM C ms_21 mw ma_22 ml)) H := hP
  have hD : va_D A (List.flatten (wM aM C ms_21 mw ma_22 ml)) := hD
  refine lv_iconst (v := 2) hx hb dX12_baits_5 (by decide) ?_
  refine lv_aload_n hx hb dX12_baits_6 rfl (lv_at hl 0 rfl) ?_
  refine va_get (D := D) (ci := 12) (v := .ref (aM 13)) (C := RX12) (T := TX12) (N := 51) hx hb hw inW_X12 hown hK hP 0 rfl rfl 23 (by decide) (hw _ mw_6_66) (fun _ h9 => h9) rfl dX12_baits_7 ?_
  refine lv_iconst (v := 0) hx hb dX12_baits_10 (by decide) ?_
  refine cIald hx hb hK hP 13 0 rfl rfl 0 (by decide +kernel) (cIn (by decide +kernel)) dX12_baits_11 ?_
  refine lv_ishl hx hb dX12_baits_12 ?_
  refine lv_topi (fun x23 ex23 => ?_)
  have h := h x23 ex23
  refine lv_istore (lv' := [(4, .int x23), (0, .ref (aM 0)), (1, .int p1), (2, .int p2), (3, .int p3)]) hx hb dX12_baits_13 hl (by decide) rfl (fun ls hl => ?_)
  refine lv_iconst (v := 1) hx hb dX12_baits_15 (by decide) ?_
  refine lv_aload_n hx hb dX12_baits_16 rfl (lv_at hl 1 rfl) ?_
  refine va_get (D := D) (ci := 12) (v := .ref (aM 15)) (C := RX12) (T := TX12) (N := 51) hx hb hw inW_X12 hown hK hP 0 rfl rfl 25 (by decide) (hw _ mw_6_68) (fun _ h9 => h9) rfl dX12_baits_17 ?_
  refine lv_iconst (v := 0) hx hb dX12_baits_20 (by decide) ?_
  refine cIald hx hb hK hP 15 0 rfl rfl 0 (by decide +kernel) (cIn (by decide +kernel)) dX12_baits_21 ?_
  refine lv_ishl hx hb dX12_baits_22 ?_
  refine lv_topi (fun x24 ex24 => ?_)
  have h := h x24 ex24
  refine lv_istore (lv' := [(5, .int x24), (4, .int x23), (0, .ref (aM 0)), (1, .int p1), (2, .int p2), (3, .int p3)]) hx hb dX12_baits_23 hl (by decide) rfl (fun ls hl => ?_)
  refine lv_aload_n hx hb dX12_baits_25 rfl (lv_at hl 2 rfl) ?_
  refine lv_lconst (v := 0) hx hb dX12_baits_26 (by decide) ?_
  refine va_put (D := D) (ci := 12) (v := .long 0) (ty := .long) (C := RX12) (T := TX12) (N := 51) hx hb hw inW_X12 tyX12 tyX12_ok nmX12 hown hK hP hD hS 0 rfl rfl 47 (by decide) (hw _ mw_6_90) (fun _ h9 => h9) rfl (by decide +kernel) rfl rfl (Nat.le_of_ble_eq_true rfl) dX12_baits_27 (fun H locs hP hD hS => ?_)
  refine lv_iconst (v := 0) hx hb dX12_baits_30 (by decide) ?_
  refine lv_istore (lv' := [(6, .int 0), (5, .int x24), (4, .int x23), (0, .ref (aM 0)), (1, .int p1), (2, .int p2), (3, .int p3)]) hx hb dX12_baits_31 hl (by decide) rfl (fun ls hl => ?_)
  have hP : va_P D vwCl (List.flatten (wM aM C ms_21 (va_up mw 2 0) ma_22 ml)) H := hP
  have hD : va_D A (List.flatten (wM aM C ms_21 (va_up mw 2 0) ma_22 ml)) := hD
  obtain ⟨n, h⟩ := h
  exact N33 x23 x24 ms_21 (va_up mw 2 0) ma_22 n 0 ml _ _ _ h hP hD hS (lv_sub hl [3, 6, 2, 1, 0] rfl)
abbrev vsX12_whyNot : List Cond := Cond.code yX12_whyNot cX12_whyNot 4 (some .int) :: WS
abbrev rmX12_whyNot : Room := { frames := 2, cells := 0, slots := 0, locals := 46 }
set_option maxHeartbeats 4000000 in
set_option maxRecDepth 100000 in
theorem k_X12_whyNot (l : Launch) (D : va_G) (C : Nat → ClassId) (sz : Nat) (aM : Nat → Nat)  (ms : Nat → Int32) (mw : Nat → Int64) (ma : Nat → Nat → Int32) (ml : Nat → Nat → Int64) (p1 : Int32) (p2 : Int32) (p3 : Int32) {post : Int32 → Prop} (h : P_X12_whyNot ma p1 p2 p3 post) : Met l yX12_whyNot vsX12_whyNot rmX12_whyNot (cPre D C [.ref (aM 0), .int p1, .int p2, .int p3] sz (wM aM C ms mw ma ml)) (cQi D (fun (r : Int32) (u : Unit) => post r ) (fun u => wM aM C ms mw ma ml) (va_A (List.flatten (wM aM C ms mw ma ml)) sz)) 0 0 (va_A (List.flatten (wM aM C ms mw ma ml)) sz) := by
  refine cStart (QA := fun A => cQi D (fun (r : Int32) (u : Unit) => post r ) (fun u => wM aM C ms mw ma ml) A) (cc := cX12_whyNot) (maxL := 4) (ret := (some .int)) (by decide) (Nat.le_of_ble_eq_true rfl) ?_
  intro p e s m args below meth c A ls hx hb hr hml hown hw hlocks hname hK hN hA hP hD hS hl
  generalize hQ : MQ below _ args s 0 0 A = Q
  have hl : lv_has ls 4 [(0, .ref (aM 0)), (1, .int p1), (2, .int p2), (3, .int p3)] := hl
  obtain ⟨H, hH⟩ : ∃ H, H = s.heap := ⟨_, rfl⟩
  obtain ⟨locs, hlo⟩ : ∃ z : List Loc, z = [] := ⟨_, rfl⟩
  have hP : va_P D vwCl (List.flatten (wM aM C ms mw ma ml)) H := by rw [hH]; exact hP
  have hS : va_S A s.heap H locs := by rw [hH, hlo]; exact hS
  rw [show W p l e rmX12_whyNot s m args below meth c s.heap [] 0 0 Q (F0 m 0 ls []) = W p l e rmX12_whyNot s m args below meth c H locs 0 0 Q (F0 m 0 ls []) from by rw [hH, hlo]]
  refine lv_aload_n hx hb dX12_whyNot_0 rfl (lv_at hl 0 rfl) ?_
  refine lv_iload_n hx hb dX12_whyNot_1 rfl (lv_at hl 1 rfl) ?_
  refine cGoAI (cRunAV (As := [.int p1]) (rest := []) ⟨hx, hb, hml, hown, hw⟩ hK hN hP hD (k_X12_isPlace l D C _ aM  ms mw ma ml p1 h) (cwV 1 hw (goodV mw_7_125 mw_7_127 mw_s131 mw_1_13 mw_7_128) rfl rfl rfl (by decide +kernel) ⟨Nat.le_of_ble_eq_true rfl, Nat.le_of_ble_eq_true rfl⟩) rfl rfl rfl hl.1 rfl (Nat.le_of_ble_eq_true rfl) dX12_whyNot_2 ⟨Nat.zero_le _, Nat.zero_le _⟩) hP hD hS hA (fun r1 u H locs h hP hD hS => ?_)
  have hP : va_P D vwCl (List.flatten (wM aM C ms mw ma ml)) H := hP
  have hD : va_D A (List.flatten (wM aM C ms mw ma ml)) := hD
  refine lv_if_eq (tgt := 32) hx hb dX12_whyNot_5 (by decide) (fun c2 => ?_) (fun c2 => ?_)
  · have h := h.1 c2
    refine lv_bipush (v := (-2)) hx hb dX12_whyNot_32 (by decide) ?_
    rw [← hQ]
    exact cRetI (v := (-2)) () hx hb hr hlocks hS hP hD h dX12_whyNot_34
  · have h := h.2 c2
    refine lv_iload_n hx hb dX12_whyNot_8 rfl (lv_at hl 2 rfl) ?_
    refine lv_i2l hx hb dX12_whyNot_9 rfl ?_
    refine lv_lconst (v := 0) hx hb dX12_whyNot_10 (by decide) ?_
    refine lv_ldc2 (v := 9999) hx hb hown (hw _ mw_8_223) dX12_whyNot_11 ?_
    refine cGoEI (cRunES (As := [.long p2.toInt64, .long 0, .long 9999]) (rest := []) ⟨hx, hb, hml, hown, hw⟩ hK hN hP hD (k_X12_in l D C _    p2.toInt64 0 9999 h) (va_cwS 3 hw (goodS mw_6_205 mw_6_206 mw_1_13 mw_6_207) rfl rfl rfl (by decide +kernel) ⟨Nat.le_of_ble_eq_true rfl, Nat.le_of_ble_eq_true rfl⟩) rfl hl.1 rfl (Nat.le_of_ble_eq_true rfl) dX12_whyNot_14 ⟨Nat.zero_le _, Nat.zero_le _⟩) hP hD hS hA (fun r3 u H locs h hP hD hS => ?_)
    have hP : va_P D vwCl (List.flatten (wM aM C ms mw ma ml)) H := hP
    have hD : va_D A (List.flatten (wM aM C ms mw ma ml)) := hD
    refine lv_if_eq (tgt := 32) hx hb dX12_whyNot_17 (by decide) (fun c4 => ?_) (fun c4 => ?_)
    · have h := h.1 c4
      refine lv_bipush (v := (-2)) hx hb dX12_whyNot_32 (by decide) ?_
      rw [← hQ]
      exact cRetI (v := (-2)) () hx hb hr hlocks hS hP hD h dX12_whyNot_34
    · have h := h.2 c4
      refine lv_iload_n hx hb dX12_whyNot_20 rfl (lv_at hl 3 rfl) ?_
      refine lv_i2l hx hb dX12_whyNot_21 rfl ?_
      refine lv_lconst (v := 0) hx hb dX12_whyNot_22 (by decide) ?_
      refine lv_ldc2 (v := 100) hx hb hown (hw _ mw_7_163) dX12_whyNot_23 ?_
      refine cGoEI (cRunES (As := [.long p3.toInt64, .long 0, .long 100]) (rest := []) ⟨hx, hb, hml, hown, hw⟩ hK hN hP hD (k_X12_in l D C _    p3.toInt64 0 100 h) (va_cwS 3 hw (goodS mw_6_205 mw_6_206 mw_1_13 mw_6_207) rfl rfl rfl (by decide +kernel) ⟨Nat.le_of_ble_eq_true rfl, Nat.le_of_ble_eq_true rfl⟩) rfl hl.1 rfl (Nat.le_of_ble_eq_true rfl) dX12_whyNot_26 ⟨Nat.zero_le _, Nat.zero_le _⟩) hP hD hS hA (fun r5 u H locs h hP hD hS => ?_)
      have hP : va_P D vwCl (List.flatten (wM aM C ms mw ma ml)) H := hP
      have hD : va_D A (List.flatten (wM aM C ms mw ma ml)) := hD
      refine lv_if_ne (tgt := 35) hx hb dX12_whyNot_29 (by decide) (fun c6 => ?_) (fun c6 => ?_)
      · have h := h.1 c6
        refine lv_aload_n hx hb dX12_whyNot_35 rfl (lv_at hl 0 rfl) ?_
        refine lv_iload_n hx hb dX12_whyNot_36 rfl (lv_at hl 1 rfl) ?_
        refine cGoAI (cRunAV (As := [.int p1]) (rest := []) ⟨hx, hb, hml, hown, hw⟩ hK hN hP hD (k_X12_standsAt l D C _ aM  ms mw ma ml p1 h) (cwV 1 hw (goodV mw_8_155 mw_8_157 mw_s167 mw_1_13 mw_8_158) rfl rfl rfl (by decide +kernel) ⟨Nat.le_of_ble_eq_true rfl, Nat.le_of_ble_eq_true rfl⟩) rfl rfl rfl hl.1 rfl (Nat.le_of_ble_eq_true rfl) dX12_whyNot_37 ⟨Nat.zero_le _, Nat.zero_le _⟩) hP hD hS hA (fun r7 u H locs h hP hD hS => ?_)
        have hP : va_P D vwCl (List.flatten (wM aM C ms mw ma ml)) H := hP
        have hD : va_D A (List.flatten (wM aM C ms mw ma ml)) := hD
        refine lv_iconst (v := (-1)) hx hb dX12_whyNot_40 (by decide) ?_
        refine lv_icmp_eq (tgt := 49) hx hb dX12_whyNot_41 (by decide) (fun c8 => ?_) (fun c8 => ?_)
        · have h := h.1 c8
          refine lv_iconst (v := 0) hx hb dX12_whyNot_49 (by decide) ?_
          rw [← hQ]
          exact cRetI (v := 0) () hx hb hr hlocks hS hP hD h dX12_whyNot_50
        · have h := h.2 c8
          refine lv_bipush (v := (-5)) hx hb dX12_whyNot_44 (by decide) ?_
          refine lv_goto (tgt := 50) hx hb dX12_whyNot_46 (by decide) ?_
          rw [← hQ]
          exact cRetI (v := (-5)) () hx hb hr hlocks hS hP hD h dX12_whyNot_50
      · have h := h.2 c6
        refine lv_bipush (v := (-2)) hx hb dX12_whyNot_32 (by decide) ?_
        rw [← hQ]
        exact cRetI (v := (-2)) () hx hb hr hlocks hS hP hD h dX12_whyNot_34
abbrev vsX12_bait : List Cond := Cond.code yX12_bait cX12_bait 5 (some .long) :: WS
abbrev rmX12_bait : Room := { frames := 5, cells := 0, slots := 0, locals := 124 }
set_option maxHeartbeats 4000000 in
set_option maxRecDepth 100000 in
theorem k_X12_bait (l : Launch) (D : va_G) (C : Nat → ClassId) (sz : Nat) (aM : Nat → Nat)  (ms : Nat → Int32) (mw : Nat → Int64) (ma : Nat → Nat → Int32) (ml : Nat → Nat → Int64) (p1 : Int32) (p2 : Int32) (p3 : Int32) {post : Int64 → (Nat → Int32) → (Nat → Int64) → (Nat → Nat → Int32) → (Nat → Nat → Int64) → Prop} (h : P_X12_bait ms mw ma ml p1 p2 p3 post) : Met l yX12_bait vsX12_bait rmX12_bait (cPre D C [.ref (aM 0), .int p1, .int p2, .int p3] sz (wM aM C ms mw ma ml)) (cQl D (fun (r : Int64) (u : (Nat → Int32) × (Nat → Int64) × (Nat → Nat → Int32) × (Nat → Nat → Int64)) => post r u.1 u.2.1 u.2.2.1 u.2.2.2) (fun u => wM aM C u.1 u.2.1 u.2.2.1 u.2.2.2) (va_A (List.flatten (wM aM C ms mw ma ml)) sz)) 0 0 (va_A (List.flatten (wM aM C ms mw ma ml)) sz) := by
  refine cStart (QA := fun A => cQl D (fun (r : Int64) (u : (Nat → Int32) × (Nat → Int64) × (Nat → Nat → Int32) × (Nat → Nat → Int64)) => post r u.1 u.2.1 u.2.2.1 u.2.2.2) (fun u => wM aM C u.1 u.2.1 u.2.2.1 u.2.2.2) A) (cc := cX12_bait) (maxL := 5) (ret := (some .long)) (by decide) (Nat.le_of_ble_eq_true rfl) ?_
  intro p e s m args below meth c A ls hx hb hr hml hown hw hlocks hname hK hN hA hP hD hS hl
  generalize hQ : MQ below _ args s 0 0 A = Q
  have hl : lv_has ls 5 [(0, .ref (aM 0)), (1, .int p1), (2, .int p2), (3, .int p3)] := hl
  obtain ⟨H, hH⟩ : ∃ H, H = s.heap := ⟨_, rfl⟩
  obtain ⟨locs, hlo⟩ : ∃ z : List Loc, z = [] := ⟨_, rfl⟩
  have hP : va_P D vwCl (List.flatten (wM aM C ms mw ma ml)) H := by rw [hH]; exact hP
  have hS : va_S A s.heap H locs := by rw [hH, hlo]; exact hS
  rw [show W p l e rmX12_bait s m args below meth c s.heap [] 0 0 Q (F0 m 0 ls []) = W p l e rmX12_bait s m args below meth c H locs 0 0 Q (F0 m 0 ls []) from by rw [hH, hlo]]
  refine lv_aload_n hx hb dX12_bait_0 rfl (lv_at hl 0 rfl) ?_
  refine lv_iconst (v := 0) hx hb dX12_bait_1 (by decide) ?_
  refine va_put (D := D) (ci := 12) (v := .int 0) (ty := .int) (C := RX12) (T := TX12) (N := 51) hx hb hw inW_X12 tyX12 tyX12_ok nmX12 hown hK hP hD hS 0 rfl rfl 0 (by decide) (hw _ mw_6_43) (fun _ h9 => h9) rfl (by decide +kernel) rfl rfl (Nat.le_of_ble_eq_true rfl) dX12_bait_2 (fun H locs hP hD hS => ?_)
  refine lv_aload_n hx hb dX12_bait_5 rfl (lv_at hl 0 rfl) ?_
  refine lv_iload_n hx hb dX12_bait_6 rfl (lv_at hl 1 rfl) ?_
  refine lv_iload_n hx hb dX12_bait_7 rfl (lv_at hl 2 rfl) ?_
  refine lv_iload_n hx hb dX12_bait_8 rfl (lv_at hl 3 rfl) ?_
  have hP : va_P D vwCl (List.flatten (wM aM C (va_up ms 0 0) mw ma ml)) H := hP
  have hD : va_D A (List.flatten (wM aM C (va_up ms 0 0) mw ma ml)) := hD
  refine cGoAI (cRunAV (As := [.int p1, .int p2, .int p3]) (rest := []) ⟨hx, hb, hml, hown, hw⟩ hK hN hP hD (k_X12_whyNot l D C _ aM  (va_up ms 0 0) mw ma ml p1 p2 p3 h) (cwV 3 hw (goodV mw_8_219 mw_8_221 mw_s172 mw_1_13 mw_8_222) rfl rfl rfl (by decide +kernel) ⟨Nat.le_of_ble_eq_true rfl, Nat.le_of_ble_eq_true rfl⟩) rfl rfl rfl hl.1 rfl (Nat.le_of_ble_eq_true rfl) dX12_bait_9 ⟨Nat.zero_le _, Nat.zero_le _⟩) hP hD hS hA (fun r1 u H locs h hP hD hS => ?_)
  have hP : va_P D vwCl (List.flatten (wM aM C (va_up ms 0 0) mw ma ml)) H := hP
  have hD : va_D A (List.flatten (wM aM C (va_up ms 0 0) mw ma ml)) := hD
  refine lv_istore (lv' := [(4, .int r1), (0, .ref (aM 0)), (1, .int p1), (2, .int p2), (3, .int p3)]) hx hb dX12_bait_12 hl (by decide) rfl (fun ls hl => ?_)
  refine lv_iload hx hb dX12_bait_14 (lv_at hl 0 rfl) ?_
  refine lv_if_eq (tgt := 23) hx hb dX12_bait_16 (by decide) (fun c2 => ?_) (fun c2 => ?_)
  · have h := h.1 c2
    refine lv_aload_n hx hb dX12_bait_23 rfl (lv_at hl 1 rfl) ?_
    refine lv_iload_n hx hb dX12_bait_24 rfl (lv_at hl 2 rfl) ?_
    refine lv_iload_n hx hb dX12_bait_25 rfl (lv_at hl 3 rfl) ?_
    refine lv_iload_n hx hb dX12_bait_26 rfl (lv_at hl 4 rfl) ?_
    refine cGoAV (cRunAV (As := [.int p1, .int p2, .int p3]) (rest := []) ⟨hx, hb, hml, hown, hw⟩ hK hN hP hD (k_X12_baits l D C _ aM  (va_up ms 0 0) mw ma ml p1 p2 p3 h) (cwV 3 hw (goodV mw_8_224 mw_8_226 mw_s173 mw_1_13 mw_8_227) rfl rfl rfl (by decide +kernel) ⟨Nat.le_of_ble_eq_true rfl, Nat.le_of_ble_eq_true rfl⟩) rfl rfl rfl hl.1 rfl (Nat.le_of_ble_eq_true rfl) dX12_bait_27 ⟨Nat.zero_le _, Nat.zero_le _⟩) hP hD hS hA (fun u H locs h hP hD hS => ?_)
    obtain ⟨ms_3, mw_4, ma_5, ml_6⟩ := u
    have hP : va_P D vwCl (List.flatten (wM aM C ms_3 mw_4 ma_5 ml_6)) H := hP
    have hD : va_D A (List.flatten (wM aM C ms_3 mw_4 ma_5 ml_6)) := hD
    refine lv_aload_n hx hb dX12_bait_30 rfl (lv_at hl 1 rfl) ?_
    refine va_get (D := D) (ci := 12) (v := .long (mw_4 2)) (C := RX12) (T := TX12) (N := 51) hx hb hw inW_X12 hown hK hP 0 rfl rfl 47 (by decide) (hw _ mw_6_90) (fun _ h9 => h9) rfl dX12_bait_31 ?_
    refine lv_ldc2 (v := 1000000000) hx hb hown (hw _ mw_8_15) dX12_bait_34 ?_
    refine lv_ldiv hx hb dX12_bait_37 (by decide) ?_
    rw [← hQ]
    exact cRetL (v := ((mw_4 2) / 1000000000)) (ms_3, mw_4, ma_5, ml_6) hx hb hr hlocks hS hP hD h dX12_bait_38
  · have h := h.2 c2
    refine lv_iload hx hb dX12_bait_19 (lv_at hl 0 rfl) ?_
    refine lv_i2l hx hb dX12_bait_21 rfl ?_
    rw [← hQ]
    exact cRetL (v := r1.toInt64) ((va_up ms 0 0), mw, ma, ml) hx hb hr hlocks hS hP hD h dX12_bait_22
abbrev vsX12_caught : List Cond := Cond.code yX12_caught cX12_caught 9 (some .long) :: WS
abbrev rmX12_caught : Room := { frames := 5, cells := 0, slots := 0, locals := 124 }
set_option maxHeartbeats 4000000 in
set_option maxRecDepth 100000 in
theorem k_X12_caught (l : Launch) (D : va_G) (C : Nat → ClassId) (sz : Nat) (aM : Nat → Nat)  (ms : Nat → Int32) (mw : Nat → Int64) (ma : Nat → Nat → Int32) (ml : Nat → Nat → Int64) (p1 : Int32) (p2 : Int32) (p3 : Int32) (p4 : Int32) {post : Int64 → (Nat → Int32) → (Nat → Int64) → (Nat → Nat → Int32) → (Nat → Nat → Int64) → Prop} (h : P_X12_caught ms mw ma ml p1 p2 p3 p4 post) : Met l yX12_caught vsX12_caught rmX12_caught (cPre D C [.ref (aM 0), .int p1, .int p2, .int p3, .int p4] sz (wM aM C ms mw ma ml)) (cQl D (fun (r : Int64) (u : (Nat → Int32) × (Nat → Int64) × (Nat → Nat → Int32) × (Nat → Nat → Int64)) => post r u.1 u.2.1 u.2.2.1 u.2.2.2) (fun u => wM aM C u.1 u.2.1 u.2.2.1 u.2.2.2) (va_A (List.flatten (wM aM C ms mw ma ml)) sz)) 0 0 (va_A (List.flatten (wM aM C ms mw ma ml)) sz) := by
  refine cStart (QA := fun A => cQl D (fun (r : Int64) (u : (Nat → Int32) × (Nat → Int64) × (Nat → Nat → Int32) × (Nat → Nat → Int64)) => post r u.1 u.2.1 u.2.2.1 u.2.2.2) (fun u => wM aM C u.1 u.2.1 u.2.2.1 u.2.2.2) A) (cc := cX12_caught) (maxL := 9) (ret := (some .long)) (by decide) (Nat.le_of_ble_eq_true rfl) ?_
  intro p e s m args below meth c A ls hx hb hr hml hown hw hlocks hname hK hN hA hP hD hS hl
  generalize hQ : MQ below _ args s 0 0 A = Q
  have hl : lv_has ls 9 [(0, .ref (aM 0)), (1, .int p1), (2, .int p2), (3, .int p3), (4, .int p4)] := hl
  obtain ⟨H, hH⟩ : ∃ H, H = s.heap := ⟨_, rfl⟩
  obtain ⟨locs, hlo⟩ : ∃ z : List Loc, z = [] := ⟨_, rfl⟩
  have hP : va_P D vwCl (List.flatten (wM aM C ms mw ma ml)) H := by rw [hH]; exact hP
  have hS : va_S A s.heap H locs := by rw [hH, hlo]; exact hS
  rw [show W p l e rmX12_caught s m args below meth c s.heap [] 0 0 Q (F0 m 0 ls []) = W p l e rmX12_caught s m args below meth c H locs 0 0 Q (F0 m 0 ls []) from by rw [hH, hlo]]
  have N50 : ∀ (ms : Nat → Int32) (mw : Nat → Int64) (ma : Nat → Nat → Int32) (ml : Nat → Nat → Int64) (n50 : Nat) (x6_ : Int64) (x8_ : Int32) (H : Heap) (locs : List Loc) (ls : Array Slot), P_X12_caught_50 p1 p2 p3 p4 post  ms mw ma ml n50 x6_ x8_ → va_P D vwCl (List.flatten (wM aM C ms mw ma ml)) H → va_D A (List.flatten (wM aM C ms mw ma ml)) → va_S A s.heap H locs → lv_has ls 9 [(0, .ref (aM 0)), (1, .int p1), (6, .long x6_), (8, .int x8_)] → W p l e rmX12_caught s m args below meth c H locs 0 0 Q (F0 m 50 ls []) := by
    intro ms mw ma ml
    intro n50
    induction n50 with
    | zero => intro x6_ x8_ H locs ls h hP hD hS hl; exact False.elim h
    | succ n50 ih50 =>
      intro x6_ x8_ H locs ls h hP hD hS hl
      refine lv_iload hx hb dX12_caught_50 (lv_at hl 3 rfl) ?_
      refine lv_iconst (v := 1) hx hb dX12_caught_52 (by decide) ?_
      refine lv_aload_n hx hb dX12_caught_53 rfl (lv_at hl 0 rfl) ?_
      refine va_get (D := D) (ci := 12) (v := .ref (aM 15)) (C := RX12) (T := TX12) (N := 51) hx hb hw inW_X12 hown hK hP 0 rfl rfl 25 (by decide) (hw _ mw_6_68) (fun _ h9 => h9) rfl dX12_caught_54 ?_
      refine lv_iconst (v := 0) hx hb dX12_caught_57 (by decide) ?_
      refine cIald hx hb hK hP 15 0 rfl rfl 0 (by decide +kernel) (cIn (by decide +kernel)) dX12_caught_58 ?_
      refine lv_ishl hx hb dX12_caught_59 ?_
      refine lv_icmp_ge (tgt := 95) hx hb dX12_caught_60 (by decide) (fun c1 => ?_) (fun c1 => ?_)
      · have h := h.1 c1
        refine lv_lload hx hb dX12_caught_95 (lv_at hl 2 rfl) ?_
        rw [← hQ]
        exact cRetL (v := x6_) (ms, mw, ma, ml) hx hb hr hlocks hS hP hD h dX12_caught_97
      · have h := h.2 c1
        refine lv_lload hx hb dX12_caught_63 (lv_at hl 2 rfl) ?_
        refine lv_iload hx hb dX12_caught_65 (lv_at hl 3 rfl) ?_
        refine lv_iload_n hx hb dX12_caught_67 rfl (lv_at hl 1 rfl) ?_
        refine lv_ishr hx hb dX12_caught_68 ?_
        refine lv_iconst (v := 1) hx hb dX12_caught_69 (by decide) ?_
        refine lv_iand hx hb dX12_caught_70 ?_
        refine lv_iconst (v := 1) hx hb dX12_caught_71 (by decide) ?_
        refine lv_icmp_ne (tgt := 85) hx hb dX12_caught_72 (by decide) (fun c2 => ?_) (fun c2 => ?_)
        · have h := h.1 c2
          refine lv_lconst (v := 0) hx hb dX12_caught_85 (by decide) ?_
          refine lv_ladd hx hb dX12_caught_86 ?_
          refine lv_topl (fun x3 ex3 => ?_)
          have h := h x3 ex3
          refine lv_lstore (lv' := [(6, .long x3), (0, .ref (aM 0)), (1, .int p1), (8, .int x8_)]) hx hb dX12_caught_87 hl (by decide) rfl (fun ls hl => ?_)
          refine lv_iinc (v := (x8_ + 1)) (lv' := [(8, .int (x8_ + 1)), (6, .long x3), (0, .ref (aM 0)), (1, .int p1)]) hx hb dX12_caught_89 hl (k := 3) rfl rfl (by decide) rfl (fun ls hl => ?_)
          refine lv_goto (tgt := 50) hx hb dX12_caught_92 (by decide) ?_
          exact ih50 x3 (x8_ + 1) _ _ _ h hP hD hS (lv_sub hl [2, 3, 1, 0] rfl)
        · have h := h.2 c2
          refine lv_aload_n hx hb dX12_caught_75 rfl (lv_at hl 0 rfl) ?_
          refine va_get (D := D) (ci := 12) (v := .ref (aM 31)) (C := RX12) (T := TX12) (N := 51) hx hb hw inW_X12 hown hK hP 0 rfl rfl 46 (by decide) (hw _ mw_6_89) (fun _ h9 => h9) rfl dX12_caught_76 ?_
          refine lv_iload hx hb dX12_caught_79 (lv_at hl 3 rfl) ?_
          refine cLald hx hb hK hP 31 1 rfl rfl x8_.toNatClampNeg rfl h.1 dX12_caught_81 ?_
          have h := h.2
          refine lv_goto (tgt := 86) hx hb dX12_caught_82 (by decide) ?_
          refine lv_ladd hx hb dX12_caught_86 ?_
          refine lv_topl (fun x4 ex4 => ?_)
          have h := h x4 ex4
          refine lv_lstore (lv' := [(6, .long x4), (0, .ref (aM 0)), (1, .int p1), (8, .int x8_)]) hx hb dX12_caught_87 hl (by decide) rfl (fun ls hl => ?_)
          refine lv_iinc (v := (x8_ + 1)) (lv' := [(8, .int (x8_ + 1)), (6, .long x4), (0, .ref (aM 0)), (1, .int p1)]) hx hb dX12_caught_89 hl (k := 3) rfl rfl (by decide) rfl (fun ls hl => ?_)
          refine lv_goto (tgt := 50) hx hb dX12_caught_92 (by decide) ?_
          exact ih50 x4 (x8_ + 1) _ _ _ h hP hD hS (lv_sub hl [2, 3, 1, 0] rfl)
  refine lv_aload_n hx hb dX12_caught_0 rfl (lv_at hl 0 rfl) ?_
  refine lv_iconst (v := 0) hx hb dX12_caught_1 (by decide) ?_
  refine va_put (D := D) (ci := 12) (v := .int 0) (ty := .int) (C := RX12) (T := TX12) (N := 51) hx hb hw inW_X12 tyX12 tyX12_ok nmX12 hown hK hP hD hS 0 rfl rfl 0 (by decide) (hw _ mw_6_43) (fun _ h9 => h9) rfl (by decide +kernel) rfl rfl (Nat.le_of_ble_eq_true rfl) dX12_caught_2 (fun H locs hP hD hS => ?_)
  refine lv_aload_n hx hb dX12_caught_5 rfl (lv_at hl 0 rfl) ?_
  refine lv_iload_n hx hb dX12_caught_6 rfl (lv_at hl 1 rfl) ?_
  have hP : va_P D vwCl (List.flatten (wM aM C (va_up ms 0 0) mw ma ml)) H := hP
  have hD : va_D A (List.flatten (wM aM C (va_up ms 0 0) mw ma ml)) := hD
  refine cGoAI (cRunAV (As := [.int p1]) (rest := []) ⟨hx, hb, hml, hown, hw⟩ hK hN hP hD (k_X12_isThief l D C _ aM  (va_up ms 0 0) mw ma ml p1 h) (cwV 1 hw (goodV mw_7_155 mw_7_157 mw_s134 mw_1_13 mw_7_158) rfl rfl rfl (by decide +kernel) ⟨Nat.le_of_ble_eq_true rfl, Nat.le_of_ble_eq_true rfl⟩) rfl rfl rfl hl.1 rfl (Nat.le_of_ble_eq_true rfl) dX12_caught_7 ⟨Nat.zero_le _, Nat.zero_le _⟩) hP hD hS hA (fun r5 u H locs h hP hD hS => ?_)
  have hP : va_P D vwCl (List.flatten (wM aM C (va_up ms 0 0) mw ma ml)) H := hP
  have hD : va_D A (List.flatten (wM aM C (va_up ms 0 0) mw ma ml)) := hD
  refine lv_if_ne (tgt := 17) hx hb dX12_caught_10 (by decide) (fun c6 => ?_) (fun c6 => ?_)
  · have h := h.1 c6
    refine lv_aload_n hx hb dX12_caught_17 rfl (lv_at hl 0 rfl) ?_
    refine lv_iload_n hx hb dX12_caught_18 rfl (lv_at hl 2 rfl) ?_
    refine lv_iload_n hx hb dX12_caught_19 rfl (lv_at hl 3 rfl) ?_
    refine lv_iload hx hb dX12_caught_20 (lv_at hl 4 rfl) ?_
    refine cGoAI (cRunAV (As := [.int p2, .int p3, .int p4]) (rest := []) ⟨hx, hb, hml, hown, hw⟩ hK hN hP hD (k_X12_whyNot l D C _ aM  (va_up ms 0 0) mw ma ml p2 p3 p4 h) (cwV 3 hw (goodV mw_8_219 mw_8_221 mw_s172 mw_1_13 mw_8_222) rfl rfl rfl (by decide +kernel) ⟨Nat.le_of_ble_eq_true rfl, Nat.le_of_ble_eq_true rfl⟩) rfl rfl rfl hl.1 rfl (Nat.le_of_ble_eq_true rfl) dX12_caught_22 ⟨Nat.zero_le _, Nat.zero_le _⟩) hP hD hS hA (fun r7 u H locs h hP hD hS => ?_)
    have hP : va_P D vwCl (List.flatten (wM aM C (va_up ms 0 0) mw ma ml)) H := hP
    have hD : va_D A (List.flatten (wM aM C (va_up ms 0 0) mw ma ml)) := hD
    refine lv_istore (lv' := [(5, .int r7), (0, .ref (aM 0)), (1, .int p1), (2, .int p2), (3, .int p3), (4, .int p4)]) hx hb dX12_caught_25 hl (by decide) rfl (fun ls hl => ?_)
    refine lv_iload hx hb dX12_caught_27 (lv_at hl 0 rfl) ?_
    refine lv_if_eq (tgt := 36) hx hb dX12_caught_29 (by decide) (fun c8 => ?_) (fun c8 => ?_)
    · have h := h.1 c8
      refine lv_aload_n hx hb dX12_caught_36 rfl (lv_at hl 1 rfl) ?_
      refine lv_iload_n hx hb dX12_caught_37 rfl (lv_at hl 3 rfl) ?_
      refine lv_iload_n hx hb dX12_caught_38 rfl (lv_at hl 4 rfl) ?_
      refine lv_iload hx hb dX12_caught_39 (lv_at hl 5 rfl) ?_
      refine cGoAV (cRunAV (As := [.int p2, .int p3, .int p4]) (rest := []) ⟨hx, hb, hml, hown, hw⟩ hK hN hP hD (k_X12_baits l D C _ aM  (va_up ms 0 0) mw ma ml p2 p3 p4 h) (cwV 3 hw (goodV mw_8_224 mw_8_226 mw_s173 mw_1_13 mw_8_227) rfl rfl rfl (by decide +kernel) ⟨Nat.le_of_ble_eq_true rfl, Nat.le_of_ble_eq_true rfl⟩) rfl rfl rfl hl.1 rfl (Nat.le_of_ble_eq_true rfl) dX12_caught_41 ⟨Nat.zero_le _, Nat.zero_le _⟩) hP hD hS hA (fun u H locs h hP hD hS => ?_)
      obtain ⟨ms_9, mw_10, ma_11, ml_12⟩ := u
      have hP : va_P D vwCl (List.flatten (wM aM C ms_9 mw_10 ma_11 ml_12)) H := hP
      have hD : va_D A (List.flatten (wM aM C ms_9 mw_10 ma_11 ml_12)) := hD
      refine lv_lconst (v := 0) hx hb dX12_caught_44 (by decide) ?_
      refine lv_lstore (lv' := [(6, .long 0), (5, .int r7), (0, .ref (aM 0)), (1, .int p1), (2, .int p2), (3, .int p3), (4, .int p4)]) hx hb dX12_caught_45 hl (by decide) rfl (fun ls hl => ?_)
      refine lv_iconst (v := 0) hx hb dX12_caught_47 (by decide) ?_
      refine lv_istore (lv' := [(8, .int 0), (6, .long 0), (5, .int r7), (0, .ref (aM 0)), (1, .int p1), (2, .int p2), (3, .int p3), (4, .int p4)]) hx hb dX12_caught_48 hl (by decide) rfl (fun ls hl => ?_)
      obtain ⟨n, h⟩ := h
      exact N50 ms_9 mw_10 ma_11 ml_12 n 0 0 _ _ _ h hP hD hS (lv_sub hl [3, 4, 1, 0] rfl)
    · have h := h.2 c8
      refine lv_iload hx hb dX12_caught_32 (lv_at hl 0 rfl) ?_
      refine lv_i2l hx hb dX12_caught_34 rfl ?_
      rw [← hQ]
      exact cRetL (v := r7.toInt64) ((va_up ms 0 0), mw, ma, ml) hx hb hr hlocks hS hP hD h dX12_caught_35
  · have h := h.2 c6
    refine lv_ldc2 (v := (-2)) hx hb hown (hw _ mw_7_208) dX12_caught_13 ?_
    rw [← hQ]
    exact cRetL (v := (-2)) ((va_up ms 0 0), mw, ma, ml) hx hb hr hlocks hS hP hD h dX12_caught_16
abbrev vsX12_lures : List Cond := Cond.code yX12_lures cX12_lures 5 (some .int) :: WS
abbrev rmX12_lures : Room := { frames := 4, cells := 0, slots := 0, locals := 95 }
set_option maxHeartbeats 4000000 in
set_option maxRecDepth 100000 in
theorem k_X12_lures (l : Launch) (D : va_G) (C : Nat → ClassId) (sz : Nat) (aM : Nat → Nat)  (ms : Nat → Int32) (mw : Nat → Int64) (ma : Nat → Nat → Int32) (ml : Nat → Nat → Int64) (p1 : Int32) {post : Int32 → (Nat → Int32) → (Nat → Nat → Int32) → Prop} (h : P_X12_lures ms ma p1 post) : Met l yX12_lures vsX12_lures rmX12_lures (cPre D C [.ref (aM 0), .int p1] sz (wM aM C ms mw ma ml)) (cQi D (fun (r : Int32) (u : (Nat → Int32) × (Nat → Nat → Int32)) => post r u.1 u.2) (fun u => wM aM C u.1 mw u.2 ml) (va_A (List.flatten (wM aM C ms mw ma ml)) sz)) 0 0 (va_A (List.flatten (wM aM C ms mw ma ml)) sz) := by
  refine cStart (QA := fun A => cQi D (fun (r : Int32) (u : (Nat → Int32) × (Nat → Nat → Int32)) => post r u.1 u.2) (fun u => wM aM C u.1 mw u.2 ml) A) (cc := cX12_lures) (maxL := 5) (ret := (some .int)) (by decide) (Nat.le_of_ble_eq_true rfl) ?_
  intro p e s m args below meth c A ls hx hb hr hml hown hw hlocks hname hK hN hA hP hD hS hl
  generalize hQ : MQ below _ args s 0 0 A = Q
  have hl : lv_has ls 5 [(0, .ref (aM 0)), (1, .int p1)] := hl
  obtain ⟨H, hH⟩ : ∃ H, H = s.heap := ⟨_, rfl⟩
  obtain ⟨locs, hlo⟩ : ∃ z : List Loc, z = [] := ⟨_, rfl⟩
  have hP : va_P D vwCl (List.flatten (wM aM C ms mw ma ml)) H := by rw [hH]; exact hP
  have hS : va_S A s.heap H locs := by rw [hH, hlo]; exact hS
  rw [show W p l e rmX12_lures s m args below meth c s.heap [] 0 0 Q (F0 m 0 ls []) = W p l e rmX12_lures s m args below meth c H locs 0 0 Q (F0 m 0 ls []) from by rw [hH, hlo]]
  have N26 : ∀ (ms : Nat → Int32) (n26 : Nat) (x3_ : Int32) (ma : Nat → Nat → Int32) (H : Heap) (locs : List Loc) (ls : Array Slot), P_X12_lures_26 p1 post  ms n26 x3_ ma → va_P D vwCl (List.flatten (wM aM C ms mw ma ml)) H → va_D A (List.flatten (wM aM C ms mw ma ml)) → va_S A s.heap H locs → lv_has ls 5 [(0, .ref (aM 0)), (3, .int x3_)] → W p l e rmX12_lures s m args below meth c H locs 0 0 Q (F0 m 26 ls []) := by
    intro ms
    intro n26
    induction n26 with
    | zero => intro x3_ ma H locs ls h hP hD hS hl; exact False.elim h
    | succ n26 ih26 =>
      have N36 : ∀ (x3_ : Int32) (n36 : Nat) (x4_ : Int32) (ma : Nat → Nat → Int32) (H : Heap) (locs : List Loc) (ls : Array Slot), P_X12_lures_36 p1 ms post (P_X12_lures_26 p1 post  ms n26) x3_ n36 x4_ ma → va_P D vwCl (List.flatten (wM aM C ms mw ma ml)) H → va_D A (List.flatten (wM aM C ms mw ma ml)) → va_S A s.heap H locs → lv_has ls 5 [(0, .ref (aM 0)), (3, .int x3_), (4, .int x4_)] → W p l e rmX12_lures s m args below meth c H locs 0 0 Q (F0 m 36 ls []) := by
        intro x3_
        intro n36
        induction n36 with
        | zero => intro x4_ ma H locs ls h hP hD hS hl; exact False.elim h
        | succ n36 ih36 =>
          intro x4_ ma H locs ls h hP hD hS hl
          refine lv_iload hx hb dX12_lures_36 (lv_at hl 2 rfl) ?_
          refine lv_aload_n hx hb dX12_lures_38 rfl (lv_at hl 0 rfl) ?_
          refine va_get (D := D) (ci := 12) (v := .ref (aM 15)) (C := RX12) (T := TX12) (N := 51) hx hb hw inW_X12 hown hK hP 0 rfl rfl 25 (by decide) (hw _ mw_6_68) (fun _ h9 => h9) rfl dX12_lures_39 ?_
          refine lv_iconst (v := 0) hx hb dX12_lures_42 (by decide) ?_
          refine cIald hx hb hK hP 15 0 rfl rfl 0 (by decide +kernel) (cIn (by decide +kernel)) dX12_lures_43 ?_
          refine lv_icmp_ge (tgt := 89) hx hb dX12_lures_44 (by decide) (fun c1 => ?_) (fun c1 => ?_)
          · have h := h.1 c1
            refine lv_iinc (v := (x3_ + 1)) (lv' := [(3, .int (x3_ + 1)), (0, .ref (aM 0)), (4, .int x4_)]) hx hb dX12_lures_89 hl (k := 1) rfl rfl (by decide) rfl (fun ls hl => ?_)
            refine lv_goto (tgt := 26) hx hb dX12_lures_92 (by decide) ?_
            exact ih26 (x3_ + 1) ma _ _ _ h hP hD hS (lv_sub hl [1, 0] rfl)
          · have h := h.2 c1
            refine lv_aload_n hx hb dX12_lures_47 rfl (lv_at hl 0 rfl) ?_
            refine va_get (D := D) (ci := 12) (v := .ref (aM 22)) (C := RX12) (T := TX12) (N := 51) hx hb hw inW_X12 hown hK hP 0 rfl rfl 34 (by decide) (hw _ mw_6_77) (fun _ h9 => h9) rfl dX12_lures_48 ?_
            refine lv_bipush (v := 11) hx hb dX12_lures_51 (by decide) ?_
            refine lv_iload hx hb dX12_lures_53 (lv_at hl 2 rfl) ?_
            refine lv_imul hx hb dX12_lures_55 ?_
            refine lv_aload_n hx hb dX12_lures_56 rfl (lv_at hl 0 rfl) ?_
            refine va_get (D := D) (ci := 12) (v := .ref (aM 13)) (C := RX12) (T := TX12) (N := 51) hx hb hw inW_X12 hown hK hP 0 rfl rfl 23 (by decide) (hw _ mw_6_66) (fun _ h9 => h9) rfl dX12_lures_57 ?_
            refine lv_iconst (v := 0) hx hb dX12_lures_60 (by decide) ?_
            refine cIald hx hb hK hP 13 0 rfl rfl 0 (by decide +kernel) (cIn (by decide +kernel)) dX12_lures_61 ?_
            refine lv_iadd hx hb dX12_lures_62 ?_
            refine lv_iload_n hx hb dX12_lures_63 rfl (lv_at hl 1 rfl) ?_
            refine cIast hx hb hK hP hD hS 22 0 rfl rfl (((11 * x4_) + (ma 10 0)).toNatClampNeg) rfl h.1 dX12_lures_64 (fun H locs hP hD hS => ?_)
            have h := h.2
            refine lv_aload_n hx hb dX12_lures_65 rfl (lv_at hl 0 rfl) ?_
            refine lv_iload hx hb dX12_lures_66 (lv_at hl 2 rfl) ?_
            refine lv_iconst (v := 0) hx hb dX12_lures_68 (by decide) ?_
            have hP : va_P D vwCl (List.flatten (wM aM C ms mw (va_up ma 19 (upd (ma 19) (((11 * x4_) + (ma 10 0)).toNatClampNeg) x3_)) ml)) H := hP
            have hD : va_D A (List.flatten (wM aM C ms mw (va_up ma 19 (upd (ma 19) (((11 * x4_) + (ma 10 0)).toNatClampNeg) x3_)) ml)) := hD
            refine cGoAI (cRunAV (As := [.int x4_, .int 0]) (rest := []) ⟨hx, hb, hml, hown, hw⟩ hK hN hP hD (k_X12_takesOf l D C _ aM  ms mw (va_up ma 19 (upd (ma 19) (((11 * x4_) + (ma 10 0)).toNatClampNeg) x3_)) ml x4_ 0 h) (cwV 2 hw (goodV mw_7_184 mw_7_186 mw_s139 mw_1_13 mw_7_187) rfl rfl rfl (by decide +kernel) ⟨Nat.le_of_ble_eq_true rfl, Nat.le_of_ble_eq_true rfl⟩) rfl rfl rfl hl.1 rfl (Nat.le_of_ble_eq_true rfl) dX12_lures_69 ⟨Nat.zero_le _, Nat.zero_le _⟩) hP hD hS hA (fun r2 u H locs h hP hD hS => ?_)
            have hP : va_P D vwCl (List.flatten (wM aM C ms mw (va_up ma 19 (upd (ma 19) (((11 * x4_) + (ma 10 0)).toNatClampNeg) x3_)) ml)) H := hP
            have hD : va_D A (List.flatten (wM aM C ms mw (va_up ma 19 (upd (ma 19) (((11 * x4_) + (ma 10 0)).toNatClampNeg) x3_)) ml)) := hD
            refine lv_aload_n hx hb dX12_lures_72 rfl (lv_at hl 0 rfl) ?_
            refine va_get (D := D) (ci := 12) (v := .ref (aM 13)) (C := RX12) (T := TX12) (N := 51) hx hb hw inW_X12 hown hK hP 0 rfl rfl 23 (by decide) (hw _ mw_6_66) (fun _ h9 => h9) rfl dX12_lures_73 ?_
            refine lv_iconst (v := 0) hx hb dX12_lures_76 (by decide) ?_
            refine cIald hx hb hK hP 13 0 rfl rfl 0 (by decide +kernel) (cIn (by decide +kernel)) dX12_lures_77 ?_
            refine lv_icmp_ne (tgt := 83) hx hb dX12_lures_78 (by decide) (fun c3 => ?_) (fun c3 => ?_)
            · have h := h.1 c3
              refine lv_iinc (v := (x4_ + 1)) (lv' := [(4, .int (x4_ + 1)), (0, .ref (aM 0)), (3, .int x3_)]) hx hb dX12_lures_83 hl (k := 2) rfl rfl (by decide) rfl (fun ls hl => ?_)
              refine lv_goto (tgt := 36) hx hb dX12_lures_86 (by decide) ?_
              exact ih36 (x4_ + 1) (va_up ma 19 (upd (ma 19) (((11 * x4_) + (ma 10 0)).toNatClampNeg) x3_)) _ _ _ h hP hD hS (lv_sub hl [1, 2, 0] rfl)
            · have h := h.2 c3
              refine lv_iload_n hx hb dX12_lures_81 rfl (lv_at hl 1 rfl) ?_
              rw [← hQ]
              exact cRetI (v := x3_) (ms, (va_up ma 19 (upd (ma 19) (((11 * x4_) + (ma 10 0)).toNatClampNeg) x3_))) hx hb hr hlocks hS hP hD h dX12_lures_82
      intro x3_ ma H locs ls h hP hD hS hl
      refine lv_iload_n hx hb dX12_lures_26 rfl (lv_at hl 1 rfl) ?_
      refine lv_sipush (v := 9999) hx hb dX12_lures_27 (by decide) ?_
      refine lv_icmp_gt (tgt := 95) hx hb dX12_lures_30 (by decide) (fun c4 => ?_) (fun c4 => ?_)
      · have h := h.1 c4
        refine lv_iconst (v := (-1)) hx hb dX12_lures_95 (by decide) ?_
        rw [← hQ]
        exact cRetI (v := (-1)) (ms, ma) hx hb hr hlocks hS hP hD h dX12_lures_96
      · have h := h.2 c4
        refine lv_iconst (v := 0) hx hb dX12_lures_33 (by decide) ?_
        refine lv_istore (lv' := [(4, .int 0), (0, .ref (aM 0)), (3, .int x3_)]) hx hb dX12_lures_34 hl (by decide) rfl (fun ls hl => ?_)
        obtain ⟨n, h⟩ := h
        exact N36 x3_ n 0 ma _ _ _ h hP hD hS (lv_sub hl [1, 2, 0] rfl)
  refine lv_aload_n hx hb dX12_lures_0 rfl (lv_at hl 0 rfl) ?_
  refine lv_iconst (v := 0) hx hb dX12_lures_1 (by decide) ?_
  refine va_put (D := D) (ci := 12) (v := .int 0) (ty := .int) (C := RX12) (T := TX12) (N := 51) hx hb hw inW_X12 tyX12 tyX12_ok nmX12 hown hK hP hD hS 0 rfl rfl 0 (by decide) (hw _ mw_6_43) (fun _ h9 => h9) rfl (by decide +kernel) rfl rfl (Nat.le_of_ble_eq_true rfl) dX12_lures_2 (fun H locs hP hD hS => ?_)
  refine lv_aload_n hx hb dX12_lures_5 rfl (lv_at hl 0 rfl) ?_
  refine lv_iload_n hx hb dX12_lures_6 rfl (lv_at hl 1 rfl) ?_
  refine lv_iconst (v := 0) hx hb dX12_lures_7 (by decide) ?_
  refine lv_iconst (v := 0) hx hb dX12_lures_8 (by decide) ?_
  have hP : va_P D vwCl (List.flatten (wM aM C (va_up ms 0 0) mw ma ml)) H := hP
  have hD : va_D A (List.flatten (wM aM C (va_up ms 0 0) mw ma ml)) := hD
  refine cGoAI (cRunAV (As := [.int p1, .int 0, .int 0]) (rest := []) ⟨hx, hb, hml, hown, hw⟩ hK hN hP hD (k_X12_whyNot l D C _ aM  (va_up ms 0 0) mw ma ml p1 0 0 h) (cwV 3 hw (goodV mw_8_219 mw_8_221 mw_s172 mw_1_13 mw_8_222) rfl rfl rfl (by decide +kernel) ⟨Nat.le_of_ble_eq_true rfl, Nat.le_of_ble_eq_true rfl⟩) rfl rfl rfl hl.1 rfl (Nat.le_of_ble_eq_true rfl) dX12_lures_9 ⟨Nat.zero_le _, Nat.zero_le _⟩) hP hD hS hA (fun r5 u H locs h hP hD hS => ?_)
  have hP : va_P D vwCl (List.flatten (wM aM C (va_up ms 0 0) mw ma ml)) H := hP
  have hD : va_D A (List.flatten (wM aM C (va_up ms 0 0) mw ma ml)) := hD
  refine lv_istore_n (lv' := [(2, .int r5), (0, .ref (aM 0)), (1, .int p1)]) hx hb dX12_lures_12 rfl hl (by decide) rfl (fun ls hl => ?_)
  refine lv_iload_n hx hb dX12_lures_13 rfl (lv_at hl 0 rfl) ?_
  refine lv_if_eq (tgt := 19) hx hb dX12_lures_14 (by decide) (fun c6 => ?_) (fun c6 => ?_)
  · have h := h.1 c6
    refine lv_aload_n hx hb dX12_lures_19 rfl (lv_at hl 1 rfl) ?_
    refine lv_iconst (v := 0) hx hb dX12_lures_20 (by decide) ?_
    refine cGoAV (cRunAV (As := [.int 0]) (rest := []) ⟨hx, hb, hml, hown, hw⟩ hK hN hP hD (k_X12_lays l D C _ aM  (va_up ms 0 0) mw ma ml 0 h) (cwV 1 hw (goodV mw_7_180 mw_7_182 mw_s138 mw_1_13 mw_7_183) rfl rfl rfl (by decide +kernel) ⟨Nat.le_of_ble_eq_true rfl, Nat.le_of_ble_eq_true rfl⟩) rfl rfl rfl hl.1 rfl (Nat.le_of_ble_eq_true rfl) dX12_lures_21 ⟨Nat.zero_le _, Nat.zero_le _⟩) hP hD hS hA (fun u H locs h hP hD hS => ?_)
    obtain ⟨ms_7, ma_8⟩ := u
    have hP : va_P D vwCl (List.flatten (wM aM C ms_7 mw ma_8 ml)) H := hP
    have hD : va_D A (List.flatten (wM aM C ms_7 mw ma_8 ml)) := hD
    refine lv_iconst (v := 0) hx hb dX12_lures_24 (by decide) ?_
    refine lv_istore_n (lv' := [(3, .int 0), (2, .int r5), (0, .ref (aM 0)), (1, .int p1)]) hx hb dX12_lures_25 rfl hl (by decide) rfl (fun ls hl => ?_)
    obtain ⟨n, h⟩ := h
    exact N26 ms_7 n 0 ma_8 _ _ _ h hP hD hS (lv_sub hl [2, 0] rfl)
  · have h := h.2 c6
    refine lv_iload_n hx hb dX12_lures_17 rfl (lv_at hl 0 rfl) ?_
    rw [← hQ]
    exact cRetI (v := r5) ((va_up ms 0 0), ma) hx hb hr hlocks hS hP hD h dX12_lures_18
abbrev vsX12_covers : List Cond := Cond.code yX12_covers cX12_covers 9 (some .int) :: WS
abbrev rmX12_covers : Room := { frames := 5, cells := 0, slots := 0, locals := 119 }
set_option maxHeartbeats 4000000 in
set_option maxRecDepth 100000 in
theorem k_X12_covers (l : Launch) (D : va_G) (C : Nat → ClassId) (sz : Nat) (aM : Nat → Nat)  (ms : Nat → Int32) (mw : Nat → Int64) (ma : Nat → Nat → Int32) (ml : Nat → Nat → Int64) (p1 : Int32) (p2 : Int32) (p3 : Int32) {post : Int32 → (Nat → Int32) → (Nat → Int64) → (Nat → Nat → Int32) → (Nat → Nat → Int64) → Prop} (h : P_X12_covers ms mw ma ml p1 p2 p3 post) : Met l yX12_covers vsX12_covers rmX12_covers (cPre D C [.ref (aM 0), .int p1, .int p2, .int p3] sz (wM aM C ms mw ma ml)) (cQi D (fun (r : Int32) (u : (Nat → Int32) × (Nat → Int64) × (Nat → Nat → Int32) × (Nat → Nat → Int64)) => post r u.1 u.2.1 u.2.2.1 u.2.2.2) (fun u => wM aM C u.1 u.2.1 u.2.2.1 u.2.2.2) (va_A (List.flatten (wM aM C ms mw ma ml)) sz)) 0 0 (va_A (List.flatten (wM aM C ms mw ma ml)) sz) := by
  refine cStart (QA := fun A => cQi D (fun (r : Int32) (u : (Nat → Int32) × (Nat → Int64) × (Nat → Nat → Int32) × (Nat → Nat → Int64)) => post r u.1 u.2.1 u.2.2.1 u.2.2.2) (fun u => wM aM C u.1 u.2.1 u.2.2.1 u.2.2.2) A) (cc := cX12_covers) (maxL := 9) (ret := (some .int)) (by decide) (Nat.le_of_ble_eq_true rfl) ?_
  intro p e s m args below meth c A ls hx hb hr hml hown hw hlocks hname hK hN hA hP hD hS hl
  generalize hQ : MQ below _ args s 0 0 A = Q
  have hl : lv_has ls 9 [(0, .ref (aM 0)), (1, .int p1), (2, .int p2), (3, .int p3)] := hl
  obtain ⟨H, hH⟩ : ∃ H, H = s.heap := ⟨_, rfl⟩
  obtain ⟨locs, hlo⟩ : ∃ z : List Loc, z = [] := ⟨_, rfl⟩
  have hP : va_P D vwCl (List.flatten (wM aM C ms mw ma ml)) H := by rw [hH]; exact hP
  have hS : va_S A s.heap H locs := by rw [hH, hlo]; exact hS
  rw [show W p l e rmX12_covers s m args below meth c s.heap [] 0 0 Q (F0 m 0 ls []) = W p l e rmX12_covers s m args below meth c H locs 0 0 Q (F0 m 0 ls []) from by rw [hH, hlo]]
  have N98 : ∀ (x4_ : Int32) (x5_ : Int32) (ms : Nat → Int32) (mw : Nat → Int64) (ma : Nat → Nat → Int32) (ml : Nat → Nat → Int64) (H : Heap) (locs : List Loc) (ls : Array Slot), P_X12_covers_98 p1 p2 p3 post  x4_ x5_ ms mw ma ml → va_P D vwCl (List.flatten (wM aM C ms mw ma ml)) H → va_D A (List.flatten (wM aM C ms mw ma ml)) → va_S A s.heap H locs → lv_has ls 9 [(0, .ref (aM 0)), (1, .int p1), (4, .int x4_), (5, .int x5_)] → W p l e rmX12_covers s m args below meth c H locs 0 0 Q (F0 m 98 ls []) := by
    intro x4_ x5_ ms mw ma ml H locs ls h hP hD hS hl
    refine lv_aload_n hx hb dX12_covers_98 rfl (lv_at hl 0 rfl) ?_
    refine lv_iload_n hx hb dX12_covers_99 rfl (lv_at hl 1 rfl) ?_
    refine lv_iload hx hb dX12_covers_100 (lv_at hl 2 rfl) ?_
    refine cGoAV (cRunAV (As := [.int p1, .int x4_]) (rest := []) ⟨hx, hb, hml, hown, hw⟩ hK hN hP hD (k_X12_hasOption l D C _ aM  ms mw ma ml p1 x4_ h) (cwV 2 hw (goodV mw_8_48 mw_8_50 mw_s155 mw_1_13 mw_8_51) rfl rfl rfl (by decide +kernel) ⟨Nat.le_of_ble_eq_true rfl, Nat.le_of_ble_eq_true rfl⟩) rfl rfl rfl hl.1 rfl (Nat.le_of_ble_eq_true rfl) dX12_covers_102 ⟨Nat.zero_le _, Nat.zero_le _⟩) hP hD hS hA (fun ma_1 H locs h hP hD hS => ?_)
    have hP : va_P D vwCl (List.flatten (wM aM C ms mw ma_1 ml)) H := hP
    have hD : va_D A (List.flatten (wM aM C ms mw ma_1 ml)) := hD
    refine lv_iload hx hb dX12_covers_105 (lv_at hl 3 rfl) ?_
    rw [← hQ]
    exact cRetI (v := x5_) (ms, mw, ma_1, ml) hx hb hr hlocks hS hP hD h dX12_covers_107
  have N13 : ∀ (x4_ : Int32) (n13 : Nat) (x5_ : Int32) (x6_ : Int32) (ms : Nat → Int32) (mw : Nat → Int64) (ma : Nat → Nat → Int32) (ml : Nat → Nat → Int64) (H : Heap) (locs : List Loc) (ls : Array Slot), P_X12_covers_13 p1 p2 p3 post (fun (x4_ : Int32) (x5_ : Int32) (ms : Nat → Int32) (mw : Nat → Int64) (ma : Nat → Nat → Int32) (ml : Nat → Nat → Int64) => P_X12_covers_98 p1 p2 p3 post  x4_ x5_ ms mw ma ml) x4_ n13 x5_ x6_ ms mw ma ml → va_P D vwCl (List.flatten (wM aM C ms mw ma ml)) H → va_D A (List.flatten (wM aM C ms mw ma ml)) → va_S A s.heap H locs → lv_has ls 9 [(0, .ref (aM 0)), (1, .int p1), (2, .int p2), (3, .int p3), (4, .int x4_), (5, .int x5_), (6, .int x6_)] → W p l e rmX12_covers s m args below meth c H locs 0 0 Q (F0 m 13 ls []) := by
    intro x4_
    intro n13
    induction n13 with
    | zero => intro x5_ x6_ ms mw ma ml H locs ls h hP hD hS hl; exact False.elim h
    | succ n13 ih13 =>
      intro x5_ x6_ ms mw ma ml H locs ls h hP hD hS hl
      have h : P_X12_covers_13_b p1 p2 p3 post (fun (x4_ : Int32) (x5_ : Int32) (ms : Nat → Int32) (mw : Nat → Int64) (ma : Nat → Nat → Int32) (ml : Nat → Nat → Int64) => P_X12_covers_98 p1 p2 p3 post  x4_ x5_ ms mw ma ml) x4_ (P_X12_covers_13 p1 p2 p3 post (fun (x4_ : Int32) (x5_ : Int32) (ms : Nat → Int32) (mw : Nat → Int64) (ma : Nat → Nat → Int32) (ml : Nat → Nat → Int64) => P_X12_covers_98 p1 p2 p3 post  x4_ x5_ ms mw ma ml) x4_ n13) x5_ x6_ ms mw ma ml := h
      unfold P_X12_covers_13_b at h
      refine lv_iload hx hb dX12_covers_13 (lv_at hl 6 rfl) ?_
      refine lv_aload_n hx hb dX12_covers_15 rfl (lv_at hl 0 rfl) ?_
      refine cGoAI (cRunAV (As := []) (rest := [.int x6_]) ⟨hx, hb, hml, hown, hw⟩ hK hN hP hD (k_X12_optionMany l D C _ aM  ms mw ma ml  h) (cwV 0 hw (goodV mw_8_40 mw_8_42 mw_s153 mw_1_13 mw_8_43) rfl rfl rfl (by decide +kernel) ⟨Nat.le_of_ble_eq_true rfl, Nat.le_of_ble_eq_true rfl⟩) rfl rfl rfl hl.1 rfl (Nat.le_of_ble_eq_true rfl) dX12_covers_16 ⟨Nat.zero_le _, Nat.zero_le _⟩) hP hD hS hA (fun r2 u H locs h hP hD hS => ?_)
      have hP : va_P D vwCl (List.flatten (wM aM C ms mw ma ml)) H := hP
      have hD : va_D A (List.flatten (wM aM C ms mw ma ml)) := hD
      refine lv_icmp_ge (tgt := 98) hx hb dX12_covers_19 (by decide) (fun c3 => ?_) (fun c3 => ?_)
      · have h := h.1 c3
        exact N98 x4_ x5_ ms mw ma ml _ _ _ h hP hD hS (lv_sub hl [0, 1, 4, 5] rfl)
      · have h := h.2 c3
        refine lv_aload_n hx hb dX12_covers_22 rfl (lv_at hl 0 rfl) ?_
        refine lv_iload_n hx hb dX12_covers_23 rfl (lv_at hl 1 rfl) ?_
        refine lv_iload hx hb dX12_covers_24 (lv_at hl 6 rfl) ?_
        refine cGoAV (cRunAV (As := [.int p1, .int x6_]) (rest := []) ⟨hx, hb, hml, hown, hw⟩ hK hN hP hD (k_X12_hasOption l D C _ aM  ms mw ma ml p1 x6_ h) (cwV 2 hw (goodV mw_8_48 mw_8_50 mw_s155 mw_1_13 mw_8_51) rfl rfl rfl (by decide +kernel) ⟨Nat.le_of_ble_eq_true rfl, Nat.le_of_ble_eq_true rfl⟩) rfl rfl rfl hl.1 rfl (Nat.le_of_ble_eq_true rfl) dX12_covers_26 ⟨Nat.zero_le _, Nat.zero_le _⟩) hP hD hS hA (fun ma_4 H locs h hP hD hS => ?_)
        have hP : va_P D vwCl (List.flatten (wM aM C ms mw ma_4 ml)) H := hP
        have hD : va_D A (List.flatten (wM aM C ms mw ma_4 ml)) := hD
        refine lv_aload_n hx hb dX12_covers_29 rfl (lv_at hl 0 rfl) ?_
        refine cGoAV (cRunAV (As := []) (rest := []) ⟨hx, hb, hml, hown, hw⟩ hK hN hP hD (k_X12_night l D C _ aM  ms mw ma_4 ml  h) (cwV 0 hw (goodV mw_7_209 mw_7_211 mw_s143 mw_1_13 mw_7_212) rfl rfl rfl (by decide +kernel) ⟨Nat.le_of_ble_eq_true rfl, Nat.le_of_ble_eq_true rfl⟩) rfl rfl rfl hl.1 rfl (Nat.le_of_ble_eq_true rfl) dX12_covers_30 ⟨Nat.zero_le _, Nat.zero_le _⟩) hP hD hS hA (fun u H locs h hP hD hS => ?_)
        obtain ⟨ms_5, ma_6, ml_7⟩ := u
        have hP : va_P D vwCl (List.flatten (wM aM C ms_5 mw ma_6 ml_7)) H := hP
        have hD : va_D A (List.flatten (wM aM C ms_5 mw ma_6 ml_7)) := hD
        refine lv_ldc2 (v := 1000) hx hb hown (hw _ mw_8_10) dX12_covers_33 ?_
        refine lv_iload_n hx hb dX12_covers_36 rfl (lv_at hl 2 rfl) ?_
        refine lv_i2l hx hb dX12_covers_37 rfl ?_
        refine lv_lmul hx hb dX12_covers_38 ?_
        refine lv_aload_n hx hb dX12_covers_39 rfl (lv_at hl 0 rfl) ?_
        refine lv_iload_n hx hb dX12_covers_40 rfl (lv_at hl 1 rfl) ?_
        refine cGoAL (cRunAV (As := [.int p1]) (rest := [.long (1000 * p2.toInt64)]) ⟨hx, hb, hml, hown, hw⟩ hK hN hP hD (k_X12_paidOf l D C _ aM  ms_5 mw ma_6 ml_7 p1 h) (cwV 1 hw (goodV mw_8_6 mw_8_8 mw_s147 mw_1_13 mw_8_9) rfl rfl rfl (by decide +kernel) ⟨Nat.le_of_ble_eq_true rfl, Nat.le_of_ble_eq_true rfl⟩) rfl rfl rfl hl.1 rfl (Nat.le_of_ble_eq_true rfl) dX12_covers_41 ⟨Nat.zero_le _, Nat.zero_le _⟩) hP hD hS hA (fun r8 u H locs h hP hD hS => ?_)
        have hP : va_P D vwCl (List.flatten (wM aM C ms_5 mw ma_6 ml_7)) H := hP
        have hD : va_D A (List.flatten (wM aM C ms_5 mw ma_6 ml_7)) := hD
        refine lv_ladd hx hb dX12_covers_44 ?_
        refine lv_bipush (v := 100) hx hb dX12_covers_45 (by decide) ?_
        refine lv_iload_n hx hb dX12_covers_47 rfl (lv_at hl 3 rfl) ?_
        refine lv_isub hx hb dX12_covers_48 ?_
        refine lv_i2l hx hb dX12_covers_49 rfl ?_
        refine lv_aload_n hx hb dX12_covers_50 rfl (lv_at hl 0 rfl) ?_
        refine lv_iload_n hx hb dX12_covers_51 rfl (lv_at hl 1 rfl) ?_
        refine cGoAL (cRunAV (As := [.int p1]) (rest := [.long ((100 - p3).toInt64), .long ((1000 * p2.toInt64) + r8)]) ⟨hx, hb, hml, hown, hw⟩ hK hN hP hD (k_X12_lossOf l D C _ aM  ms_5 mw ma_6 ml_7 p1 h) (cwV 1 hw (goodV mw_8_11 mw_8_13 mw_s148 mw_1_13 mw_8_14) rfl rfl rfl (by decide +kernel) ⟨Nat.le_of_ble_eq_true rfl, Nat.le_of_ble_eq_true rfl⟩) rfl rfl rfl hl.1 rfl (Nat.le_of_ble_eq_true rfl) dX12_covers_52 ⟨Nat.zero_le _, Nat.zero_le _⟩) hP hD hS hA (fun r9 u H locs h hP hD hS => ?_)
        have hP : va_P D vwCl (List.flatten (wM aM C ms_5 mw ma_6 ml_7)) H := hP
        have hD : va_D A (List.flatten (wM aM C ms_5 mw ma_6 ml_7)) := hD
        refine lv_lmul hx hb dX12_covers_55 ?_
        refine lv_ldc2 (v := 100) hx hb hown (hw _ mw_7_163) dX12_covers_56 ?_
        refine lv_ldiv hx hb dX12_covers_59 (by decide) ?_
        refine lv_ladd hx hb dX12_covers_60 ?_
        refine lv_topl (fun x10 ex10 => ?_)
        have h := h x10 ex10
        refine lv_lstore (lv' := [(7, .long x10), (0, .ref (aM 0)), (1, .int p1), (2, .int p2), (3, .int p3), (4, .int x4_), (5, .int x5_), (6, .int x6_)]) hx hb dX12_covers_61 hl (by decide) rfl (fun ls hl => ?_)
        refine lv_iload hx hb dX12_covers_63 (lv_at hl 6 rfl) ?_
        refine lv_iconst (v := (-1)) hx hb dX12_covers_65 (by decide) ?_
        refine lv_icmp_eq (tgt := 82) hx hb dX12_covers_66 (by decide) (fun c11 => ?_) (fun c11 => ?_)
        · have h := h.1 c11
          refine lv_iload hx hb dX12_covers_82 (lv_at hl 7 rfl) ?_
          refine lv_istore (lv' := [(5, .int x6_), (7, .long x10), (0, .ref (aM 0)), (1, .int p1), (2, .int p2), (3, .int p3), (4, .int x4_), (6, .int x6_)]) hx hb dX12_covers_84 hl (by decide) rfl (fun ls hl => ?_)
          refine lv_aload_n hx hb dX12_covers_86 rfl (lv_at hl 2 rfl) ?_
          refine lv_lload hx hb dX12_covers_87 (lv_at hl 1 rfl) ?_
          refine va_put (D := D) (ci := 12) (v := .long x10) (ty := .long) (C := RX12) (T := TX12) (N := 51) hx hb hw inW_X12 tyX12 tyX12_ok nmX12 hown hK hP hD hS 0 rfl rfl 48 (by decide) (hw _ mw_6_91) (fun _ h9 => h9) rfl (by decide +kernel) rfl rfl (Nat.le_of_ble_eq_true rfl) dX12_covers_89 (fun H locs hP hD hS => ?_)
          refine lv_iinc (v := (x6_ + 1)) (lv' := [(6, .int (x6_ + 1)), (5, .int x6_), (7, .long x10), (0, .ref (aM 0)), (1, .int p1), (2, .int p2), (3, .int p3), (4, .int x4_)]) hx hb dX12_covers_92 hl (k := 7) rfl rfl (by decide) rfl (fun ls hl => ?_)
          refine lv_goto (tgt := 13) hx hb dX12_covers_95 (by decide) ?_
          have hP : va_P D vwCl (List.flatten (wM aM C ms_5 (va_up mw 3 x10) ma_6 ml_7)) H := hP
          have hD : va_D A (List.flatten (wM aM C ms_5 (va_up mw 3 x10) ma_6 ml_7)) := hD
          exact ih13 x6_ (x6_ + 1) ms_5 (va_up mw 3 x10) ma_6 ml_7 _ _ _ h hP hD hS (lv_sub hl [3, 4, 5, 6, 7, 1, 0] rfl)
        · have h := h.2 c11
          refine lv_lload hx hb dX12_covers_69 (lv_at hl 0 rfl) ?_
          refine lv_aload_n hx hb dX12_covers_71 rfl (lv_at hl 1 rfl) ?_
          refine va_get (D := D) (ci := 12) (v := .long (mw 3)) (C := RX12) (T := TX12) (N := 51) hx hb hw inW_X12 hown hK hP 0 rfl rfl 48 (by decide) (hw _ mw_6_91) (fun _ h9 => h9) rfl dX12_covers_72 ?_
          refine W.lcmp hx hb dX12_covers_75 ?_
          refine lv_if_lt (tgt := 82) hx hb dX12_covers_76 (by decide) (fun c12 => ?_) (fun c12 => ?_)
          · have c12 : x10 < (mw 3) := (lg_cmp_lt _ _).mp c12
            have h := h.1 c12
            refine lv_iload hx hb dX12_covers_82 (lv_at hl 7 rfl) ?_
            refine lv_istore (lv' := [(5, .int x6_), (7, .long x10), (0, .ref (aM 0)), (1, .int p1), (2, .int p2), (3, .int p3), (4, .int x4_), (6, .int x6_)]) hx hb dX12_covers_84 hl (by decide) rfl (fun ls hl => ?_)
            refine lv_aload_n hx hb dX12_covers_86 rfl (lv_at hl 2 rfl) ?_
            refine lv_lload hx hb dX12_covers_87 (lv_at hl 1 rfl) ?_
            refine va_put (D := D) (ci := 12) (v := .long x10) (ty := .long) (C := RX12) (T := TX12) (N := 51) hx hb hw inW_X12 tyX12 tyX12_ok nmX12 hown hK hP hD hS 0 rfl rfl 48 (by decide) (hw _ mw_6_91) (fun _ h9 => h9) rfl (by decide +kernel) rfl rfl (Nat.le_of_ble_eq_true rfl) dX12_covers_89 (fun H locs hP hD hS => ?_)
            refine lv_iinc (v := (x6_ + 1)) (lv' := [(6, .int (x6_ + 1)), (5, .int x6_), (7, .long x10), (0, .ref (aM 0)), (1, .int p1), (2, .int p2), (3, .int p3), (4, .int x4_)]) hx hb dX12_covers_92 hl (k := 7) rfl rfl (by decide) rfl (fun ls hl => ?_)
            refine lv_goto (tgt := 13) hx hb dX12_covers_95 (by decide) ?_
            have hP : va_P D vwCl (List.flatten (wM aM C ms_5 (va_up mw 3 x10) ma_6 ml_7)) H := hP
            have hD : va_D A (List.flatten (wM aM C ms_5 (va_up mw 3 x10) ma_6 ml_7)) := hD
            exact ih13 x6_ (x6_ + 1) ms_5 (va_up mw 3 x10) ma_6 ml_7 _ _ _ h hP hD hS (lv_sub hl [3, 4, 5, 6, 7, 1, 0] rfl)
          · have c12 : ¬ x10 < (mw 3) := fun q => c12 ((lg_cmp_lt _ _).mpr q)
            have h := h.2 c12
            refine lv_goto (tgt := 92) hx hb dX12_covers_79 (by decide) ?_
            refine lv_iinc (v := (x6_ + 1)) (lv' := [(6, .int (x6_ + 1)), (7, .long x10), (0, .ref (aM 0)), (1, .int p1), (2, .int p2), (3, .int p3), (4, .int x4_), (5, .int x5_)]) hx hb dX12_covers_92 hl (k := 7) rfl rfl (by decide) rfl (fun ls hl => ?_)
            refine lv_goto (tgt := 13) hx hb dX12_covers_95 (by decide) ?_
            exact ih13 x5_ (x6_ + 1) ms_5 mw ma_6 ml_7 _ _ _ h hP hD hS (lv_sub hl [2, 3, 4, 5, 6, 7, 0] rfl)
  refine lv_aload_n hx hb dX12_covers_0 rfl (lv_at hl 0 rfl) ?_
  refine lv_iload_n hx hb dX12_covers_1 rfl (lv_at hl 1 rfl) ?_
  refine cGoAI (cRunAV (As := [.int p1]) (rest := []) ⟨hx, hb, hml, hown, hw⟩ hK hN hP hD (k_X12_optionOf l D C _ aM  ms mw ma ml p1 h) (cwV 1 hw (goodV mw_8_44 mw_8_46 mw_s154 mw_1_13 mw_8_47) rfl rfl rfl (by decide +kernel) ⟨Nat.le_of_ble_eq_true rfl, Nat.le_of_ble_eq_true rfl⟩) rfl rfl rfl hl.1 rfl (Nat.le_of_ble_eq_true rfl) dX12_covers_2 ⟨Nat.zero_le _, Nat.zero_le _⟩) hP hD hS hA (fun r13 u H locs h hP hD hS => ?_)
  have hP : va_P D vwCl (List.flatten (wM aM C ms mw ma ml)) H := hP
  have hD : va_D A (List.flatten (wM aM C ms mw ma ml)) := hD
  refine lv_istore (lv' := [(4, .int r13), (0, .ref (aM 0)), (1, .int p1), (2, .int p2), (3, .int p3)]) hx hb dX12_covers_5 hl (by decide) rfl (fun ls hl => ?_)
  refine lv_iconst (v := (-1)) hx hb dX12_covers_7 (by decide) ?_
  refine lv_istore (lv' := [(5, .int (-1)), (4, .int r13), (0, .ref (aM 0)), (1, .int p1), (2, .int p2), (3, .int p3)]) hx hb dX12_covers_8 hl (by decide) rfl (fun ls hl => ?_)
  refine lv_iconst (v := 0) hx hb dX12_covers_10 (by decide) ?_
  refine lv_istore (lv' := [(6, .int 0), (5, .int (-1)), (4, .int r13), (0, .ref (aM 0)), (1, .int p1), (2, .int p2), (3, .int p3)]) hx hb dX12_covers_11 hl (by decide) rfl (fun ls hl => ?_)
  obtain ⟨n, h⟩ := h
  exact N13 r13 n (-1) 0 ms mw ma ml _ _ _ h hP hD hS (lv_sub hl [3, 4, 5, 6, 2, 1, 0] rfl)
abbrev vsX12_isCover : List Cond := Cond.code yX12_isCover cX12_isCover 4 (some .boolean) :: WS
abbrev rmX12_isCover : Room := { frames := 2, cells := 0, slots := 0, locals := 46 }
set_option maxHeartbeats 4000000 in
set_option maxRecDepth 100000 in
theorem k_X12_isCover (l : Launch) (D : va_G) (C : Nat → ClassId) (sz : Nat) (aM : Nat → Nat)  (ms : Nat → Int32) (mw : Nat → Int64) (ma : Nat → Nat → Int32) (ml : Nat → Nat → Int64) (p1 : Int32) (p2 : Int32) (p3 : Int32) {post : Int32 → Prop} (h : P_X12_isCover ma p1 p2 p3 post) : Met l yX12_isCover vsX12_isCover rmX12_isCover (cPre D C [.ref (aM 0), .int p1, .int p2, .int p3] sz (wM aM C ms mw ma ml)) (cQi D (fun (r : Int32) (u : Unit) => post r ) (fun u => wM aM C ms mw ma ml) (va_A (List.flatten (wM aM C ms mw ma ml)) sz)) 0 0 (va_A (List.flatten (wM aM C ms mw ma ml)) sz) := by
  refine cStart (QA := fun A => cQi D (fun (r : Int32) (u : Unit) => post r ) (fun u => wM aM C ms mw ma ml) A) (cc := cX12_isCover) (maxL := 4) (ret := (some .boolean)) (by decide) (Nat.le_of_ble_eq_true rfl) ?_
  intro p e s m args below meth c A ls hx hb hr hml hown hw hlocks hname hK hN hA hP hD hS hl
  generalize hQ : MQ below _ args s 0 0 A = Q
  have hl : lv_has ls 4 [(0, .ref (aM 0)), (1, .int p1), (2, .int p2), (3, .int p3)] := hl
  obtain ⟨H, hH⟩ : ∃ H, H = s.heap := ⟨_, rfl⟩
  obtain ⟨locs, hlo⟩ : ∃ z : List Loc, z = [] := ⟨_, rfl⟩
  have hP : va_P D vwCl (List.flatten (wM aM C ms mw ma ml)) H := by rw [hH]; exact hP
  have hS : va_S A s.heap H locs := by rw [hH, hlo]; exact hS
  rw [show W p l e rmX12_isCover s m args below meth c s.heap [] 0 0 Q (F0 m 0 ls []) = W p l e rmX12_isCover s m args below meth c H locs 0 0 Q (F0 m 0 ls []) from by rw [hH, hlo]]
  refine lv_aload_n hx hb dX12_isCover_0 rfl (lv_at hl 0 rfl) ?_
  refine lv_iload_n hx hb dX12_isCover_1 rfl (lv_at hl 1 rfl) ?_
  refine cGoAI (cRunAV (As := [.int p1]) (rest := []) ⟨hx, hb, hml, hown, hw⟩ hK hN hP hD (k_X12_isBike l D C _ aM  ms mw ma ml p1 h) (cwV 1 hw (goodV mw_7_143 mw_7_145 mw_s133 mw_1_13 mw_7_146) rfl rfl rfl (by decide +kernel) ⟨Nat.le_of_ble_eq_true rfl, Nat.le_of_ble_eq_true rfl⟩) rfl rfl rfl hl.1 rfl (Nat.le_of_ble_eq_true rfl) dX12_isCover_2 ⟨Nat.zero_le _, Nat.zero_le _⟩) hP hD hS hA (fun r1 u H locs h hP hD hS => ?_)
  have hP : va_P D vwCl (List.flatten (wM aM C ms mw ma ml)) H := hP
  have hD : va_D A (List.flatten (wM aM C ms mw ma ml)) := hD
  refine lv_if_eq (tgt := 36) hx hb dX12_isCover_5 (by decide) (fun c2 => ?_) (fun c2 => ?_)
  · have h := h.1 c2
    refine lv_iconst (v := 0) hx hb dX12_isCover_36 (by decide) ?_
    rw [← hQ]
    exact cRetZ (v := 0) () hx hb hr hlocks hS hP hD (Or.inl rfl) h dX12_isCover_37
  · have h := h.2 c2
    refine lv_iload_n hx hb dX12_isCover_8 rfl (lv_at hl 2 rfl) ?_
    refine lv_i2l hx hb dX12_isCover_9 rfl ?_
    refine lv_lconst (v := 0) hx hb dX12_isCover_10 (by decide) ?_
    refine lv_ldc2 (v := 9999) hx hb hown (hw _ mw_8_223) dX12_isCover_11 ?_
    refine cGoEI (cRunES (As := [.long p2.toInt64, .long 0, .long 9999]) (rest := []) ⟨hx, hb, hml, hown, hw⟩ hK hN hP hD (k_X12_in l D C _    p2.toInt64 0 9999 h) (va_cwS 3 hw (goodS mw_6_205 mw_6_206 mw_1_13 mw_6_207) rfl rfl rfl (by decide +kernel) ⟨Nat.le_of_ble_eq_true rfl, Nat.le_of_ble_eq_true rfl⟩) rfl hl.1 rfl (Nat.le_of_ble_eq_true rfl) dX12_isCover_14 ⟨Nat.zero_le _, Nat.zero_le _⟩) hP hD hS hA (fun r3 u H locs h hP hD hS => ?_)
    have hP : va_P D vwCl (List.flatten (wM aM C ms mw ma ml)) H := hP
    have hD : va_D A (List.flatten (wM aM C ms mw ma ml)) := hD
    refine lv_if_eq (tgt := 36) hx hb dX12_isCover_17 (by decide) (fun c4 => ?_) (fun c4 => ?_)
    · have h := h.1 c4
      refine lv_iconst (v := 0) hx hb dX12_isCover_36 (by decide) ?_
      rw [← hQ]
      exact cRetZ (v := 0) () hx hb hr hlocks hS hP hD (Or.inl rfl) h dX12_isCover_37
    · have h := h.2 c4
      refine lv_iload_n hx hb dX12_isCover_20 rfl (lv_at hl 3 rfl) ?_
      refine lv_i2l hx hb dX12_isCover_21 rfl ?_
      refine lv_lconst (v := 0) hx hb dX12_isCover_22 (by decide) ?_
      refine lv_ldc2 (v := 100) hx hb hown (hw _ mw_7_163) dX12_isCover_23 ?_
      refine cGoEI (cRunES (As := [.long p3.toInt64, .long 0, .long 100]) (rest := []) ⟨hx, hb, hml, hown, hw⟩ hK hN hP hD (k_X12_in l D C _    p3.toInt64 0 100 h) (va_cwS 3 hw (goodS mw_6_205 mw_6_206 mw_1_13 mw_6_207) rfl rfl rfl (by decide +kernel) ⟨Nat.le_of_ble_eq_true rfl, Nat.le_of_ble_eq_true rfl⟩) rfl hl.1 rfl (Nat.le_of_ble_eq_true rfl) dX12_isCover_26 ⟨Nat.zero_le _, Nat.zero_le _⟩) hP hD hS hA (fun r5 u H locs h hP hD hS => ?_)
      have hP : va_P D vwCl (List.flatten (wM aM C ms mw ma ml)) H := hP
      have hD : va_D A (List.flatten (wM aM C ms mw ma ml)) := hD
      refine lv_if_eq (tgt := 36) hx hb dX12_isCover_29 (by decide) (fun c6 => ?_) (fun c6 => ?_)
      · have h := h.1 c6
        refine lv_iconst (v := 0) hx hb dX12_isCover_36 (by decide) ?_
        rw [← hQ]
        exact cRetZ (v := 0) () hx hb hr hlocks hS hP hD (Or.inl rfl) h dX12_isCover_37
      · have h := h.2 c6
        refine lv_iconst (v := 1) hx hb dX12_isCover_32 (by decide) ?_
        refine lv_goto (tgt := 37) hx hb dX12_isCover_33 (by decide) ?_
        rw [← hQ]
        exact cRetZ (v := 1) () hx hb hr hlocks hS hP hD (Or.inr rfl) h dX12_isCover_37
abbrev vsX12_cover : List Cond := Cond.code yX12_cover cX12_cover 4 (some .long) :: WS
abbrev rmX12_cover : Room := { frames := 6, cells := 0, slots := 0, locals := 147 }
set_option maxHeartbeats 4000000 in
set_option maxRecDepth 100000 in
theorem k_X12_cover (l : Launch) (D : va_G) (C : Nat → ClassId) (sz : Nat) (aM : Nat → Nat)  (ms : Nat → Int32) (mw : Nat → Int64) (ma : Nat → Nat → Int32) (ml : Nat → Nat → Int64) (p1 : Int32) (p2 : Int32) (p3 : Int32) {post : Int64 → (Nat → Int32) → (Nat → Int64) → (Nat → Nat → Int32) → (Nat → Nat → Int64) → Prop} (h : P_X12_cover ms mw ma ml p1 p2 p3 post) : Met l yX12_cover vsX12_cover rmX12_cover (cPre D C [.ref (aM 0), .int p1, .int p2, .int p3] sz (wM aM C ms mw ma ml)) (cQl D (fun (r : Int64) (u : (Nat → Int32) × (Nat → Int64) × (Nat → Nat → Int32) × (Nat → Nat → Int64)) => post r u.1 u.2.1 u.2.2.1 u.2.2.2) (fun u => wM aM C u.1 u.2.1 u.2.2.1 u.2.2.2) (va_A (List.flatten (wM aM C ms mw ma ml)) sz)) 0 0 (va_A (List.flatten (wM aM C ms mw ma ml)) sz) := by
  refine cStart (QA := fun A => cQl D (fun (r : Int64) (u : (Nat → Int32) × (Nat → Int64) × (Nat → Nat → Int32) × (Nat → Nat → Int64)) => post r u.1 u.2.1 u.2.2.1 u.2.2.2) (fun u => wM aM C u.1 u.2.1 u.2.2.1 u.2.2.2) A) (cc := cX12_cover) (maxL := 4) (ret := (some .long)) (by decide) (Nat.le_of_ble_eq_true rfl) ?_
  intro p e s m args below meth c A ls hx hb hr hml hown hw hlocks hname hK hN hA hP hD hS hl
  generalize hQ : MQ below _ args s 0 0 A = Q
  have hl : lv_has ls 4 [(0, .ref (aM 0)), (1, .int p1), (2, .int p2), (3, .int p3)] := hl
  obtain ⟨H, hH⟩ : ∃ H, H = s.heap := ⟨_, rfl⟩
  obtain ⟨locs, hlo⟩ : ∃ z : List Loc, z = [] := ⟨_, rfl⟩
  have hP : va_P D vwCl (List.flatten (wM aM C ms mw ma ml)) H := by rw [hH]; exact hP
  have hS : va_S A s.heap H locs := by rw [hH, hlo]; exact hS
  rw [show W p l e rmX12_cover s m args below meth c s.heap [] 0 0 Q (F0 m 0 ls []) = W p l e rmX12_cover s m args below meth c H locs 0 0 Q (F0 m 0 ls []) from by rw [hH, hlo]]
  refine lv_aload_n hx hb dX12_cover_0 rfl (lv_at hl 0 rfl) ?_
  refine lv_iconst (v := 0) hx hb dX12_cover_1 (by decide) ?_
  refine va_put (D := D) (ci := 12) (v := .int 0) (ty := .int) (C := RX12) (T := TX12) (N := 51) hx hb hw inW_X12 tyX12 tyX12_ok nmX12 hown hK hP hD hS 0 rfl rfl 0 (by decide) (hw _ mw_6_43) (fun _ h9 => h9) rfl (by decide +kernel) rfl rfl (Nat.le_of_ble_eq_true rfl) dX12_cover_2 (fun H locs hP hD hS => ?_)
  refine lv_aload_n hx hb dX12_cover_5 rfl (lv_at hl 0 rfl) ?_
  refine lv_iload_n hx hb dX12_cover_6 rfl (lv_at hl 1 rfl) ?_
  refine lv_iload_n hx hb dX12_cover_7 rfl (lv_at hl 2 rfl) ?_
  refine lv_iload_n hx hb dX12_cover_8 rfl (lv_at hl 3 rfl) ?_
  have hP : va_P D vwCl (List.flatten (wM aM C (va_up ms 0 0) mw ma ml)) H := hP
  have hD : va_D A (List.flatten (wM aM C (va_up ms 0 0) mw ma ml)) := hD
  refine cGoAI (cRunAV (As := [.int p1, .int p2, .int p3]) (rest := []) ⟨hx, hb, hml, hown, hw⟩ hK hN hP hD (k_X12_isCover l D C _ aM  (va_up ms 0 0) mw ma ml p1 p2 p3 h) (cwV 3 hw (goodV mw_9_7 mw_9_9 mw_s175 mw_1_13 mw_9_10) rfl rfl rfl (by decide +kernel) ⟨Nat.le_of_ble_eq_true rfl, Nat.le_of_ble_eq_true rfl⟩) rfl rfl rfl hl.1 rfl (Nat.le_of_ble_eq_true rfl) dX12_cover_9 ⟨Nat.zero_le _, Nat.zero_le _⟩) hP hD hS hA (fun r1 u H locs h hP hD hS => ?_)
  have hP : va_P D vwCl (List.flatten (wM aM C (va_up ms 0 0) mw ma ml)) H := hP
  have hD : va_D A (List.flatten (wM aM C (va_up ms 0 0) mw ma ml)) := hD
  refine lv_if_ne (tgt := 19) hx hb dX12_cover_12 (by decide) (fun c2 => ?_) (fun c2 => ?_)
  · have h := h.1 c2
    refine lv_aload_n hx hb dX12_cover_19 rfl (lv_at hl 0 rfl) ?_
    refine lv_iload_n hx hb dX12_cover_20 rfl (lv_at hl 1 rfl) ?_
    refine lv_iload_n hx hb dX12_cover_21 rfl (lv_at hl 2 rfl) ?_
    refine lv_iload_n hx hb dX12_cover_22 rfl (lv_at hl 3 rfl) ?_
    refine cGoAI (cRunAV (As := [.int p1, .int p2, .int p3]) (rest := []) ⟨hx, hb, hml, hown, hw⟩ hK hN hP hD (k_X12_covers l D C _ aM  (va_up ms 0 0) mw ma ml p1 p2 p3 h) (cwV 3 hw (goodV mw_9_11 mw_9_13 mw_s176 mw_1_13 mw_9_14) rfl rfl rfl (by decide +kernel) ⟨Nat.le_of_ble_eq_true rfl, Nat.le_of_ble_eq_true rfl⟩) rfl rfl rfl hl.1 rfl (Nat.le_of_ble_eq_true rfl) dX12_cover_23 ⟨Nat.zero_le _, Nat.zero_le _⟩) hP hD hS hA (fun r7 u H locs h hP hD hS => ?_)
    obtain ⟨ms_3, mw_4, ma_5, ml_6⟩ := u
    have hP : va_P D vwCl (List.flatten (wM aM C ms_3 mw_4 ma_5 ml_6)) H := hP
    have hD : va_D A (List.flatten (wM aM C ms_3 mw_4 ma_5 ml_6)) := hD
    refine lv_pop hx hb dX12_cover_26 rfl ?_
    refine lv_aload_n hx hb dX12_cover_27 rfl (lv_at hl 0 rfl) ?_
    refine va_get (D := D) (ci := 12) (v := .long (mw_4 3)) (C := RX12) (T := TX12) (N := 51) hx hb hw inW_X12 hown hK hP 0 rfl rfl 48 (by decide) (hw _ mw_6_91) (fun _ h9 => h9) rfl dX12_cover_28 ?_
    rw [← hQ]
    exact cRetL (v := (mw_4 3)) (ms_3, mw_4, ma_5, ml_6) hx hb hr hlocks hS hP hD h dX12_cover_31
  · have h := h.2 c2
    refine lv_ldc2 (v := (-2)) hx hb hown (hw _ mw_7_208) dX12_cover_15 ?_
    rw [← hQ]
    exact cRetL (v := (-2)) ((va_up ms 0 0), mw, ma, ml) hx hb hr hlocks hS hP hD h dX12_cover_18
