abbrev vsX12_draws : List Cond := Cond.code yX12_draws cX12_draws 6 none :: WS
abbrev rmX12_draws : Room := { frames := 5, cells := 0, slots := 0, locals := 116 }
set_option maxHeartbeats 4000000 in
set_option maxRecDepth 100000 in
theorem k_X12_draws (l : Launch) (D : va_G) (C : Nat → ClassId) (sz : Nat) (aM : Nat → Nat)  (ms : Nat → Int32) (mw : Nat → Int64) (ma : Nat → Nat → Int32) (ml : Nat → Nat → Int64) (p1 : Int64) {post : (Nat → Int32) → (Nat → Int64) → (Nat → Nat → Int32) → Prop} (h : P_X12_draws ms mw ma p1 post) : Met l yX12_draws vsX12_draws rmX12_draws (cPre D C [.ref (aM 0), .long p1] sz (wM aM C ms mw ma ml)) (cQv D (fun (u : (Nat → Int32) × (Nat → Int64) × (Nat → Nat → Int32)) => post u.1 u.2.1 u.2.2) (fun u => wM aM C u.1 u.2.1 u.2.2 ml) (va_A (List.flatten (wM aM C ms mw ma ml)) sz)) 0 0 (va_A (List.flatten (wM aM C ms mw ma ml)) sz) := by
  refine cStart (QA := fun A => cQv D (fun (u : (Nat → Int32) × (Nat → Int64) × (Nat → Nat → Int32)) => post u.1 u.2.1 u.2.2) (fun u => wM aM C u.1 u.2.1 u.2.2 ml) A) (cc := cX12_draws) (maxL := 6) (ret := none) (by decide) (Nat.le_of_ble_eq_true rfl) ?_
  intro p e s m args below meth c A ls hx hb hr hml hown hw hlocks hname hK hN hA hP hD hS hl
  generalize hQ : MQ below _ args s 0 0 A = Q
  have hl : lv_has ls 6 [(0, .ref (aM 0)), (1, .long p1)] := hl
  obtain ⟨H, hH⟩ : ∃ H, H = s.heap := ⟨_, rfl⟩
  obtain ⟨locs, hlo⟩ : ∃ z : List Loc, z = [] := ⟨_, rfl⟩
  have hP : va_P D vwCl (List.flatten (wM aM C ms mw ma ml)) H := by rw [hH]; exact hP
  have hS : va_S A s.heap H locs := by rw [hH, hlo]; exact hS
  rw [show W p l e rmX12_draws s m args below meth c s.heap [] 0 0 Q (F0 m 0 ls []) = W p l e rmX12_draws s m args below meth c H locs 0 0 Q (F0 m 0 ls []) from by rw [hH, hlo]]
  have N11 : ∀ (ms : Nat → Int32) (n11 : Nat) (x3_ : Int32) (mw : Nat → Int64) (ma : Nat → Nat → Int32) (H : Heap) (locs : List Loc) (ls : Array Slot), P_X12_draws_11 p1 post  ms n11 x3_ mw ma → va_P D vwCl (List.flatten (wM aM C ms mw ma ml)) H → va_D A (List.flatten (wM aM C ms mw ma ml)) → va_S A s.heap H locs → lv_has ls 6 [(0, .ref (aM 0)), (3, .int x3_)] → W p l e rmX12_draws s m args below meth c H locs 0 0 Q (F0 m 11 ls []) := by
    intro ms
    intro n11
    induction n11 with
    | zero => intro x3_ mw ma H locs ls h hP hD hS hl; exact False.elim h
    | succ n11 ih11 =>
      have N27 : ∀ (x3_ : Int32) (n27 : Nat) (x4_ : Int32) (x5_ : Int32) (mw : Nat → Int64) (ma : Nat → Nat → Int32) (H : Heap) (locs : List Loc) (ls : Array Slot), P_X12_draws_27 p1 ms post (P_X12_draws_11 p1 post  ms n11) x3_ n27 x4_ x5_ mw ma → va_P D vwCl (List.flatten (wM aM C ms mw ma ml)) H → va_D A (List.flatten (wM aM C ms mw ma ml)) → va_S A s.heap H locs → lv_has ls 6 [(0, .ref (aM 0)), (3, .int x3_), (4, .int x4_), (5, .int x5_)] → W p l e rmX12_draws s m args below meth c H locs 0 0 Q (F0 m 27 ls []) := by
        intro x3_
        intro n27
        induction n27 with
        | zero => intro x4_ x5_ mw ma H locs ls h hP hD hS hl; exact False.elim h
        | succ n27 ih27 =>
          intro x4_ x5_ mw ma H locs ls h hP hD hS hl
          refine lv_iload hx hb dX12_draws_27 (lv_at hl 3 rfl) ?_
          refine lv_aload_n hx hb dX12_draws_29 rfl (lv_at hl 0 rfl) ?_
          refine va_get (D := D) (ci := 12) (v := .ref (aM 15)) (C := RX12) (T := TX12) (N := 51) hx hb hw inW_X12 hown hK hP 0 rfl rfl 25 (by decide) (hw _ mw_6_68) (fun _ h9 => h9) rfl dX12_draws_30 ?_
          refine lv_iconst (v := 0) hx hb dX12_draws_33 (by decide) ?_
          refine cIald hx hb hK hP 15 0 rfl rfl 0 (by decide +kernel) (cIn (by decide +kernel)) dX12_draws_34 ?_
          refine lv_icmp_ge (tgt := 77) hx hb dX12_draws_35 (by decide) (fun c1 => ?_) (fun c1 => ?_)
          · have h := h.1 c1
            refine lv_iinc (v := (x3_ + 1)) (lv' := [(3, .int (x3_ + 1)), (0, .ref (aM 0)), (4, .int x4_), (5, .int x5_)]) hx hb dX12_draws_77 hl (k := 1) rfl rfl (by decide) rfl (fun ls hl => ?_)
            refine lv_goto (tgt := 11) hx hb dX12_draws_80 (by decide) ?_
            exact ih11 (x3_ + 1) mw ma _ _ _ h hP hD hS (lv_sub hl [1, 0] rfl)
          · have h := h.2 c1
            refine lv_aload_n hx hb dX12_draws_38 rfl (lv_at hl 0 rfl) ?_
            refine cGoI (wo := fun u => wM aM C ms u ma ml) (cRunV (As := []) (rest := []) ⟨hx, hb, hml, hown, hw⟩ hK hN hP hD [0, 1, 2, 3, 4, 5, 6, 7, 8, 9, 10, 11, 12, 13, 14, 15, 16, 17, 18, 19, 20, 21, 22, 23, 24, 25, 26, 27, 28, 29, 30, 31, 32] rfl rfl (k_X12_draw l D C _ aM  ms mw ma ml  h) (cwV 0 hw (goodV mw_9_55 mw_9_57 mw_s181 mw_1_13 mw_9_58) rfl rfl rfl (by decide +kernel) ⟨Nat.le_of_ble_eq_true rfl, Nat.le_of_ble_eq_true rfl⟩) rfl rfl rfl hl.1 rfl (Nat.le_of_ble_eq_true rfl) dX12_draws_39 ⟨Nat.zero_le _, Nat.zero_le _⟩) hP hD hS hA [0, 1, 2, 3, 4, 5, 6, 7, 8, 9, 10, 11, 12, 13, 14, 15, 16, 17, 18, 19, 20, 21, 22, 23, 24, 25, 26, 27, 28, 29, 30, 31, 32] [] [0, 1, 2, 3, 4, 5, 6, 7, 8, 9, 10, 11, 12, 13, 14, 15, 16, 17, 18, 19, 20, 21, 22, 23, 24, 25, 26, 27, 28, 29, 30, 31, 32] rfl rfl rfl (by decide) rfl (fun _ => rfl) (fun r3 mw_2 H locs h hP hD hS => ?_)
            have hP : va_P D vwCl (List.flatten (wM aM C ms mw_2 ma ml)) H := hP
            have hD : va_D A (List.flatten (wM aM C ms mw_2 ma ml)) := hD
            refine lv_aload_n hx hb dX12_draws_42 rfl (lv_at hl 0 rfl) ?_
            refine va_get (D := D) (ci := 12) (v := .ref (aM 16)) (C := RX12) (T := TX12) (N := 51) hx hb hw inW_X12 hown hK hP 0 rfl rfl 26 (by decide) (hw _ mw_6_69) (fun _ h9 => h9) rfl dX12_draws_43 ?_
            refine lv_iconst (v := 5) hx hb dX12_draws_46 (by decide) ?_
            refine lv_iload hx hb dX12_draws_47 (lv_at hl 3 rfl) ?_
            refine lv_imul hx hb dX12_draws_49 ?_
            refine lv_iconst (v := 1) hx hb dX12_draws_50 (by decide) ?_
            refine lv_iadd hx hb dX12_draws_51 ?_
            refine cIald hx hb hK hP 16 0 rfl rfl (((5 * x5_) + 1).toNatClampNeg) rfl h.1 dX12_draws_52 ?_
            have h := h.2
            refine lv_icmp_ge (tgt := 67) hx hb dX12_draws_53 (by decide) (fun c4 => ?_) (fun c4 => ?_)
            · have h := h.1 c4
              refine lv_iload hx hb dX12_draws_67 (lv_at hl 2 rfl) ?_
              refine lv_istore (lv' := [(4, .int x4_), (0, .ref (aM 0)), (3, .int x3_), (5, .int x5_)]) hx hb dX12_draws_69 hl (by decide) rfl (fun ls hl => ?_)
              refine lv_iinc (v := (x5_ + 1)) (lv' := [(5, .int (x5_ + 1)), (4, .int x4_), (0, .ref (aM 0)), (3, .int x3_)]) hx hb dX12_draws_71 hl (k := 3) rfl rfl (by decide) rfl (fun ls hl => ?_)
              refine lv_goto (tgt := 27) hx hb dX12_draws_74 (by decide) ?_
              exact ih27 x4_ (x5_ + 1) mw_2 ma _ _ _ h hP hD hS (lv_sub hl [2, 3, 1, 0] rfl)
            · have h := h.2 c4
              refine lv_aload_n hx hb dX12_draws_56 rfl (lv_at hl 0 rfl) ?_
              refine lv_iload hx hb dX12_draws_57 (lv_at hl 3 rfl) ?_
              refine lv_iload hx hb dX12_draws_59 (lv_at hl 2 rfl) ?_
              refine cGoI (wo := fun u => wM aM C ms mw_2 u ml) (cRunV (As := [.int x5_, .int x4_]) (rest := []) ⟨hx, hb, hml, hown, hw⟩ hK hN hP hD [0, 1, 2, 3, 4, 5, 6, 7, 8, 9, 10, 11, 12, 13, 14, 15, 16, 17, 18, 19, 20, 21, 22, 23, 24, 25, 26, 27, 28, 29, 30, 31, 32] rfl rfl (k_X12_comes l D C _ aM  ms mw_2 ma ml x5_ x4_ h) (cwV 2 hw (goodV mw_9_63 mw_9_65 mw_s182 mw_1_13 mw_9_66) rfl rfl rfl (by decide +kernel) ⟨Nat.le_of_ble_eq_true rfl, Nat.le_of_ble_eq_true rfl⟩) rfl rfl rfl hl.1 rfl (Nat.le_of_ble_eq_true rfl) dX12_draws_61 ⟨Nat.zero_le _, Nat.zero_le _⟩) hP hD hS hA [0, 1, 2, 3, 4, 5, 6, 7, 8, 9, 10, 11, 12, 13, 14, 15, 16, 17, 18, 19, 20, 21, 22, 23, 24, 25, 26, 27, 28, 29, 30, 31, 32] [] [0, 1, 2, 3, 4, 5, 6, 7, 8, 9, 10, 11, 12, 13, 14, 15, 16, 17, 18, 19, 20, 21, 22, 23, 24, 25, 26, 27, 28, 29, 30, 31, 32] rfl rfl rfl (by decide) rfl (fun _ => rfl) (fun r6 ma_5 H locs h hP hD hS => ?_)
              have hP : va_P D vwCl (List.flatten (wM aM C ms mw_2 ma_5 ml)) H := hP
              have hD : va_D A (List.flatten (wM aM C ms mw_2 ma_5 ml)) := hD
              refine lv_goto (tgt := 69) hx hb dX12_draws_64 (by decide) ?_
              refine lv_istore (lv' := [(4, .int r6), (0, .ref (aM 0)), (3, .int x3_), (5, .int x5_)]) hx hb dX12_draws_69 hl (by decide) rfl (fun ls hl => ?_)
              refine lv_iinc (v := (x5_ + 1)) (lv' := [(5, .int (x5_ + 1)), (4, .int r6), (0, .ref (aM 0)), (3, .int x3_)]) hx hb dX12_draws_71 hl (k := 3) rfl rfl (by decide) rfl (fun ls hl => ?_)
              refine lv_goto (tgt := 27) hx hb dX12_draws_74 (by decide) ?_
              exact ih27 r6 (x5_ + 1) mw_2 ma_5 _ _ _ h hP hD hS (lv_sub hl [2, 3, 1, 0] rfl)
      intro x3_ mw ma H locs ls h hP hD hS hl
      refine lv_iload_n hx hb dX12_draws_11 rfl (lv_at hl 1 rfl) ?_
      refine lv_aload_n hx hb dX12_draws_12 rfl (lv_at hl 0 rfl) ?_
      refine va_get (D := D) (ci := 12) (v := .ref (aM 8)) (C := RX12) (T := TX12) (N := 51) hx hb hw inW_X12 hown hK hP 0 rfl rfl 18 (by decide) (hw _ mw_6_61) (fun _ h9 => h9) rfl dX12_draws_13 ?_
      refine lv_iconst (v := 0) hx hb dX12_draws_16 (by decide) ?_
      refine cIald hx hb hK hP 8 0 rfl rfl 0 (by decide +kernel) (cIn (by decide +kernel)) dX12_draws_17 ?_
      refine lv_icmp_ge (tgt := 83) hx hb dX12_draws_18 (by decide) (fun c7 => ?_) (fun c7 => ?_)
      · have h := h.1 c7
        rw [← hQ]
        exact cRetV (ms, mw, ma) hx hb hr hlocks hS hP hD h dX12_draws_83
      · have h := h.2 c7
        refine lv_iconst (v := 0) hx hb dX12_draws_21 (by decide) ?_
        refine lv_istore (lv' := [(4, .int 0), (0, .ref (aM 0)), (3, .int x3_)]) hx hb dX12_draws_22 hl (by decide) rfl (fun ls hl => ?_)
        refine lv_iconst (v := 0) hx hb dX12_draws_24 (by decide) ?_
        refine lv_istore (lv' := [(5, .int 0), (4, .int 0), (0, .ref (aM 0)), (3, .int x3_)]) hx hb dX12_draws_25 hl (by decide) rfl (fun ls hl => ?_)
        obtain ⟨n, h⟩ := h
        exact N27 x3_ n 0 0 mw ma _ _ _ h hP hD hS (lv_sub hl [2, 3, 1, 0] rfl)
  refine lv_aload_n hx hb dX12_draws_0 rfl (lv_at hl 0 rfl) ?_
  refine cGoV (wo := fun u => wM aM C u.1 mw u.2 ml) (cRunV (As := []) (rest := []) ⟨hx, hb, hml, hown, hw⟩ hK hN hP hD [0, 1, 2, 3, 4, 5, 6, 7, 8, 9, 10, 11, 12, 13, 14, 15, 16, 17, 18, 19, 20, 21, 22, 23, 24, 25, 26, 27, 28, 29, 30, 31, 32] rfl rfl (k_X12_newYear l D C _ aM  ms mw ma ml  h) (cwV 0 hw (goodV mw_9_51 mw_9_53 mw_s180 mw_1_13 mw_9_54) rfl rfl rfl (by decide +kernel) ⟨Nat.le_of_ble_eq_true rfl, Nat.le_of_ble_eq_true rfl⟩) rfl rfl rfl hl.1 rfl (Nat.le_of_ble_eq_true rfl) dX12_draws_1 ⟨Nat.zero_le _, Nat.zero_le _⟩) hP hD hS hA [0, 1, 2, 3, 4, 5, 6, 7, 8, 9, 10, 11, 12, 13, 14, 15, 16, 17, 18, 19, 20, 21, 22, 23, 24, 25, 26, 27, 28, 29, 30, 31, 32] [] [0, 1, 2, 3, 4, 5, 6, 7, 8, 9, 10, 11, 12, 13, 14, 15, 16, 17, 18, 19, 20, 21, 22, 23, 24, 25, 26, 27, 28, 29, 30, 31, 32] rfl rfl rfl (by decide) rfl (fun _ => rfl) (fun u H locs h hP hD hS => ?_)
  obtain ⟨ms_8, ma_9⟩ := u
  have hP : va_P D vwCl (List.flatten (wM aM C ms_8 mw ma_9 ml)) H := hP
  have hD : va_D A (List.flatten (wM aM C ms_8 mw ma_9 ml)) := hD
  refine lv_aload_n hx hb dX12_draws_4 rfl (lv_at hl 0 rfl) ?_
  refine lv_lload_n hx hb dX12_draws_5 rfl (lv_at hl 1 rfl) ?_
  refine va_put (D := D) (ci := 12) (v := .long p1) (ty := .long) (C := RX12) (T := TX12) (N := 51) hx hb hw inW_X12 tyX12 tyX12_ok nmX12 hown hK hP hD hS 0 rfl rfl 50 (by decide) (hw _ mw_6_93) (fun _ h9 => h9) rfl (by decide +kernel) rfl rfl (Nat.le_of_ble_eq_true rfl) dX12_draws_6 (fun H locs hP hD hS => ?_)
  refine lv_iconst (v := 0) hx hb dX12_draws_9 (by decide) ?_
  refine lv_istore_n (lv' := [(3, .int 0), (0, .ref (aM 0)), (1, .long p1)]) hx hb dX12_draws_10 rfl hl (by decide) rfl (fun ls hl => ?_)
  have hP : va_P D vwCl (List.flatten (wM aM C ms_8 (va_up mw 4 p1) ma_9 ml)) H := hP
  have hD : va_D A (List.flatten (wM aM C ms_8 (va_up mw 4 p1) ma_9 ml)) := hD
  obtain ⟨n, h⟩ := h
  exact N11 ms_8 n 0 (va_up mw 4 p1) ma_9 _ _ _ h hP hD hS (lv_sub hl [1, 0] rfl)
abbrev vsX12_tellsYear : List Cond := Cond.code yX12_tellsYear cX12_tellsYear 2 (some .int) :: WS
abbrev rmX12_tellsYear : Room := { frames := 1, cells := 0, slots := 0, locals := 22 }
set_option maxHeartbeats 4000000 in
set_option maxRecDepth 100000 in
theorem k_X12_tellsYear (l : Launch) (D : va_G) (C : Nat → ClassId) (sz : Nat) (aM : Nat → Nat)  (ms : Nat → Int32) (mw : Nat → Int64) (ma : Nat → Nat → Int32) (ml : Nat → Nat → Int64)  {post : Int32 → (Nat → Nat → Int32) → Prop} (h : P_X12_tellsYear ma post) : Met l yX12_tellsYear vsX12_tellsYear rmX12_tellsYear (cPre D C [.ref (aM 0)] sz (wM aM C ms mw ma ml)) (cQi D (fun (r : Int32) (u : (Nat → Nat → Int32)) => post r u) (fun u => wM aM C ms mw u ml) (va_A (List.flatten (wM aM C ms mw ma ml)) sz)) 0 0 (va_A (List.flatten (wM aM C ms mw ma ml)) sz) := by
  refine cStart (QA := fun A => cQi D (fun (r : Int32) (u : (Nat → Nat → Int32)) => post r u) (fun u => wM aM C ms mw u ml) A) (cc := cX12_tellsYear) (maxL := 2) (ret := (some .int)) (by decide) (Nat.le_of_ble_eq_true rfl) ?_
  intro p e s m args below meth c A ls hx hb hr hml hown hw hlocks hname hK hN hA hP hD hS hl
  generalize hQ : MQ below _ args s 0 0 A = Q
  have hl : lv_has ls 2 [(0, .ref (aM 0))] := hl
  obtain ⟨H, hH⟩ : ∃ H, H = s.heap := ⟨_, rfl⟩
  obtain ⟨locs, hlo⟩ : ∃ z : List Loc, z = [] := ⟨_, rfl⟩
  have hP : va_P D vwCl (List.flatten (wM aM C ms mw ma ml)) H := by rw [hH]; exact hP
  have hS : va_S A s.heap H locs := by rw [hH, hlo]; exact hS
  rw [show W p l e rmX12_tellsYear s m args below meth c s.heap [] 0 0 Q (F0 m 0 ls []) = W p l e rmX12_tellsYear s m args below meth c H locs 0 0 Q (F0 m 0 ls []) from by rw [hH, hlo]]
  have N35 : ∀ (ma : Nat → Nat → Int32) (H : Heap) (locs : List Loc) (ls : Array Slot), P_X12_tellsYear_35  post  ma → va_P D vwCl (List.flatten (wM aM C ms mw ma ml)) H → va_D A (List.flatten (wM aM C ms mw ma ml)) → va_S A s.heap H locs → lv_has ls 2 [(0, .ref (aM 0))] → W p l e rmX12_tellsYear s m args below meth c H locs 0 0 Q (F0 m 35 ls []) := by
    intro ma H locs ls h hP hD hS hl
    refine lv_aload_n hx hb dX12_tellsYear_35 rfl (lv_at hl 0 rfl) ?_
    refine cGoI (wo := fun u => wM aM C ms mw ma ml) (cRunV (As := []) (rest := []) ⟨hx, hb, hml, hown, hw⟩ hK hN hP hD [0, 1, 2, 3, 4, 5, 6, 7, 8, 9, 10, 11, 12, 13, 14, 15, 16, 17, 18, 19, 20, 21, 22, 23, 24, 25, 26, 27, 28, 29, 30, 31, 32] rfl rfl (k_X12_drawnAll l D C _ aM  ms mw ma ml  h) (cwV 0 hw (goodV mw_9_71 mw_9_73 mw_s184 mw_1_13 mw_9_74) rfl rfl rfl (by decide +kernel) ⟨Nat.le_of_ble_eq_true rfl, Nat.le_of_ble_eq_true rfl⟩) rfl rfl rfl hl.1 rfl (Nat.le_of_ble_eq_true rfl) dX12_tellsYear_36 ⟨Nat.zero_le _, Nat.zero_le _⟩) hP hD hS hA [0, 1, 2, 3, 4, 5, 6, 7, 8, 9, 10, 11, 12, 13, 14, 15, 16, 17, 18, 19, 20, 21, 22, 23, 24, 25, 26, 27, 28, 29, 30, 31, 32] [] [0, 1, 2, 3, 4, 5, 6, 7, 8, 9, 10, 11, 12, 13, 14, 15, 16, 17, 18, 19, 20, 21, 22, 23, 24, 25, 26, 27, 28, 29, 30, 31, 32] rfl rfl rfl (by decide) rfl (fun _ => rfl) (fun r1 u H locs h hP hD hS => ?_)
    have hP : va_P D vwCl (List.flatten (wM aM C ms mw ma ml)) H := hP
    have hD : va_D A (List.flatten (wM aM C ms mw ma ml)) := hD
    rw [← hQ]
    exact cRetI (v := r1) (ma) hx hb hr hlocks hS hP hD h dX12_tellsYear_39
  have N9 : ∀  (n9 : Nat) (x1_ : Int32) (ma : Nat → Nat → Int32) (H : Heap) (locs : List Loc) (ls : Array Slot), P_X12_tellsYear_9  post (fun (ma : Nat → Nat → Int32) => P_X12_tellsYear_35  post  ma)  n9 x1_ ma → va_P D vwCl (List.flatten (wM aM C ms mw ma ml)) H → va_D A (List.flatten (wM aM C ms mw ma ml)) → va_S A s.heap H locs → lv_has ls 2 [(0, .ref (aM 0)), (1, .int x1_)] → W p l e rmX12_tellsYear s m args below meth c H locs 0 0 Q (F0 m 9 ls []) := by
    intro n9
    induction n9 with
    | zero => intro x1_ ma H locs ls h hP hD hS hl; exact False.elim h
    | succ n9 ih9 =>
      intro x1_ ma H locs ls h hP hD hS hl
      refine lv_iload_n hx hb dX12_tellsYear_9 rfl (lv_at hl 1 rfl) ?_
      refine lv_bipush (v := 16) hx hb dX12_tellsYear_10 (by decide) ?_
      refine lv_icmp_ge (tgt := 35) hx hb dX12_tellsYear_12 (by decide) (fun c2 => ?_) (fun c2 => ?_)
      · have h := h.1 c2
        exact N35 ma _ _ _ h hP hD hS (lv_sub hl [0] rfl)
      · have h := h.2 c2
        refine lv_aload_n hx hb dX12_tellsYear_15 rfl (lv_at hl 0 rfl) ?_
        refine va_get (D := D) (ci := 12) (v := .ref (aM 19)) (C := RX12) (T := TX12) (N := 51) hx hb hw inW_X12 hown hK hP 0 rfl rfl 29 (by decide) (hw _ mw_6_72) (fun _ h9 => h9) rfl dX12_tellsYear_16 ?_
        refine lv_iconst (v := 1) hx hb dX12_tellsYear_19 (by decide) ?_
        refine lv_iload_n hx hb dX12_tellsYear_20 rfl (lv_at hl 1 rfl) ?_
        refine lv_iadd hx hb dX12_tellsYear_21 ?_
        refine lv_aload_n hx hb dX12_tellsYear_22 rfl (lv_at hl 0 rfl) ?_
        refine va_get (D := D) (ci := 12) (v := .ref (aM 32)) (C := RX12) (T := TX12) (N := 51) hx hb hw inW_X12 hown hK hP 0 rfl rfl 49 (by decide) (hw _ mw_6_92) (fun _ h9 => h9) rfl dX12_tellsYear_23 ?_
        refine lv_iload_n hx hb dX12_tellsYear_26 rfl (lv_at hl 1 rfl) ?_
        refine cIald hx hb hK hP 32 0 rfl rfl x1_.toNatClampNeg rfl h.1 dX12_tellsYear_27 ?_
        have h := h.2
        refine cIast hx hb hK hP hD hS 19 0 rfl rfl ((1 + x1_).toNatClampNeg) rfl h.1 dX12_tellsYear_28 (fun H locs hP hD hS => ?_)
        have h := h.2
        refine lv_iinc (v := (x1_ + 1)) (lv' := [(1, .int (x1_ + 1)), (0, .ref (aM 0))]) hx hb dX12_tellsYear_29 hl (k := 1) rfl rfl (by decide) rfl (fun ls hl => ?_)
        refine lv_goto (tgt := 9) hx hb dX12_tellsYear_32 (by decide) ?_
        have hP : va_P D vwCl (List.flatten (wM aM C ms mw (va_up ma 16 (upd (ma 16) ((1 + x1_).toNatClampNeg) (ma 21 x1_.toNatClampNeg))) ml)) H := hP
        have hD : va_D A (List.flatten (wM aM C ms mw (va_up ma 16 (upd (ma 16) ((1 + x1_).toNatClampNeg) (ma 21 x1_.toNatClampNeg))) ml)) := hD
        exact ih9 (x1_ + 1) (va_up ma 16 (upd (ma 16) ((1 + x1_).toNatClampNeg) (ma 21 x1_.toNatClampNeg))) _ _ _ h hP hD hS (lv_sub hl [1, 0] rfl)
  refine lv_aload_n hx hb dX12_tellsYear_0 rfl (lv_at hl 0 rfl) ?_
  refine va_get (D := D) (ci := 12) (v := .ref (aM 19)) (C := RX12) (T := TX12) (N := 51) hx hb hw inW_X12 hown hK hP 0 rfl rfl 29 (by decide) (hw _ mw_6_72) (fun _ h9 => h9) rfl dX12_tellsYear_1 ?_
  refine lv_iconst (v := 0) hx hb dX12_tellsYear_4 (by decide) ?_
  refine lv_iconst (v := 1) hx hb dX12_tellsYear_5 (by decide) ?_
  refine cIast hx hb hK hP hD hS 19 0 rfl rfl 0 (by decide +kernel) (cIn (by decide +kernel)) dX12_tellsYear_6 (fun H locs hP hD hS => ?_)
  refine lv_iconst (v := 0) hx hb dX12_tellsYear_7 (by decide) ?_
  refine lv_istore_n (lv' := [(1, .int 0), (0, .ref (aM 0))]) hx hb dX12_tellsYear_8 rfl hl (by decide) rfl (fun ls hl => ?_)
  have hP : va_P D vwCl (List.flatten (wM aM C ms mw (va_up ma 16 (upd (ma 16) 0 1)) ml)) H := hP
  have hD : va_D A (List.flatten (wM aM C ms mw (va_up ma 16 (upd (ma 16) 0 1)) ml)) := hD
  obtain ⟨n, h⟩ := h
  exact N9  n 0 (va_up ma 16 (upd (ma 16) 0 1)) _ _ _ h hP hD hS (lv_sub hl [1, 0] rfl)
abbrev vsX12_isSeed : List Cond := Cond.code yX12_isSeed cX12_isSeed 1 (some .boolean) :: WS
abbrev rmX12_isSeed : Room := { frames := 1, cells := 0, slots := 0, locals := 25 }
set_option maxHeartbeats 4000000 in
set_option maxRecDepth 100000 in
theorem k_X12_isSeed (l : Launch) (D : va_G) (C : Nat → ClassId) (sz : Nat)    (p1 : Int32) {post : Int32 → Prop} (h : P_X12_isSeed p1 post) : Met l yX12_isSeed vsX12_isSeed rmX12_isSeed (cPre D C [.int p1] sz (([] : List va_W))) (cQi D (fun (r : Int32) (u : Unit) => post r ) (fun u => ([] : List va_W)) (va_A (List.flatten (([] : List va_W))) sz)) 0 0 (va_A (List.flatten (([] : List va_W))) sz) := by
  refine cStart (QA := fun A => cQi D (fun (r : Int32) (u : Unit) => post r ) (fun u => ([] : List va_W)) A) (cc := cX12_isSeed) (maxL := 1) (ret := (some .boolean)) (by decide) (Nat.le_of_ble_eq_true rfl) ?_
  intro p e s m args below meth c A ls hx hb hr hml hown hw hlocks hname hK hN hA hP hD hS hl
  generalize hQ : MQ below _ args s 0 0 A = Q
  have hl : lv_has ls 1 [(0, .int p1)] := hl
  obtain ⟨H, hH⟩ : ∃ H, H = s.heap := ⟨_, rfl⟩
  obtain ⟨locs, hlo⟩ : ∃ z : List Loc, z = [] := ⟨_, rfl⟩
  have hP : va_P D vwCl (List.flatten (([] : List va_W))) H := by rw [hH]; exact hP
  have hS : va_S A s.heap H locs := by rw [hH, hlo]; exact hS
  rw [show W p l e rmX12_isSeed s m args below meth c s.heap [] 0 0 Q (F0 m 0 ls []) = W p l e rmX12_isSeed s m args below meth c H locs 0 0 Q (F0 m 0 ls []) from by rw [hH, hlo]]
  refine lv_iload_n hx hb dX12_isSeed_0 rfl (lv_at hl 0 rfl) ?_
  refine lv_i2l hx hb dX12_isSeed_1 rfl ?_
  refine lv_lconst (v := 0) hx hb dX12_isSeed_2 (by decide) ?_
  refine lv_ldc2 (v := 2000000000) hx hb hown (hw _ mw_9_46) dX12_isSeed_3 ?_
  refine cGoI (wo := fun u => ([] : List va_W)) (cRunS (As := [.long p1.toInt64, .long 0, .long 2000000000]) (rest := []) ⟨hx, hb, hml, hown, hw⟩ hK hN hP hD [] rfl rfl (k_X12_in l D C _    p1.toInt64 0 2000000000 h) (va_cwS 3 hw (goodS mw_6_205 mw_6_206 mw_1_13 mw_6_207) rfl rfl rfl (by decide +kernel) ⟨Nat.le_of_ble_eq_true rfl, Nat.le_of_ble_eq_true rfl⟩) rfl hl.1 rfl (Nat.le_of_ble_eq_true rfl) dX12_isSeed_6 ⟨Nat.zero_le _, Nat.zero_le _⟩) hP hD hS hA [] [] [] rfl rfl rfl (by decide) rfl (fun _ => rfl) (fun r1 u H locs h hP hD hS => ?_)
  have hP : va_P D vwCl (List.flatten (([] : List va_W))) H := hP
  have hD : va_D A (List.flatten (([] : List va_W))) := hD
  rw [← hQ]
  exact cRetZ (v := r1) () hx hb hr hlocks hS hP hD h.1 h.2 dX12_isSeed_9
abbrev vsX12_run : List Cond := Cond.code yX12_run cX12_run 2 (some .int) :: WS
abbrev rmX12_run : Room := { frames := 6, cells := 0, slots := 0, locals := 141 }
set_option maxHeartbeats 4000000 in
set_option maxRecDepth 100000 in
theorem k_X12_run (l : Launch) (D : va_G) (C : Nat → ClassId) (sz : Nat) (aM : Nat → Nat)  (ms : Nat → Int32) (mw : Nat → Int64) (ma : Nat → Nat → Int32) (ml : Nat → Nat → Int64) (p1 : Int32) {post : Int32 → (Nat → Int32) → (Nat → Int64) → (Nat → Nat → Int32) → Prop} (h : P_X12_run ms mw ma p1 post) : Met l yX12_run vsX12_run rmX12_run (cPre D C [.ref (aM 0), .int p1] sz (wM aM C ms mw ma ml)) (cQi D (fun (r : Int32) (u : (Nat → Int32) × (Nat → Int64) × (Nat → Nat → Int32)) => post r u.1 u.2.1 u.2.2) (fun u => wM aM C u.1 u.2.1 u.2.2 ml) (va_A (List.flatten (wM aM C ms mw ma ml)) sz)) 0 0 (va_A (List.flatten (wM aM C ms mw ma ml)) sz) := by
  refine cStart (QA := fun A => cQi D (fun (r : Int32) (u : (Nat → Int32) × (Nat → Int64) × (Nat → Nat → Int32)) => post r u.1 u.2.1 u.2.2) (fun u => wM aM C u.1 u.2.1 u.2.2 ml) A) (cc := cX12_run) (maxL := 2) (ret := (some .int)) (by decide) (Nat.le_of_ble_eq_true rfl) ?_
  intro p e s m args below meth c A ls hx hb hr hml hown hw hlocks hname hK hN hA hP hD hS hl
  generalize hQ : MQ below _ args s 0 0 A = Q
  have hl : lv_has ls 2 [(0, .ref (aM 0)), (1, .int p1)] := hl
  obtain ⟨H, hH⟩ : ∃ H, H = s.heap := ⟨_, rfl⟩
  obtain ⟨locs, hlo⟩ : ∃ z : List Loc, z = [] := ⟨_, rfl⟩
  have hP : va_P D vwCl (List.flatten (wM aM C ms mw ma ml)) H := by rw [hH]; exact hP
  have hS : va_S A s.heap H locs := by rw [hH, hlo]; exact hS
  rw [show W p l e rmX12_run s m args below meth c s.heap [] 0 0 Q (F0 m 0 ls []) = W p l e rmX12_run s m args below meth c H locs 0 0 Q (F0 m 0 ls []) from by rw [hH, hlo]]
  refine lv_aload_n hx hb dX12_run_0 rfl (lv_at hl 0 rfl) ?_
  refine lv_iconst (v := 0) hx hb dX12_run_1 (by decide) ?_
  refine va_put (D := D) (ci := 12) (v := .int 0) (ty := .int) (C := RX12) (T := TX12) (N := 51) hx hb hw inW_X12 tyX12 tyX12_ok nmX12 hown hK hP hD hS 0 rfl rfl 0 (by decide) (hw _ mw_6_43) (fun _ h9 => h9) rfl (by decide +kernel) rfl rfl (Nat.le_of_ble_eq_true rfl) dX12_run_2 (fun H locs hP hD hS => ?_)
  refine lv_iload_n hx hb dX12_run_5 rfl (lv_at hl 1 rfl) ?_
  have hP : va_P D vwCl (List.flatten (wM aM C (va_up ms 0 0) mw ma ml)) H := hP
  have hD : va_D A (List.flatten (wM aM C (va_up ms 0 0) mw ma ml)) := hD
  refine cGoI (wo := fun u => wM aM C (va_up ms 0 0) mw ma ml) (cRunS (As := [.int p1]) (rest := []) ⟨hx, hb, hml, hown, hw⟩ hK hN hP hD [] rfl rfl (k_X12_isSeed l D C _    p1 h) (va_cwS 1 hw (goodS mw_9_43 mw_9_44 mw_1_13 mw_9_45) rfl rfl rfl (by decide +kernel) ⟨Nat.le_of_ble_eq_true rfl, Nat.le_of_ble_eq_true rfl⟩) rfl hl.1 rfl (Nat.le_of_ble_eq_true rfl) dX12_run_6 ⟨Nat.zero_le _, Nat.zero_le _⟩) hP hD hS hA [] [0, 1, 2, 3, 4, 5, 6, 7, 8, 9, 10, 11, 12, 13, 14, 15, 16, 17, 18, 19, 20, 21, 22, 23, 24, 25, 26, 27, 28, 29, 30, 31, 32] [0, 1, 2, 3, 4, 5, 6, 7, 8, 9, 10, 11, 12, 13, 14, 15, 16, 17, 18, 19, 20, 21, 22, 23, 24, 25, 26, 27, 28, 29, 30, 31, 32] rfl rfl rfl (by decide) rfl (fun _ => rfl) (fun r1 u H locs h hP hD hS => ?_)
  have hP : va_P D vwCl (List.flatten (wM aM C (va_up ms 0 0) mw ma ml)) H := hP
  have hD : va_D A (List.flatten (wM aM C (va_up ms 0 0) mw ma ml)) := hD
  refine lv_if_eq (tgt := 19) hx hb dX12_run_9 (by decide) (fun c2 => ?_) (fun c2 => ?_)
  · have h := h.1 c2
    refine lv_bipush (v := (-2)) hx hb dX12_run_19 (by decide) ?_
    rw [← hQ]
    exact cRetI (v := (-2)) ((va_up ms 0 0), mw, ma) hx hb hr hlocks hS hP hD h dX12_run_21
  · have h := h.2 c2
    refine lv_aload_n hx hb dX12_run_12 rfl (lv_at hl 0 rfl) ?_
    refine cGoI (wo := fun u => wM aM C (va_up ms 0 0) mw ma ml) (cRunV (As := []) (rest := []) ⟨hx, hb, hml, hown, hw⟩ hK hN hP hD [0, 1, 2, 3, 4, 5, 6, 7, 8, 9, 10, 11, 12, 13, 14, 15, 16, 17, 18, 19, 20, 21, 22, 23, 24, 25, 26, 27, 28, 29, 30, 31, 32] rfl rfl (k_X12_isRail l D C _ aM  (va_up ms 0 0) mw ma ml  h) (cwV 0 hw (goodV mw_7_204 mw_7_206 mw_s142 mw_1_13 mw_7_207) rfl rfl rfl (by decide +kernel) ⟨Nat.le_of_ble_eq_true rfl, Nat.le_of_ble_eq_true rfl⟩) rfl rfl rfl hl.1 rfl (Nat.le_of_ble_eq_true rfl) dX12_run_13 ⟨Nat.zero_le _, Nat.zero_le _⟩) hP hD hS hA [0, 1, 2, 3, 4, 5, 6, 7, 8, 9, 10, 11, 12, 13, 14, 15, 16, 17, 18, 19, 20, 21, 22, 23, 24, 25, 26, 27, 28, 29, 30, 31, 32] [] [0, 1, 2, 3, 4, 5, 6, 7, 8, 9, 10, 11, 12, 13, 14, 15, 16, 17, 18, 19, 20, 21, 22, 23, 24, 25, 26, 27, 28, 29, 30, 31, 32] rfl rfl rfl (by decide) rfl (fun _ => rfl) (fun r3 u H locs h hP hD hS => ?_)
    have hP : va_P D vwCl (List.flatten (wM aM C (va_up ms 0 0) mw ma ml)) H := hP
    have hD : va_D A (List.flatten (wM aM C (va_up ms 0 0) mw ma ml)) := hD
    refine lv_if_ne (tgt := 22) hx hb dX12_run_16 (by decide) (fun c4 => ?_) (fun c4 => ?_)
    · have h := h.1 c4
      refine lv_aload_n hx hb dX12_run_22 rfl (lv_at hl 0 rfl) ?_
      refine lv_iload_n hx hb dX12_run_23 rfl (lv_at hl 1 rfl) ?_
      refine lv_i2l hx hb dX12_run_24 rfl ?_
      refine cGoV (wo := fun u => wM aM C u.1 u.2.1 u.2.2 ml) (cRunV (As := [.long p1.toInt64]) (rest := []) ⟨hx, hb, hml, hown, hw⟩ hK hN hP hD [0, 1, 2, 3, 4, 5, 6, 7, 8, 9, 10, 11, 12, 13, 14, 15, 16, 17, 18, 19, 20, 21, 22, 23, 24, 25, 26, 27, 28, 29, 30, 31, 32] rfl rfl (k_X12_draws l D C _ aM  (va_up ms 0 0) mw ma ml p1.toInt64 h) (cwV 1 hw (goodV mw_9_47 mw_9_49 mw_s179 mw_1_13 mw_9_50) rfl rfl rfl (by decide +kernel) ⟨Nat.le_of_ble_eq_true rfl, Nat.le_of_ble_eq_true rfl⟩) rfl rfl rfl hl.1 rfl (Nat.le_of_ble_eq_true rfl) dX12_run_25 ⟨Nat.zero_le _, Nat.zero_le _⟩) hP hD hS hA [0, 1, 2, 3, 4, 5, 6, 7, 8, 9, 10, 11, 12, 13, 14, 15, 16, 17, 18, 19, 20, 21, 22, 23, 24, 25, 26, 27, 28, 29, 30, 31, 32] [] [0, 1, 2, 3, 4, 5, 6, 7, 8, 9, 10, 11, 12, 13, 14, 15, 16, 17, 18, 19, 20, 21, 22, 23, 24, 25, 26, 27, 28, 29, 30, 31, 32] rfl rfl rfl (by decide) rfl (fun _ => rfl) (fun u H locs h hP hD hS => ?_)
      obtain ⟨ms_5, mw_6, ma_7⟩ := u
      have hP : va_P D vwCl (List.flatten (wM aM C ms_5 mw_6 ma_7 ml)) H := hP
      have hD : va_D A (List.flatten (wM aM C ms_5 mw_6 ma_7 ml)) := hD
      refine lv_aload_n hx hb dX12_run_28 rfl (lv_at hl 0 rfl) ?_
      refine cGoI (wo := fun u => wM aM C ms_5 mw_6 u ml) (cRunV (As := []) (rest := []) ⟨hx, hb, hml, hown, hw⟩ hK hN hP hD [0, 1, 2, 3, 4, 5, 6, 7, 8, 9, 10, 11, 12, 13, 14, 15, 16, 17, 18, 19, 20, 21, 22, 23, 24, 25, 26, 27, 28, 29, 30, 31, 32] rfl rfl (k_X12_tellsYear l D C _ aM  ms_5 mw_6 ma_7 ml  h) (cwV 0 hw (goodV mw_9_67 mw_9_69 mw_s183 mw_1_13 mw_9_70) rfl rfl rfl (by decide +kernel) ⟨Nat.le_of_ble_eq_true rfl, Nat.le_of_ble_eq_true rfl⟩) rfl rfl rfl hl.1 rfl (Nat.le_of_ble_eq_true rfl) dX12_run_29 ⟨Nat.zero_le _, Nat.zero_le _⟩) hP hD hS hA [0, 1, 2, 3, 4, 5, 6, 7, 8, 9, 10, 11, 12, 13, 14, 15, 16, 17, 18, 19, 20, 21, 22, 23, 24, 25, 26, 27, 28, 29, 30, 31, 32] [] [0, 1, 2, 3, 4, 5, 6, 7, 8, 9, 10, 11, 12, 13, 14, 15, 16, 17, 18, 19, 20, 21, 22, 23, 24, 25, 26, 27, 28, 29, 30, 31, 32] rfl rfl rfl (by decide) rfl (fun _ => rfl) (fun r9 ma_8 H locs h hP hD hS => ?_)
      have hP : va_P D vwCl (List.flatten (wM aM C ms_5 mw_6 ma_8 ml)) H := hP
      have hD : va_D A (List.flatten (wM aM C ms_5 mw_6 ma_8 ml)) := hD
      rw [← hQ]
      exact cRetI (v := r9) (ms_5, mw_6, ma_8) hx hb hr hlocks hS hP hD h dX12_run_32
    · have h := h.2 c4
      refine lv_bipush (v := (-2)) hx hb dX12_run_19 (by decide) ?_
      rw [← hQ]
      exact cRetI (v := (-2)) ((va_up ms 0 0), mw, ma) hx hb hr hlocks hS hP hD h dX12_run_21
abbrev vsX12_told : List Cond := Cond.code yX12_told cX12_told 5 (some .int) :: WS
abbrev rmX12_told : Room := { frames := 5, cells := 0, slots := 0, locals := 116 }
set_option maxHeartbeats 4000000 in
set_option maxRecDepth 100000 in
theorem k_X12_told (l : Launch) (D : va_G) (C : Nat → ClassId) (sz : Nat) (aM : Nat → Nat)  (ms : Nat → Int32) (mw : Nat → Int64) (ma : Nat → Nat → Int32) (ml : Nat → Nat → Int64) (p1 : Int32) {post : Int32 → (Nat → Int32) → (Nat → Nat → Int32) → Prop} (h : P_X12_told ms ma ml p1 post) : Met l yX12_told vsX12_told rmX12_told (cPre D C [.ref (aM 0), .int p1] sz (wM aM C ms mw ma ml)) (cQi D (fun (r : Int32) (u : (Nat → Int32) × (Nat → Nat → Int32)) => post r u.1 u.2) (fun u => wM aM C u.1 mw u.2 ml) (va_A (List.flatten (wM aM C ms mw ma ml)) sz)) 0 0 (va_A (List.flatten (wM aM C ms mw ma ml)) sz) := by
  refine cStart (QA := fun A => cQi D (fun (r : Int32) (u : (Nat → Int32) × (Nat → Nat → Int32)) => post r u.1 u.2) (fun u => wM aM C u.1 mw u.2 ml) A) (cc := cX12_told) (maxL := 5) (ret := (some .int)) (by decide) (Nat.le_of_ble_eq_true rfl) ?_
  intro p e s m args below meth c A ls hx hb hr hml hown hw hlocks hname hK hN hA hP hD hS hl
  generalize hQ : MQ below _ args s 0 0 A = Q
  have hl : lv_has ls 5 [(0, .ref (aM 0)), (1, .int p1)] := hl
  obtain ⟨H, hH⟩ : ∃ H, H = s.heap := ⟨_, rfl⟩
  obtain ⟨locs, hlo⟩ : ∃ z : List Loc, z = [] := ⟨_, rfl⟩
  have hP : va_P D vwCl (List.flatten (wM aM C ms mw ma ml)) H := by rw [hH]; exact hP
  have hS : va_S A s.heap H locs := by rw [hH, hlo]; exact hS
  rw [show W p l e rmX12_told s m args below meth c s.heap [] 0 0 Q (F0 m 0 ls []) = W p l e rmX12_told s m args below meth c H locs 0 0 Q (F0 m 0 ls []) from by rw [hH, hlo]]
  have N179 : ∀ (ms : Nat → Int32) (ma : Nat → Nat → Int32) (H : Heap) (locs : List Loc) (ls : Array Slot), P_X12_told_179 ml p1 post  ms ma → va_P D vwCl (List.flatten (wM aM C ms mw ma ml)) H → va_D A (List.flatten (wM aM C ms mw ma ml)) → va_S A s.heap H locs → lv_has ls 5 [(0, .ref (aM 0))] → W p l e rmX12_told s m args below meth c H locs 0 0 Q (F0 m 179 ls []) := by
    intro ms ma H locs ls h hP hD hS hl
    refine lv_aload_n hx hb dX12_told_179 rfl (lv_at hl 0 rfl) ?_
    refine cGoI (wo := fun u => wM aM C ms mw u ml) (cRunV (As := []) (rest := []) ⟨hx, hb, hml, hown, hw⟩ hK hN hP hD [0, 1, 2, 3, 4, 5, 6, 7, 8, 9, 10, 11, 12, 13, 14, 15, 16, 17, 18, 19, 20, 21, 22, 23, 24, 25, 26, 27, 28, 29, 30, 31, 32] rfl rfl (k_X12_tellsYear l D C _ aM  ms mw ma ml  h) (cwV 0 hw (goodV mw_9_67 mw_9_69 mw_s183 mw_1_13 mw_9_70) rfl rfl rfl (by decide +kernel) ⟨Nat.le_of_ble_eq_true rfl, Nat.le_of_ble_eq_true rfl⟩) rfl rfl rfl hl.1 rfl (Nat.le_of_ble_eq_true rfl) dX12_told_180 ⟨Nat.zero_le _, Nat.zero_le _⟩) hP hD hS hA [0, 1, 2, 3, 4, 5, 6, 7, 8, 9, 10, 11, 12, 13, 14, 15, 16, 17, 18, 19, 20, 21, 22, 23, 24, 25, 26, 27, 28, 29, 30, 31, 32] [] [0, 1, 2, 3, 4, 5, 6, 7, 8, 9, 10, 11, 12, 13, 14, 15, 16, 17, 18, 19, 20, 21, 22, 23, 24, 25, 26, 27, 28, 29, 30, 31, 32] rfl rfl rfl (by decide) rfl (fun _ => rfl) (fun r6 ma_5 H locs h hP hD hS => ?_)
    have hP : va_P D vwCl (List.flatten (wM aM C ms mw ma_5 ml)) H := hP
    have hD : va_D A (List.flatten (wM aM C ms mw ma_5 ml)) := hD
    rw [← hQ]
    exact cRetI (v := r6) (ms, ma_5) hx hb hr hlocks hS hP hD h dX12_told_183
  have N108 : ∀ (ms : Nat → Int32) (n108 : Nat) (x2_ : Int32) (ma : Nat → Nat → Int32) (H : Heap) (locs : List Loc) (ls : Array Slot), P_X12_told_108 ml p1 post (fun (ms : Nat → Int32) (ma : Nat → Nat → Int32) => P_X12_told_179 ml p1 post  ms ma) ms n108 x2_ ma → va_P D vwCl (List.flatten (wM aM C ms mw ma ml)) H → va_D A (List.flatten (wM aM C ms mw ma ml)) → va_S A s.heap H locs → lv_has ls 5 [(0, .ref (aM 0)), (1, .int p1), (2, .int x2_)] → W p l e rmX12_told s m args below meth c H locs 0 0 Q (F0 m 108 ls []) := by
    intro ms
    intro n108
    induction n108 with
    | zero => intro x2_ ma H locs ls h hP hD hS hl; exact False.elim h
    | succ n108 ih108 =>
      have N123 : ∀ (x2_ : Int32) (n123 : Nat) (x3_ : Int32) (x4_ : Int32) (ma : Nat → Nat → Int32) (H : Heap) (locs : List Loc) (ls : Array Slot), P_X12_told_123 ml p1 ms post (P_X12_told_108 ml p1 post (fun (ms : Nat → Int32) (ma : Nat → Nat → Int32) => P_X12_told_179 ml p1 post  ms ma) ms n108) x2_ n123 x3_ x4_ ma → va_P D vwCl (List.flatten (wM aM C ms mw ma ml)) H → va_D A (List.flatten (wM aM C ms mw ma ml)) → va_S A s.heap H locs → lv_has ls 5 [(0, .ref (aM 0)), (1, .int p1), (2, .int x2_), (3, .int x3_), (4, .int x4_)] → W p l e rmX12_told s m args below meth c H locs 0 0 Q (F0 m 123 ls []) := by
        intro x2_
        intro n123
        induction n123 with
        | zero => intro x3_ x4_ ma H locs ls h hP hD hS hl; exact False.elim h
        | succ n123 ih123 =>
          intro x3_ x4_ ma H locs ls h hP hD hS hl
          refine lv_iload hx hb dX12_told_123 (lv_at hl 4 rfl) ?_
          refine lv_aload_n hx hb dX12_told_125 rfl (lv_at hl 0 rfl) ?_
          refine va_get (D := D) (ci := 12) (v := .ref (aM 15)) (C := RX12) (T := TX12) (N := 51) hx hb hw inW_X12 hown hK hP 0 rfl rfl 25 (by decide) (hw _ mw_6_68) (fun _ h9 => h9) rfl dX12_told_126 ?_
          refine lv_iconst (v := 0) hx hb dX12_told_129 (by decide) ?_
          refine cIald hx hb hK hP 15 0 rfl rfl 0 (by decide +kernel) (cIn (by decide +kernel)) dX12_told_130 ?_
          refine lv_icmp_ge (tgt := 173) hx hb dX12_told_131 (by decide) (fun c1 => ?_) (fun c1 => ?_)
          · have h := h.1 c1
            refine lv_iinc (v := (x2_ + 1)) (lv' := [(2, .int (x2_ + 1)), (0, .ref (aM 0)), (1, .int p1), (3, .int x3_), (4, .int x4_)]) hx hb dX12_told_173 hl (k := 2) rfl rfl (by decide) rfl (fun ls hl => ?_)
            refine lv_goto (tgt := 108) hx hb dX12_told_176 (by decide) ?_
            exact ih108 (x2_ + 1) ma _ _ _ h hP hD hS (lv_sub hl [1, 2, 0] rfl)
          · have h := h.2 c1
            refine lv_aload_n hx hb dX12_told_134 rfl (lv_at hl 0 rfl) ?_
            refine va_get (D := D) (ci := 12) (v := .ref (aM 3)) (C := RX12) (T := TX12) (N := 51) hx hb hw inW_X12 hown hK hP 0 rfl rfl 3 (by decide) (hw _ mw_6_46) (fun _ h9 => h9) rfl dX12_told_135 ?_
            refine lv_bipush (v := 60) hx hb dX12_told_138 (by decide) ?_
            refine lv_iload_n hx hb dX12_told_140 rfl (lv_at hl 1 rfl) ?_
            refine lv_imul hx hb dX12_told_141 ?_
            refine lv_iload_n hx hb dX12_told_142 rfl (lv_at hl 2 rfl) ?_
            refine lv_iadd hx hb dX12_told_143 ?_
            refine cLald hx hb hK hP 3 1 rfl rfl (((60 * p1) + x2_).toNatClampNeg) rfl h.1 dX12_told_144 ?_
            have h := h.2
            refine lv_iload hx hb dX12_told_145 (lv_at hl 4 rfl) ?_
            refine lv_lshr hx hb dX12_told_147 rfl ?_
            refine lv_lconst (v := 1) hx hb dX12_told_148 (by decide) ?_
            refine lv_land hx hb dX12_told_149 ?_
            refine lv_lconst (v := 1) hx hb dX12_told_150 (by decide) ?_
            refine W.lcmp hx hb dX12_told_151 ?_
            refine lv_if_ne (tgt := 165) hx hb dX12_told_152 (by decide) (fun c2 => ?_) (fun c2 => ?_)
            · have c2 : ¬ (((ml 0 (((60 * p1) + x2_).toNatClampNeg)) >>> (x4_.toInt64 &&& 63)) &&& 1) = 1 := fun q => c2 ((lg_cmp_eq _ _).mpr q)
              have h := h.1 c2
              refine lv_iload_n hx hb dX12_told_165 rfl (lv_at hl 3 rfl) ?_
              refine lv_istore_n (lv' := [(3, .int x3_), (0, .ref (aM 0)), (1, .int p1), (2, .int x2_), (4, .int x4_)]) hx hb dX12_told_166 rfl hl (by decide) rfl (fun ls hl => ?_)
              refine lv_iinc (v := (x4_ + 1)) (lv' := [(4, .int (x4_ + 1)), (3, .int x3_), (0, .ref (aM 0)), (1, .int p1), (2, .int x2_)]) hx hb dX12_told_167 hl (k := 4) rfl rfl (by decide) rfl (fun ls hl => ?_)
              refine lv_goto (tgt := 123) hx hb dX12_told_170 (by decide) ?_
              exact ih123 x3_ (x4_ + 1) ma _ _ _ h hP hD hS (lv_sub hl [2, 3, 4, 1, 0] rfl)
            · have c2 : (((ml 0 (((60 * p1) + x2_).toNatClampNeg)) >>> (x4_.toInt64 &&& 63)) &&& 1) = 1 := (lg_cmp_eq _ _).mp c2
              have h := h.2 c2
              refine lv_aload_n hx hb dX12_told_155 rfl (lv_at hl 0 rfl) ?_
              refine lv_iload hx hb dX12_told_156 (lv_at hl 4 rfl) ?_
              refine lv_iload_n hx hb dX12_told_158 rfl (lv_at hl 3 rfl) ?_
              refine cGoI (wo := fun u => wM aM C ms mw u ml) (cRunV (As := [.int x4_, .int x3_]) (rest := []) ⟨hx, hb, hml, hown, hw⟩ hK hN hP hD [0, 1, 2, 3, 4, 5, 6, 7, 8, 9, 10, 11, 12, 13, 14, 15, 16, 17, 18, 19, 20, 21, 22, 23, 24, 25, 26, 27, 28, 29, 30, 31, 32] rfl rfl (k_X12_comes l D C _ aM  ms mw ma ml x4_ x3_ h) (cwV 2 hw (goodV mw_9_63 mw_9_65 mw_s182 mw_1_13 mw_9_66) rfl rfl rfl (by decide +kernel) ⟨Nat.le_of_ble_eq_true rfl, Nat.le_of_ble_eq_true rfl⟩) rfl rfl rfl hl.1 rfl (Nat.le_of_ble_eq_true rfl) dX12_told_159 ⟨Nat.zero_le _, Nat.zero_le _⟩) hP hD hS hA [0, 1, 2, 3, 4, 5, 6, 7, 8, 9, 10, 11, 12, 13, 14, 15, 16, 17, 18, 19, 20, 21, 22, 23, 24, 25, 26, 27, 28, 29, 30, 31, 32] [] [0, 1, 2, 3, 4, 5, 6, 7, 8, 9, 10, 11, 12, 13, 14, 15, 16, 17, 18, 19, 20, 21, 22, 23, 24, 25, 26, 27, 28, 29, 30, 31, 32] rfl rfl rfl (by decide) rfl (fun _ => rfl) (fun r4 ma_3 H locs h hP hD hS => ?_)
              have hP : va_P D vwCl (List.flatten (wM aM C ms mw ma_3 ml)) H := hP
              have hD : va_D A (List.flatten (wM aM C ms mw ma_3 ml)) := hD
              refine lv_goto (tgt := 166) hx hb dX12_told_162 (by decide) ?_
              refine lv_istore_n (lv' := [(3, .int r4), (0, .ref (aM 0)), (1, .int p1), (2, .int x2_), (4, .int x4_)]) hx hb dX12_told_166 rfl hl (by decide) rfl (fun ls hl => ?_)
              refine lv_iinc (v := (x4_ + 1)) (lv' := [(4, .int (x4_ + 1)), (3, .int r4), (0, .ref (aM 0)), (1, .int p1), (2, .int x2_)]) hx hb dX12_told_167 hl (k := 4) rfl rfl (by decide) rfl (fun ls hl => ?_)
              refine lv_goto (tgt := 123) hx hb dX12_told_170 (by decide) ?_
              exact ih123 r4 (x4_ + 1) ma_3 _ _ _ h hP hD hS (lv_sub hl [2, 3, 4, 1, 0] rfl)
      intro x2_ ma H locs ls h hP hD hS hl
      refine lv_iload_n hx hb dX12_told_108 rfl (lv_at hl 2 rfl) ?_
      refine lv_aload_n hx hb dX12_told_109 rfl (lv_at hl 0 rfl) ?_
      refine va_get (D := D) (ci := 12) (v := .ref (aM 2)) (C := RX12) (T := TX12) (N := 51) hx hb hw inW_X12 hown hK hP 0 rfl rfl 2 (by decide) (hw _ mw_6_45) (fun _ h9 => h9) rfl dX12_told_110 ?_
      refine lv_iload_n hx hb dX12_told_113 rfl (lv_at hl 1 rfl) ?_
      refine cIald hx hb hK hP 2 0 rfl rfl p1.toNatClampNeg rfl h.1 dX12_told_114 ?_
      have h := h.2
      refine lv_icmp_ge (tgt := 179) hx hb dX12_told_115 (by decide) (fun c7 => ?_) (fun c7 => ?_)
      · have h := h.1 c7
        exact N179 ms ma _ _ _ h hP hD hS (lv_sub hl [0] rfl)
      · have h := h.2 c7
        refine lv_iconst (v := 0) hx hb dX12_told_118 (by decide) ?_
        refine lv_istore_n (lv' := [(3, .int 0), (0, .ref (aM 0)), (1, .int p1), (2, .int x2_)]) hx hb dX12_told_119 rfl hl (by decide) rfl (fun ls hl => ?_)
        refine lv_iconst (v := 0) hx hb dX12_told_120 (by decide) ?_
        refine lv_istore (lv' := [(4, .int 0), (3, .int 0), (0, .ref (aM 0)), (1, .int p1), (2, .int x2_)]) hx hb dX12_told_121 hl (by decide) rfl (fun ls hl => ?_)
        obtain ⟨n, h⟩ := h
        exact N123 x2_ n 0 0 ma _ _ _ h hP hD hS (lv_sub hl [2, 3, 4, 1, 0] rfl)
  have N102 : ∀ (ms : Nat → Int32) (ma : Nat → Nat → Int32) (H : Heap) (locs : List Loc) (ls : Array Slot), P_X12_told_102 ml p1 post  ms ma → va_P D vwCl (List.flatten (wM aM C ms mw ma ml)) H → va_D A (List.flatten (wM aM C ms mw ma ml)) → va_S A s.heap H locs → lv_has ls 5 [(0, .ref (aM 0)), (1, .int p1)] → W p l e rmX12_told s m args below meth c H locs 0 0 Q (F0 m 102 ls []) := by
    intro ms ma H locs ls h hP hD hS hl
    refine lv_aload_n hx hb dX12_told_102 rfl (lv_at hl 0 rfl) ?_
    refine cGoV (wo := fun u => wM aM C u.1 mw u.2 ml) (cRunV (As := []) (rest := []) ⟨hx, hb, hml, hown, hw⟩ hK hN hP hD [0, 1, 2, 3, 4, 5, 6, 7, 8, 9, 10, 11, 12, 13, 14, 15, 16, 17, 18, 19, 20, 21, 22, 23, 24, 25, 26, 27, 28, 29, 30, 31, 32] rfl rfl (k_X12_newYear l D C _ aM  ms mw ma ml  h) (cwV 0 hw (goodV mw_9_51 mw_9_53 mw_s180 mw_1_13 mw_9_54) rfl rfl rfl (by decide +kernel) ⟨Nat.le_of_ble_eq_true rfl, Nat.le_of_ble_eq_true rfl⟩) rfl rfl rfl hl.1 rfl (Nat.le_of_ble_eq_true rfl) dX12_told_103 ⟨Nat.zero_le _, Nat.zero_le _⟩) hP hD hS hA [0, 1, 2, 3, 4, 5, 6, 7, 8, 9, 10, 11, 12, 13, 14, 15, 16, 17, 18, 19, 20, 21, 22, 23, 24, 25, 26, 27, 28, 29, 30, 31, 32] [] [0, 1, 2, 3, 4, 5, 6, 7, 8, 9, 10, 11, 12, 13, 14, 15, 16, 17, 18, 19, 20, 21, 22, 23, 24, 25, 26, 27, 28, 29, 30, 31, 32] rfl rfl rfl (by decide) rfl (fun _ => rfl) (fun u H locs h hP hD hS => ?_)
    obtain ⟨ms_8, ma_9⟩ := u
    have hP : va_P D vwCl (List.flatten (wM aM C ms_8 mw ma_9 ml)) H := hP
    have hD : va_D A (List.flatten (wM aM C ms_8 mw ma_9 ml)) := hD
    refine lv_iconst (v := 0) hx hb dX12_told_106 (by decide) ?_
    refine lv_istore_n (lv' := [(2, .int 0), (0, .ref (aM 0)), (1, .int p1)]) hx hb dX12_told_107 rfl hl (by decide) rfl (fun ls hl => ?_)
    obtain ⟨n, h⟩ := h
    exact N108 ms_8 n 0 ma_9 _ _ _ h hP hD hS (lv_sub hl [1, 2, 0] rfl)
  have N55 : ∀ (ms : Nat → Int32) (ma : Nat → Nat → Int32) (n55 : Nat) (x2_ : Int32) (H : Heap) (locs : List Loc) (ls : Array Slot), P_X12_told_55 ml p1 post (fun (ms : Nat → Int32) (ma : Nat → Nat → Int32) => P_X12_told_102 ml p1 post  ms ma) ms ma n55 x2_ → va_P D vwCl (List.flatten (wM aM C ms mw ma ml)) H → va_D A (List.flatten (wM aM C ms mw ma ml)) → va_S A s.heap H locs → lv_has ls 5 [(0, .ref (aM 0)), (1, .int p1), (2, .int x2_)] → W p l e rmX12_told s m args below meth c H locs 0 0 Q (F0 m 55 ls []) := by
    intro ms ma
    intro n55
    induction n55 with
    | zero => intro x2_ H locs ls h hP hD hS hl; exact False.elim h
    | succ n55 ih55 =>
      intro x2_ H locs ls h hP hD hS hl
      refine lv_iload_n hx hb dX12_told_55 rfl (lv_at hl 2 rfl) ?_
      refine lv_aload_n hx hb dX12_told_56 rfl (lv_at hl 0 rfl) ?_
      refine va_get (D := D) (ci := 12) (v := .ref (aM 2)) (C := RX12) (T := TX12) (N := 51) hx hb hw inW_X12 hown hK hP 0 rfl rfl 2 (by decide) (hw _ mw_6_45) (fun _ h9 => h9) rfl dX12_told_57 ?_
      refine lv_iload_n hx hb dX12_told_60 rfl (lv_at hl 1 rfl) ?_
      refine cIald hx hb hK hP 2 0 rfl rfl p1.toNatClampNeg rfl h.1 dX12_told_61 ?_
      have h := h.2
      refine lv_icmp_ge (tgt := 102) hx hb dX12_told_62 (by decide) (fun c10 => ?_) (fun c10 => ?_)
      · have h := h.1 c10
        exact N102 ms ma _ _ _ h hP hD hS (lv_sub hl [0, 1] rfl)
      · have h := h.2 c10
        refine lv_aload_n hx hb dX12_told_65 rfl (lv_at hl 0 rfl) ?_
        refine va_get (D := D) (ci := 12) (v := .ref (aM 3)) (C := RX12) (T := TX12) (N := 51) hx hb hw inW_X12 hown hK hP 0 rfl rfl 3 (by decide) (hw _ mw_6_46) (fun _ h9 => h9) rfl dX12_told_66 ?_
        refine lv_bipush (v := 60) hx hb dX12_told_69 (by decide) ?_
        refine lv_iload_n hx hb dX12_told_71 rfl (lv_at hl 1 rfl) ?_
        refine lv_imul hx hb dX12_told_72 ?_
        refine lv_iload_n hx hb dX12_told_73 rfl (lv_at hl 2 rfl) ?_
        refine lv_iadd hx hb dX12_told_74 ?_
        refine cLald hx hb hK hP 3 1 rfl rfl (((60 * p1) + x2_).toNatClampNeg) rfl h.1 dX12_told_75 ?_
        have h := h.2
        refine lv_lconst (v := 0) hx hb dX12_told_76 (by decide) ?_
        refine lv_lconst (v := 1) hx hb dX12_told_77 (by decide) ?_
        refine lv_aload_n hx hb dX12_told_78 rfl (lv_at hl 0 rfl) ?_
        refine va_get (D := D) (ci := 12) (v := .ref (aM 15)) (C := RX12) (T := TX12) (N := 51) hx hb hw inW_X12 hown hK hP 0 rfl rfl 25 (by decide) (hw _ mw_6_68) (fun _ h9 => h9) rfl dX12_told_79 ?_
        refine lv_iconst (v := 0) hx hb dX12_told_82 (by decide) ?_
        refine cIald hx hb hK hP 15 0 rfl rfl 0 (by decide +kernel) (cIn (by decide +kernel)) dX12_told_83 ?_
        refine lv_lshl hx hb dX12_told_84 rfl ?_
        refine lv_lconst (v := 1) hx hb dX12_told_85 (by decide) ?_
        refine lv_lsub hx hb dX12_told_86 ?_
        refine cGoI (wo := fun u => wM aM C ms mw ma ml) (cRunS (As := [.long (ml 0 (((60 * p1) + x2_).toNatClampNeg)), .long 0, .long (((1 : Int64) <<< ((ma 12 0).toInt64 &&& 63)) - 1)]) (rest := []) ⟨hx, hb, hml, hown, hw⟩ hK hN hP hD [] rfl rfl (k_X12_in l D C _    (ml 0 (((60 * p1) + x2_).toNatClampNeg)) 0 (((1 : Int64) <<< ((ma 12 0).toInt64 &&& 63)) - 1) h) (va_cwS 3 hw (goodS mw_6_205 mw_6_206 mw_1_13 mw_6_207) rfl rfl rfl (by decide +kernel) ⟨Nat.le_of_ble_eq_true rfl, Nat.le_of_ble_eq_true rfl⟩) rfl hl.1 rfl (Nat.le_of_ble_eq_true rfl) dX12_told_87 ⟨Nat.zero_le _, Nat.zero_le _⟩) hP hD hS hA [] [0, 1, 2, 3, 4, 5, 6, 7, 8, 9, 10, 11, 12, 13, 14, 15, 16, 17, 18, 19, 20, 21, 22, 23, 24, 25, 26, 27, 28, 29, 30, 31, 32] [0, 1, 2, 3, 4, 5, 6, 7, 8, 9, 10, 11, 12, 13, 14, 15, 16, 17, 18, 19, 20, 21, 22, 23, 24, 25, 26, 27, 28, 29, 30, 31, 32] rfl rfl rfl (by decide) rfl (fun _ => rfl) (fun r11 u H locs h hP hD hS => ?_)
        have hP : va_P D vwCl (List.flatten (wM aM C ms mw ma ml)) H := hP
        have hD : va_D A (List.flatten (wM aM C ms mw ma ml)) := hD
        refine lv_if_ne (tgt := 96) hx hb dX12_told_90 (by decide) (fun c12 => ?_) (fun c12 => ?_)
        · have h := h.1 c12
          refine lv_iinc (v := (x2_ + 1)) (lv' := [(2, .int (x2_ + 1)), (0, .ref (aM 0)), (1, .int p1)]) hx hb dX12_told_96 hl (k := 2) rfl rfl (by decide) rfl (fun ls hl => ?_)
          refine lv_goto (tgt := 55) hx hb dX12_told_99 (by decide) ?_
          exact ih55 (x2_ + 1) _ _ _ h hP hD hS (lv_sub hl [1, 2, 0] rfl)
        · have h := h.2 c12
          refine lv_bipush (v := (-2)) hx hb dX12_told_93 (by decide) ?_
          rw [← hQ]
          exact cRetI (v := (-2)) (ms, ma) hx hb hr hlocks hS hP hD h dX12_told_95
  refine lv_aload_n hx hb dX12_told_0 rfl (lv_at hl 0 rfl) ?_
  refine lv_iconst (v := 0) hx hb dX12_told_1 (by decide) ?_
  refine va_put (D := D) (ci := 12) (v := .int 0) (ty := .int) (C := RX12) (T := TX12) (N := 51) hx hb hw inW_X12 tyX12 tyX12_ok nmX12 hown hK hP hD hS 0 rfl rfl 0 (by decide) (hw _ mw_6_43) (fun _ h9 => h9) rfl (by decide +kernel) rfl rfl (Nat.le_of_ble_eq_true rfl) dX12_told_2 (fun H locs hP hD hS => ?_)
  refine lv_iload_n hx hb dX12_told_5 rfl (lv_at hl 1 rfl) ?_
  have hP : va_P D vwCl (List.flatten (wM aM C (va_up ms 0 0) mw ma ml)) H := hP
  have hD : va_D A (List.flatten (wM aM C (va_up ms 0 0) mw ma ml)) := hD
  refine cGoI (wo := fun u => wM aM C (va_up ms 0 0) mw ma ml) (cRunS (As := [.int p1]) (rest := []) ⟨hx, hb, hml, hown, hw⟩ hK hN hP hD [] rfl rfl (k_X12_isSlot l D C _    p1 h) (va_cwS 1 hw (goodS mw_6_201 mw_6_202 mw_1_13 mw_6_203) rfl rfl rfl (by decide +kernel) ⟨Nat.le_of_ble_eq_true rfl, Nat.le_of_ble_eq_true rfl⟩) rfl hl.1 rfl (Nat.le_of_ble_eq_true rfl) dX12_told_6 ⟨Nat.zero_le _, Nat.zero_le _⟩) hP hD hS hA [] [0, 1, 2, 3, 4, 5, 6, 7, 8, 9, 10, 11, 12, 13, 14, 15, 16, 17, 18, 19, 20, 21, 22, 23, 24, 25, 26, 27, 28, 29, 30, 31, 32] [0, 1, 2, 3, 4, 5, 6, 7, 8, 9, 10, 11, 12, 13, 14, 15, 16, 17, 18, 19, 20, 21, 22, 23, 24, 25, 26, 27, 28, 29, 30, 31, 32] rfl rfl rfl (by decide) rfl (fun _ => rfl) (fun r13 u H locs h hP hD hS => ?_)
  have hP : va_P D vwCl (List.flatten (wM aM C (va_up ms 0 0) mw ma ml)) H := hP
  have hD : va_D A (List.flatten (wM aM C (va_up ms 0 0) mw ma ml)) := hD
  refine lv_if_eq (tgt := 19) hx hb dX12_told_9 (by decide) (fun c14 => ?_) (fun c14 => ?_)
  · have h := h.1 c14
    refine lv_bipush (v := (-2)) hx hb dX12_told_19 (by decide) ?_
    rw [← hQ]
    exact cRetI (v := (-2)) ((va_up ms 0 0), ma) hx hb hr hlocks hS hP hD h dX12_told_21
  · have h := h.2 c14
    refine lv_aload_n hx hb dX12_told_12 rfl (lv_at hl 0 rfl) ?_
    refine cGoI (wo := fun u => wM aM C (va_up ms 0 0) mw ma ml) (cRunV (As := []) (rest := []) ⟨hx, hb, hml, hown, hw⟩ hK hN hP hD [0, 1, 2, 3, 4, 5, 6, 7, 8, 9, 10, 11, 12, 13, 14, 15, 16, 17, 18, 19, 20, 21, 22, 23, 24, 25, 26, 27, 28, 29, 30, 31, 32] rfl rfl (k_X12_isRail l D C _ aM  (va_up ms 0 0) mw ma ml  h) (cwV 0 hw (goodV mw_7_204 mw_7_206 mw_s142 mw_1_13 mw_7_207) rfl rfl rfl (by decide +kernel) ⟨Nat.le_of_ble_eq_true rfl, Nat.le_of_ble_eq_true rfl⟩) rfl rfl rfl hl.1 rfl (Nat.le_of_ble_eq_true rfl) dX12_told_13 ⟨Nat.zero_le _, Nat.zero_le _⟩) hP hD hS hA [0, 1, 2, 3, 4, 5, 6, 7, 8, 9, 10, 11, 12, 13, 14, 15, 16, 17, 18, 19, 20, 21, 22, 23, 24, 25, 26, 27, 28, 29, 30, 31, 32] [] [0, 1, 2, 3, 4, 5, 6, 7, 8, 9, 10, 11, 12, 13, 14, 15, 16, 17, 18, 19, 20, 21, 22, 23, 24, 25, 26, 27, 28, 29, 30, 31, 32] rfl rfl rfl (by decide) rfl (fun _ => rfl) (fun r15 u H locs h hP hD hS => ?_)
    have hP : va_P D vwCl (List.flatten (wM aM C (va_up ms 0 0) mw ma ml)) H := hP
    have hD : va_D A (List.flatten (wM aM C (va_up ms 0 0) mw ma ml)) := hD
    refine lv_if_ne (tgt := 22) hx hb dX12_told_16 (by decide) (fun c16 => ?_) (fun c16 => ?_)
    · have h := h.1 c16
      refine lv_aload_n hx hb dX12_told_22 rfl (lv_at hl 0 rfl) ?_
      refine va_get (D := D) (ci := 12) (v := .ref (aM 1)) (C := RX12) (T := TX12) (N := 51) hx hb hw inW_X12 hown hK hP 0 rfl rfl 1 (by decide) (hw _ mw_6_44) (fun _ h9 => h9) rfl dX12_told_23 ?_
      refine lv_iload_n hx hb dX12_told_26 rfl (lv_at hl 1 rfl) ?_
      refine cIald hx hb hK hP 1 0 rfl rfl p1.toNatClampNeg rfl h.1 dX12_told_27 ?_
      have h := h.2
      refine lv_iconst (v := (-1)) hx hb dX12_told_28 (by decide) ?_
      refine lv_icmp_ne (tgt := 35) hx hb dX12_told_29 (by decide) (fun c17 => ?_) (fun c17 => ?_)
      · have h := h.1 c17
        refine lv_aload_n hx hb dX12_told_35 rfl (lv_at hl 0 rfl) ?_
        refine va_get (D := D) (ci := 12) (v := .ref (aM 2)) (C := RX12) (T := TX12) (N := 51) hx hb hw inW_X12 hown hK hP 0 rfl rfl 2 (by decide) (hw _ mw_6_45) (fun _ h9 => h9) rfl dX12_told_36 ?_
        refine lv_iload_n hx hb dX12_told_39 rfl (lv_at hl 1 rfl) ?_
        refine cIald hx hb hK hP 2 0 rfl rfl p1.toNatClampNeg rfl h.1 dX12_told_40 ?_
        have h := h.2
        refine lv_aload_n hx hb dX12_told_41 rfl (lv_at hl 0 rfl) ?_
        refine va_get (D := D) (ci := 12) (v := .ref (aM 8)) (C := RX12) (T := TX12) (N := 51) hx hb hw inW_X12 hown hK hP 0 rfl rfl 18 (by decide) (hw _ mw_6_61) (fun _ h9 => h9) rfl dX12_told_42 ?_
        refine lv_iconst (v := 0) hx hb dX12_told_45 (by decide) ?_
        refine cIald hx hb hK hP 8 0 rfl rfl 0 (by decide +kernel) (cIn (by decide +kernel)) dX12_told_46 ?_
        refine lv_icmp_le (tgt := 53) hx hb dX12_told_47 (by decide) (fun c18 => ?_) (fun c18 => ?_)
        · have h := h.1 c18
          refine lv_iconst (v := 0) hx hb dX12_told_53 (by decide) ?_
          refine lv_istore_n (lv' := [(2, .int 0), (0, .ref (aM 0)), (1, .int p1)]) hx hb dX12_told_54 rfl hl (by decide) rfl (fun ls hl => ?_)
          obtain ⟨n, h⟩ := h
          exact N55 (va_up ms 0 0) ma n 0 _ _ _ h hP hD hS (lv_sub hl [1, 2, 0] rfl)
        · have h := h.2 c18
          refine lv_bipush (v := (-2)) hx hb dX12_told_50 (by decide) ?_
          rw [← hQ]
          exact cRetI (v := (-2)) ((va_up ms 0 0), ma) hx hb hr hlocks hS hP hD h dX12_told_52
      · have h := h.2 c17
        refine lv_bipush (v := (-6)) hx hb dX12_told_32 (by decide) ?_
        rw [← hQ]
        exact cRetI (v := (-6)) ((va_up ms 0 0), ma) hx hb hr hlocks hS hP hD h dX12_told_34
    · have h := h.2 c16
      refine lv_bipush (v := (-2)) hx hb dX12_told_19 (by decide) ?_
      rw [← hQ]
      exact cRetI (v := (-2)) ((va_up ms 0 0), ma) hx hb hr hlocks hS hP hD h dX12_told_21
