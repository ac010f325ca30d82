abbrev vsX12_restless : List Cond := Cond.code yX12_restless cX12_restless 3 (some .int) :: WS
abbrev rmX12_restless : Room := { frames := 8, cells := 0, slots := 0, locals := 190 }
set_option maxHeartbeats 4000000 in
set_option maxRecDepth 100000 in
theorem k_X12_restless (l : Launch) (D : va_G) (C : Nat → ClassId) (sz : Nat) (aM : Nat → Nat)  (ms : Nat → Int32) (mw : Nat → Int64) (ma : Nat → Nat → Int32) (ml : Nat → Nat → Int64)  {post : Int32 → (Nat → Int32) → (Nat → Int64) → (Nat → Nat → Int32) → (Nat → Nat → Int64) → Prop} (h : P_X12_restless ms mw ma ml post) : Met l yX12_restless vsX12_restless rmX12_restless (cPre D C [.ref (aM 0)] sz (wM aM C ms mw ma ml)) (cQi D (fun (r : Int32) (u : (Nat → Int32) × (Nat → Int64) × (Nat → Nat → Int32) × (Nat → Nat → Int64)) => post r u.1 u.2.1 u.2.2.1 u.2.2.2) (fun u => wM aM C u.1 u.2.1 u.2.2.1 u.2.2.2) (va_A (List.flatten (wM aM C ms mw ma ml)) sz)) 0 0 (va_A (List.flatten (wM aM C ms mw ma ml)) sz) := by
  refine cStart (QA := fun A => cQi D (fun (r : Int32) (u : (Nat → Int32) × (Nat → Int64) × (Nat → Nat → Int32) × (Nat → Nat → Int64)) => post r u.1 u.2.1 u.2.2.1 u.2.2.2) (fun u => wM aM C u.1 u.2.1 u.2.2.1 u.2.2.2) A) (cc := cX12_restless) (maxL := 3) (ret := (some .int)) (by decide) (Nat.le_of_ble_eq_true rfl) ?_
  intro p e s m args below meth c A ls hx hb hr hml hown hw hlocks hname hK hN hA hP hD hS hl
  generalize hQ : MQ below _ args s 0 0 A = Q
  have hl : lv_has ls 3 [(0, .ref (aM 0))] := hl
  obtain ⟨H, hH⟩ : ∃ H, H = s.heap := ⟨_, rfl⟩
  obtain ⟨locs, hlo⟩ : ∃ z : List Loc, z = [] := ⟨_, rfl⟩
  have hP : va_P D vwCl (List.flatten (wM aM C ms mw ma ml)) H := by rw [hH]; exact hP
  have hS : va_S A s.heap H locs := by rw [hH, hlo]; exact hS
  rw [show W p l e rmX12_restless s m args below meth c s.heap [] 0 0 Q (F0 m 0 ls []) = W p l e rmX12_restless s m args below meth c H locs 0 0 Q (F0 m 0 ls []) from by rw [hH, hlo]]
  have N19 : ∀  (n19 : Nat) (x1_ : Int32) (x2_ : Int32) (ms : Nat → Int32) (mw : Nat → Int64) (ma : Nat → Nat → Int32) (ml : Nat → Nat → Int64) (H : Heap) (locs : List Loc) (ls : Array Slot), P_X12_restless_19  post   n19 x1_ x2_ ms mw ma ml → va_P D vwCl (List.flatten (wM aM C ms mw ma ml)) H → va_D A (List.flatten (wM aM C ms mw ma ml)) → va_S A s.heap H locs → lv_has ls 3 [(0, .ref (aM 0)), (1, .int x1_), (2, .int x2_)] → W p l e rmX12_restless s m args below meth c H locs 0 0 Q (F0 m 19 ls []) := by
    intro n19
    induction n19 with
    | zero => intro x1_ x2_ ms mw ma ml H locs ls h hP hD hS hl; exact False.elim h
    | succ n19 ih19 =>
      intro x1_ x2_ ms mw ma ml H locs ls h hP hD hS hl
      refine lv_iload_n hx hb dX12_restless_19 rfl (lv_at hl 2 rfl) ?_
      refine lv_aload_n hx hb dX12_restless_20 rfl (lv_at hl 0 rfl) ?_
      refine va_get (D := D) (ci := 12) (v := .ref (aM 13)) (C := RX12) (T := TX12) (N := 51) hx hb hw inW_X12 hown hK hP 0 rfl rfl 23 (by decide) (hw _ mw_6_66) (fun _ h9 => h9) rfl dX12_restless_21 ?_
      refine lv_iconst (v := 0) hx hb dX12_restless_24 (by decide) ?_
      refine cIald hx hb hK hP 13 0 rfl rfl 0 (by decide +kernel) (cIn (by decide +kernel)) dX12_restless_25 ?_
      refine lv_icmp_ge (tgt := 62) hx hb dX12_restless_26 (by decide) (fun c1 => ?_) (fun c1 => ?_)
      · have h := h.1 c1
        refine lv_iload_n hx hb dX12_restless_62 rfl (lv_at hl 1 rfl) ?_
        rw [← hQ]
        exact cRetI (v := x1_) (ms, mw, ma, ml) hx hb hr hlocks hS hP hD h dX12_restless_63
      · have h := h.2 c1
        refine lv_aload_n hx hb dX12_restless_29 rfl (lv_at hl 0 rfl) ?_
        refine lv_iload_n hx hb dX12_restless_30 rfl (lv_at hl 2 rfl) ?_
        refine cGoI (wo := fun u => wM aM C u.1 u.2.1 u.2.2.1 u.2.2.2) (cRunV (As := [.int x2_]) (rest := []) ⟨hx, hb, hml, hown, hw⟩ hK hN hP hD [0, 1, 2, 3, 4, 5, 6, 7, 8, 9, 10, 11, 12, 13, 14, 15, 16, 17, 18, 19, 20, 21, 22, 23, 24, 25, 26, 27, 28, 29, 30, 31, 32] rfl rfl (k_X12_bestOf l D C _ aM  ms mw ma ml x2_ h) (cwV 1 hw (goodV mw_8_68 mw_8_70 mw_s158 mw_1_13 mw_8_71) rfl rfl rfl (by decide +kernel) ⟨Nat.le_of_ble_eq_true rfl, Nat.le_of_ble_eq_true rfl⟩) rfl rfl rfl hl.1 rfl (Nat.le_of_ble_eq_true rfl) dX12_restless_31 ⟨Nat.zero_le _, Nat.zero_le _⟩) hP hD hS hA [0, 1, 2, 3, 4, 5, 6, 7, 8, 9, 10, 11, 12, 13, 14, 15, 16, 17, 18, 19, 20, 21, 22, 23, 24, 25, 26, 27, 28, 29, 30, 31, 32] [] [0, 1, 2, 3, 4, 5, 6, 7, 8, 9, 10, 11, 12, 13, 14, 15, 16, 17, 18, 19, 20, 21, 22, 23, 24, 25, 26, 27, 28, 29, 30, 31, 32] rfl rfl rfl (by decide) rfl (fun _ => rfl) (fun r6 u H locs h hP hD hS => ?_)
        obtain ⟨ms_2, mw_3, ma_4, ml_5⟩ := u
        have hP : va_P D vwCl (List.flatten (wM aM C ms_2 mw_3 ma_4 ml_5)) H := hP
        have hD : va_D A (List.flatten (wM aM C ms_2 mw_3 ma_4 ml_5)) := hD
        refine lv_pop hx hb dX12_restless_34 rfl ?_
        refine lv_iload_n hx hb dX12_restless_35 rfl (lv_at hl 1 rfl) ?_
        refine lv_aload_n hx hb dX12_restless_36 rfl (lv_at hl 0 rfl) ?_
        refine va_get (D := D) (ci := 12) (v := .long (mw_3 1)) (C := RX12) (T := TX12) (N := 51) hx hb hw inW_X12 hown hK hP 0 rfl rfl 39 (by decide) (hw _ mw_6_82) (fun _ h9 => h9) rfl dX12_restless_37 ?_
        refine lv_aload_n hx hb dX12_restless_40 rfl (lv_at hl 0 rfl) ?_
        refine lv_iload_n hx hb dX12_restless_41 rfl (lv_at hl 2 rfl) ?_
        refine cGoL (wo := fun u => wM aM C u.1 mw_3 u.2.1 u.2.2) (cRunV (As := [.int x2_]) (rest := [.long (mw_3 1), .int x1_]) ⟨hx, hb, hml, hown, hw⟩ hK hN hP hD [0, 1, 2, 3, 4, 5, 6, 7, 8, 9, 10, 11, 12, 13, 14, 15, 16, 17, 18, 19, 20, 21, 22, 23, 24, 25, 26, 27, 28, 29, 30, 31, 32] rfl rfl (k_X12_costNow l D C _ aM  ms_2 mw_3 ma_4 ml_5 x2_ h) (cwV 1 hw (goodV mw_8_60 mw_8_62 mw_s157 mw_1_13 mw_8_63) rfl rfl rfl (by decide +kernel) ⟨Nat.le_of_ble_eq_true rfl, Nat.le_of_ble_eq_true rfl⟩) rfl rfl rfl hl.1 rfl (Nat.le_of_ble_eq_true rfl) dX12_restless_42 ⟨Nat.zero_le _, Nat.zero_le _⟩) hP hD hS hA [0, 1, 2, 3, 4, 5, 6, 7, 8, 9, 10, 11, 12, 13, 14, 15, 16, 17, 18, 19, 20, 21, 22, 23, 24, 25, 26, 27, 28, 29, 30, 31, 32] [] [0, 1, 2, 3, 4, 5, 6, 7, 8, 9, 10, 11, 12, 13, 14, 15, 16, 17, 18, 19, 20, 21, 22, 23, 24, 25, 26, 27, 28, 29, 30, 31, 32] rfl rfl rfl (by decide) rfl (fun _ => rfl) (fun r10 u H locs h hP hD hS => ?_)
        obtain ⟨ms_7, ma_8, ml_9⟩ := u
        have hP : va_P D vwCl (List.flatten (wM aM C ms_7 mw_3 ma_8 ml_9)) H := hP
        have hD : va_D A (List.flatten (wM aM C ms_7 mw_3 ma_8 ml_9)) := hD
        refine W.lcmp hx hb dX12_restless_45 ?_
        refine lv_if_ge (tgt := 53) hx hb dX12_restless_46 (by decide) (fun c11 => ?_) (fun c11 => ?_)
        · have c11 : r10 ≤ (mw_3 1) := (lg_cmp_ge _ _).mp c11
          have h := h.1 c11
          refine lv_iconst (v := 0) hx hb dX12_restless_53 (by decide) ?_
          refine lv_iadd hx hb dX12_restless_54 ?_
          refine lv_topi (fun x12 ex12 => ?_)
          have h := h x12 ex12
          refine lv_istore_n (lv' := [(1, .int x12), (0, .ref (aM 0)), (2, .int x2_)]) hx hb dX12_restless_55 rfl hl (by decide) rfl (fun ls hl => ?_)
          refine lv_iinc (v := (x2_ + 1)) (lv' := [(2, .int (x2_ + 1)), (1, .int x12), (0, .ref (aM 0))]) hx hb dX12_restless_56 hl (k := 2) rfl rfl (by decide) rfl (fun ls hl => ?_)
          refine lv_goto (tgt := 19) hx hb dX12_restless_59 (by decide) ?_
          exact ih19 x12 (x2_ + 1) ms_7 mw_3 ma_8 ml_9 _ _ _ h hP hD hS (lv_sub hl [2, 1, 0] rfl)
        · have c11 : ¬ r10 ≤ (mw_3 1) := fun q => c11 ((lg_cmp_ge _ _).mpr q)
          have h := h.2 c11
          refine lv_iconst (v := 1) hx hb dX12_restless_49 (by decide) ?_
          refine lv_goto (tgt := 54) hx hb dX12_restless_50 (by decide) ?_
          refine lv_iadd hx hb dX12_restless_54 ?_
          refine lv_topi (fun x13 ex13 => ?_)
          have h := h x13 ex13
          refine lv_istore_n (lv' := [(1, .int x13), (0, .ref (aM 0)), (2, .int x2_)]) hx hb dX12_restless_55 rfl hl (by decide) rfl (fun ls hl => ?_)
          refine lv_iinc (v := (x2_ + 1)) (lv' := [(2, .int (x2_ + 1)), (1, .int x13), (0, .ref (aM 0))]) hx hb dX12_restless_56 hl (k := 2) rfl rfl (by decide) rfl (fun ls hl => ?_)
          refine lv_goto (tgt := 19) hx hb dX12_restless_59 (by decide) ?_
          exact ih19 x13 (x2_ + 1) ms_7 mw_3 ma_8 ml_9 _ _ _ h hP hD hS (lv_sub hl [2, 1, 0] rfl)
  refine lv_aload_n hx hb dX12_restless_0 rfl (lv_at hl 0 rfl) ?_
  refine lv_iconst (v := 0) hx hb dX12_restless_1 (by decide) ?_
  refine va_put (D := D) (ci := 12) (v := .int 0) (ty := .int) (C := RX12) (T := TX12) (N := 51) hx hb hw inW_X12 tyX12 tyX12_ok nmX12 hown hK hP hD hS 0 rfl rfl 0 (by decide) (hw _ mw_6_43) (fun _ h9 => h9) rfl (by decide +kernel) rfl rfl (Nat.le_of_ble_eq_true rfl) dX12_restless_2 (fun H locs hP hD hS => ?_)
  refine lv_aload_n hx hb dX12_restless_5 rfl (lv_at hl 0 rfl) ?_
  have hP : va_P D vwCl (List.flatten (wM aM C (va_up ms 0 0) mw ma ml)) H := hP
  have hD : va_D A (List.flatten (wM aM C (va_up ms 0 0) mw ma ml)) := hD
  refine cGoI (wo := fun u => wM aM C (va_up ms 0 0) mw ma ml) (cRunV (As := []) (rest := []) ⟨hx, hb, hml, hown, hw⟩ hK hN hP hD [0, 1, 2, 3, 4, 5, 6, 7, 8, 9, 10, 11, 12, 13, 14, 15, 16, 17, 18, 19, 20, 21, 22, 23, 24, 25, 26, 27, 28, 29, 30, 31, 32] rfl rfl (k_X12_isRail l D C _ aM  (va_up ms 0 0) mw ma ml  h) (cwV 0 hw (goodV mw_7_204 mw_7_206 mw_s142 mw_1_13 mw_7_207) rfl rfl rfl (by decide +kernel) ⟨Nat.le_of_ble_eq_true rfl, Nat.le_of_ble_eq_true rfl⟩) rfl rfl rfl hl.1 rfl (Nat.le_of_ble_eq_true rfl) dX12_restless_6 ⟨Nat.zero_le _, Nat.zero_le _⟩) hP hD hS hA [0, 1, 2, 3, 4, 5, 6, 7, 8, 9, 10, 11, 12, 13, 14, 15, 16, 17, 18, 19, 20, 21, 22, 23, 24, 25, 26, 27, 28, 29, 30, 31, 32] [] [0, 1, 2, 3, 4, 5, 6, 7, 8, 9, 10, 11, 12, 13, 14, 15, 16, 17, 18, 19, 20, 21, 22, 23, 24, 25, 26, 27, 28, 29, 30, 31, 32] rfl rfl rfl (by decide) rfl (fun _ => rfl) (fun r14 u H locs h hP hD hS => ?_)
  have hP : va_P D vwCl (List.flatten (wM aM C (va_up ms 0 0) mw ma ml)) H := hP
  have hD : va_D A (List.flatten (wM aM C (va_up ms 0 0) mw ma ml)) := hD
  refine lv_if_ne (tgt := 15) hx hb dX12_restless_9 (by decide) (fun c15 => ?_) (fun c15 => ?_)
  · have h := h.1 c15
    refine lv_iconst (v := 0) hx hb dX12_restless_15 (by decide) ?_
    refine lv_istore_n (lv' := [(1, .int 0), (0, .ref (aM 0))]) hx hb dX12_restless_16 rfl hl (by decide) rfl (fun ls hl => ?_)
    refine lv_iconst (v := 0) hx hb dX12_restless_17 (by decide) ?_
    refine lv_istore_n (lv' := [(2, .int 0), (1, .int 0), (0, .ref (aM 0))]) hx hb dX12_restless_18 rfl hl (by decide) rfl (fun ls hl => ?_)
    obtain ⟨n, h⟩ := h
    exact N19  n 0 0 (va_up ms 0 0) mw ma ml _ _ _ h hP hD hS (lv_sub hl [2, 1, 0] rfl)
  · have h := h.2 c15
    refine lv_bipush (v := (-2)) hx hb dX12_restless_12 (by decide) ?_
    rw [← hQ]
    exact cRetI (v := (-2)) ((va_up ms 0 0), mw, ma, ml) hx hb hr hlocks hS hP hD h dX12_restless_14
abbrev vsX12_round : List Cond := Cond.code yX12_round cX12_round 4 (some .boolean) :: WS
abbrev rmX12_round : Room := { frames := 8, cells := 0, slots := 0, locals := 190 }
set_option maxHeartbeats 4000000 in
set_option maxRecDepth 100000 in
theorem k_X12_round (l : Launch) (D : va_G) (C : Nat → ClassId) (sz : Nat) (aM : Nat → Nat)  (ms : Nat → Int32) (mw : Nat → Int64) (ma : Nat → Nat → Int32) (ml : Nat → Nat → Int64)  {post : Int32 → (Nat → Int32) → (Nat → Int64) → (Nat → Nat → Int32) → (Nat → Nat → Int64) → Prop} (h : P_X12_round ms mw ma ml post) : Met l yX12_round vsX12_round rmX12_round (cPre D C [.ref (aM 0)] sz (wM aM C ms mw ma ml)) (cQi D (fun (r : Int32) (u : (Nat → Int32) × (Nat → Int64) × (Nat → Nat → Int32) × (Nat → Nat → Int64)) => post r u.1 u.2.1 u.2.2.1 u.2.2.2) (fun u => wM aM C u.1 u.2.1 u.2.2.1 u.2.2.2) (va_A (List.flatten (wM aM C ms mw ma ml)) sz)) 0 0 (va_A (List.flatten (wM aM C ms mw ma ml)) sz) := by
  refine cStart (QA := fun A => cQi D (fun (r : Int32) (u : (Nat → Int32) × (Nat → Int64) × (Nat → Nat → Int32) × (Nat → Nat → Int64)) => post r u.1 u.2.1 u.2.2.1 u.2.2.2) (fun u => wM aM C u.1 u.2.1 u.2.2.1 u.2.2.2) A) (cc := cX12_round) (maxL := 4) (ret := (some .boolean)) (by decide) (Nat.le_of_ble_eq_true rfl) ?_
  intro p e s m args below meth c A ls hx hb hr hml hown hw hlocks hname hK hN hA hP hD hS hl
  generalize hQ : MQ below _ args s 0 0 A = Q
  have hl : lv_has ls 4 [(0, .ref (aM 0))] := hl
  obtain ⟨H, hH⟩ : ∃ H, H = s.heap := ⟨_, rfl⟩
  obtain ⟨locs, hlo⟩ : ∃ z : List Loc, z = [] := ⟨_, rfl⟩
  have hP : va_P D vwCl (List.flatten (wM aM C ms mw ma ml)) H := by rw [hH]; exact hP
  have hS : va_S A s.heap H locs := by rw [hH, hlo]; exact hS
  rw [show W p l e rmX12_round s m args below meth c s.heap [] 0 0 Q (F0 m 0 ls []) = W p l e rmX12_round s m args below meth c H locs 0 0 Q (F0 m 0 ls []) from by rw [hH, hlo]]
  have N4 : ∀  (n4 : Nat) (x1_ : Int32) (x2_ : Int32) (ms : Nat → Int32) (mw : Nat → Int64) (ma : Nat → Nat → Int32) (ml : Nat → Nat → Int64) (H : Heap) (locs : List Loc) (ls : Array Slot), P_X12_round_4  post   n4 x1_ x2_ ms mw ma ml → va_P D vwCl (List.flatten (wM aM C ms mw ma ml)) H → va_D A (List.flatten (wM aM C ms mw ma ml)) → va_S A s.heap H locs → lv_has ls 4 [(0, .ref (aM 0)), (1, .int x1_), (2, .int x2_)] → W p l e rmX12_round s m args below meth c H locs 0 0 Q (F0 m 4 ls []) := by
    intro n4
    induction n4 with
    | zero => intro x1_ x2_ ms mw ma ml H locs ls h hP hD hS hl; exact False.elim h
    | succ n4 ih4 =>
      intro x1_ x2_ ms mw ma ml H locs ls h hP hD hS hl
      refine lv_iload_n hx hb dX12_round_4 rfl (lv_at hl 2 rfl) ?_
      refine lv_aload_n hx hb dX12_round_5 rfl (lv_at hl 0 rfl) ?_
      refine va_get (D := D) (ci := 12) (v := .ref (aM 13)) (C := RX12) (T := TX12) (N := 51) hx hb hw inW_X12 hown hK hP 0 rfl rfl 23 (by decide) (hw _ mw_6_66) (fun _ h9 => h9) rfl dX12_round_6 ?_
      refine lv_iconst (v := 0) hx hb dX12_round_9 (by decide) ?_
      refine cIald hx hb hK hP 13 0 rfl rfl 0 (by decide +kernel) (cIn (by decide +kernel)) dX12_round_10 ?_
      refine lv_icmp_ge (tgt := 50) hx hb dX12_round_11 (by decide) (fun c1 => ?_) (fun c1 => ?_)
      · have h := h.1 c1
        refine lv_iload_n hx hb dX12_round_50 rfl (lv_at hl 1 rfl) ?_
        rw [← hQ]
        exact cRetZ (v := x1_) (ms, mw, ma, ml) hx hb hr hlocks hS hP hD h.1 h.2 dX12_round_51
      · have h := h.2 c1
        refine lv_aload_n hx hb dX12_round_14 rfl (lv_at hl 0 rfl) ?_
        refine lv_iload_n hx hb dX12_round_15 rfl (lv_at hl 2 rfl) ?_
        refine cGoI (wo := fun u => wM aM C u.1 u.2.1 u.2.2.1 u.2.2.2) (cRunV (As := [.int x2_]) (rest := []) ⟨hx, hb, hml, hown, hw⟩ hK hN hP hD [0, 1, 2, 3, 4, 5, 6, 7, 8, 9, 10, 11, 12, 13, 14, 15, 16, 17, 18, 19, 20, 21, 22, 23, 24, 25, 26, 27, 28, 29, 30, 31, 32] rfl rfl (k_X12_bestOf l D C _ aM  ms mw ma ml x2_ h) (cwV 1 hw (goodV mw_8_68 mw_8_70 mw_s158 mw_1_13 mw_8_71) rfl rfl rfl (by decide +kernel) ⟨Nat.le_of_ble_eq_true rfl, Nat.le_of_ble_eq_true rfl⟩) rfl rfl rfl hl.1 rfl (Nat.le_of_ble_eq_true rfl) dX12_round_16 ⟨Nat.zero_le _, Nat.zero_le _⟩) hP hD hS hA [0, 1, 2, 3, 4, 5, 6, 7, 8, 9, 10, 11, 12, 13, 14, 15, 16, 17, 18, 19, 20, 21, 22, 23, 24, 25, 26, 27, 28, 29, 30, 31, 32] [] [0, 1, 2, 3, 4, 5, 6, 7, 8, 9, 10, 11, 12, 13, 14, 15, 16, 17, 18, 19, 20, 21, 22, 23, 24, 25, 26, 27, 28, 29, 30, 31, 32] rfl rfl rfl (by decide) rfl (fun _ => rfl) (fun r6 u H locs h hP hD hS => ?_)
        obtain ⟨ms_2, mw_3, ma_4, ml_5⟩ := u
        have hP : va_P D vwCl (List.flatten (wM aM C ms_2 mw_3 ma_4 ml_5)) H := hP
        have hD : va_D A (List.flatten (wM aM C ms_2 mw_3 ma_4 ml_5)) := hD
        refine lv_istore_n (lv' := [(3, .int r6), (0, .ref (aM 0)), (1, .int x1_), (2, .int x2_)]) hx hb dX12_round_19 rfl hl (by decide) rfl (fun ls hl => ?_)
        refine lv_aload_n hx hb dX12_round_20 rfl (lv_at hl 1 rfl) ?_
        refine va_get (D := D) (ci := 12) (v := .long (mw_3 1)) (C := RX12) (T := TX12) (N := 51) hx hb hw inW_X12 hown hK hP 0 rfl rfl 39 (by decide) (hw _ mw_6_82) (fun _ h9 => h9) rfl dX12_round_21 ?_
        refine lv_aload_n hx hb dX12_round_24 rfl (lv_at hl 1 rfl) ?_
        refine lv_iload_n hx hb dX12_round_25 rfl (lv_at hl 3 rfl) ?_
        refine cGoL (wo := fun u => wM aM C u.1 mw_3 u.2.1 u.2.2) (cRunV (As := [.int x2_]) (rest := [.long (mw_3 1)]) ⟨hx, hb, hml, hown, hw⟩ hK hN hP hD [0, 1, 2, 3, 4, 5, 6, 7, 8, 9, 10, 11, 12, 13, 14, 15, 16, 17, 18, 19, 20, 21, 22, 23, 24, 25, 26, 27, 28, 29, 30, 31, 32] rfl rfl (k_X12_costNow l D C _ aM  ms_2 mw_3 ma_4 ml_5 x2_ h) (cwV 1 hw (goodV mw_8_60 mw_8_62 mw_s157 mw_1_13 mw_8_63) rfl rfl rfl (by decide +kernel) ⟨Nat.le_of_ble_eq_true rfl, Nat.le_of_ble_eq_true rfl⟩) rfl rfl rfl hl.1 rfl (Nat.le_of_ble_eq_true rfl) dX12_round_26 ⟨Nat.zero_le _, Nat.zero_le _⟩) hP hD hS hA [0, 1, 2, 3, 4, 5, 6, 7, 8, 9, 10, 11, 12, 13, 14, 15, 16, 17, 18, 19, 20, 21, 22, 23, 24, 25, 26, 27, 28, 29, 30, 31, 32] [] [0, 1, 2, 3, 4, 5, 6, 7, 8, 9, 10, 11, 12, 13, 14, 15, 16, 17, 18, 19, 20, 21, 22, 23, 24, 25, 26, 27, 28, 29, 30, 31, 32] rfl rfl rfl (by decide) rfl (fun _ => rfl) (fun r10 u H locs h hP hD hS => ?_)
        obtain ⟨ms_7, ma_8, ml_9⟩ := u
        have hP : va_P D vwCl (List.flatten (wM aM C ms_7 mw_3 ma_8 ml_9)) H := hP
        have hD : va_D A (List.flatten (wM aM C ms_7 mw_3 ma_8 ml_9)) := hD
        refine W.lcmp hx hb dX12_round_29 ?_
        refine lv_if_lt (tgt := 36) hx hb dX12_round_30 (by decide) (fun c11 => ?_) (fun c11 => ?_)
        · have c11 : (mw_3 1) < r10 := (lg_cmp_lt _ _).mp c11
          have h := h.1 c11
          refine lv_aload_n hx hb dX12_round_36 rfl (lv_at hl 1 rfl) ?_
          refine lv_iload_n hx hb dX12_round_37 rfl (lv_at hl 3 rfl) ?_
          refine lv_iload_n hx hb dX12_round_38 rfl (lv_at hl 0 rfl) ?_
          refine cGoV (wo := fun u => wM aM C ms_7 mw_3 u ml_9) (cRunV (As := [.int x2_, .int r6]) (rest := []) ⟨hx, hb, hml, hown, hw⟩ hK hN hP hD [0, 1, 2, 3, 4, 5, 6, 7, 8, 9, 10, 11, 12, 13, 14, 15, 16, 17, 18, 19, 20, 21, 22, 23, 24, 25, 26, 27, 28, 29, 30, 31, 32] rfl rfl (k_X12_hasOption l D C _ aM  ms_7 mw_3 ma_8 ml_9 x2_ r6 h) (cwV 2 hw (goodV mw_8_48 mw_8_50 mw_s155 mw_1_13 mw_8_51) rfl rfl rfl (by decide +kernel) ⟨Nat.le_of_ble_eq_true rfl, Nat.le_of_ble_eq_true rfl⟩) rfl rfl rfl hl.1 rfl (Nat.le_of_ble_eq_true rfl) dX12_round_39 ⟨Nat.zero_le _, Nat.zero_le _⟩) hP hD hS hA [0, 1, 2, 3, 4, 5, 6, 7, 8, 9, 10, 11, 12, 13, 14, 15, 16, 17, 18, 19, 20, 21, 22, 23, 24, 25, 26, 27, 28, 29, 30, 31, 32] [] [0, 1, 2, 3, 4, 5, 6, 7, 8, 9, 10, 11, 12, 13, 14, 15, 16, 17, 18, 19, 20, 21, 22, 23, 24, 25, 26, 27, 28, 29, 30, 31, 32] rfl rfl rfl (by decide) rfl (fun _ => rfl) (fun ma_12 H locs h hP hD hS => ?_)
          have hP : va_P D vwCl (List.flatten (wM aM C ms_7 mw_3 ma_12 ml_9)) H := hP
          have hD : va_D A (List.flatten (wM aM C ms_7 mw_3 ma_12 ml_9)) := hD
          refine lv_iconst (v := 1) hx hb dX12_round_42 (by decide) ?_
          refine lv_istore_n (lv' := [(1, .int 1), (3, .int r6), (0, .ref (aM 0)), (2, .int x2_)]) hx hb dX12_round_43 rfl hl (by decide) rfl (fun ls hl => ?_)
          refine lv_iinc (v := (x2_ + 1)) (lv' := [(2, .int (x2_ + 1)), (1, .int 1), (3, .int r6), (0, .ref (aM 0))]) hx hb dX12_round_44 hl (k := 3) rfl rfl (by decide) rfl (fun ls hl => ?_)
          refine lv_goto (tgt := 4) hx hb dX12_round_47 (by decide) ?_
          exact ih4 1 (x2_ + 1) ms_7 mw_3 ma_12 ml_9 _ _ _ h hP hD hS (lv_sub hl [3, 1, 0] rfl)
        · have c11 : ¬ (mw_3 1) < r10 := fun q => c11 ((lg_cmp_lt _ _).mpr q)
          have h := h.2 c11
          refine lv_goto (tgt := 44) hx hb dX12_round_33 (by decide) ?_
          refine lv_iinc (v := (x2_ + 1)) (lv' := [(2, .int (x2_ + 1)), (3, .int r6), (0, .ref (aM 0)), (1, .int x1_)]) hx hb dX12_round_44 hl (k := 3) rfl rfl (by decide) rfl (fun ls hl => ?_)
          refine lv_goto (tgt := 4) hx hb dX12_round_47 (by decide) ?_
          exact ih4 x1_ (x2_ + 1) ms_7 mw_3 ma_8 ml_9 _ _ _ h hP hD hS (lv_sub hl [2, 3, 0] rfl)
  refine lv_iconst (v := 0) hx hb dX12_round_0 (by decide) ?_
  refine lv_istore_n (lv' := [(1, .int 0), (0, .ref (aM 0))]) hx hb dX12_round_1 rfl hl (by decide) rfl (fun ls hl => ?_)
  refine lv_iconst (v := 0) hx hb dX12_round_2 (by decide) ?_
  refine lv_istore_n (lv' := [(2, .int 0), (1, .int 0), (0, .ref (aM 0))]) hx hb dX12_round_3 rfl hl (by decide) rfl (fun ls hl => ?_)
  obtain ⟨n, h⟩ := h
  exact N4  n 0 0 ms mw ma ml _ _ _ h hP hD hS (lv_sub hl [2, 1, 0] rfl)
abbrev vsX12_laysAside : List Cond := Cond.code yX12_laysAside cX12_laysAside 2 none :: WS
abbrev rmX12_laysAside : Room := { frames := 2, cells := 0, slots := 0, locals := 42 }
set_option maxHeartbeats 4000000 in
set_option maxRecDepth 100000 in
theorem k_X12_laysAside (l : Launch) (D : va_G) (C : Nat → ClassId) (sz : Nat) (aM : Nat → Nat)  (ms : Nat → Int32) (mw : Nat → Int64) (ma : Nat → Nat → Int32) (ml : Nat → Nat → Int64)  {post : (Nat → Nat → Int32) → Prop} (h : P_X12_laysAside ma post) : Met l yX12_laysAside vsX12_laysAside rmX12_laysAside (cPre D C [.ref (aM 0)] sz (wM aM C ms mw ma ml)) (cQv D (fun (u : (Nat → Nat → Int32)) => post u) (fun u => wM aM C ms mw u ml) (va_A (List.flatten (wM aM C ms mw ma ml)) sz)) 0 0 (va_A (List.flatten (wM aM C ms mw ma ml)) sz) := by
  refine cStart (QA := fun A => cQv D (fun (u : (Nat → Nat → Int32)) => post u) (fun u => wM aM C ms mw u ml) A) (cc := cX12_laysAside) (maxL := 2) (ret := none) (by decide) (Nat.le_of_ble_eq_true rfl) ?_
  intro p e s m args below meth c A ls hx hb hr hml hown hw hlocks hname hK hN hA hP hD hS hl
  generalize hQ : MQ below _ args s 0 0 A = Q
  have hl : lv_has ls 2 [(0, .ref (aM 0))] := hl
  obtain ⟨H, hH⟩ : ∃ H, H = s.heap := ⟨_, rfl⟩
  obtain ⟨locs, hlo⟩ : ∃ z : List Loc, z = [] := ⟨_, rfl⟩
  have hP : va_P D vwCl (List.flatten (wM aM C ms mw ma ml)) H := by rw [hH]; exact hP
  have hS : va_S A s.heap H locs := by rw [hH, hlo]; exact hS
  rw [show W p l e rmX12_laysAside s m args below meth c s.heap [] 0 0 Q (F0 m 0 ls []) = W p l e rmX12_laysAside s m args below meth c H locs 0 0 Q (F0 m 0 ls []) from by rw [hH, hlo]]
  have N2 : ∀  (n2 : Nat) (x1_ : Int32) (ma : Nat → Nat → Int32) (H : Heap) (locs : List Loc) (ls : Array Slot), P_X12_laysAside_2  post   n2 x1_ ma → va_P D vwCl (List.flatten (wM aM C ms mw ma ml)) H → va_D A (List.flatten (wM aM C ms mw ma ml)) → va_S A s.heap H locs → lv_has ls 2 [(0, .ref (aM 0)), (1, .int x1_)] → W p l e rmX12_laysAside s m args below meth c H locs 0 0 Q (F0 m 2 ls []) := by
    intro n2
    induction n2 with
    | zero => intro x1_ ma H locs ls h hP hD hS hl; exact False.elim h
    | succ n2 ih2 =>
      intro x1_ ma H locs ls h hP hD hS hl
      refine lv_iload_n hx hb dX12_laysAside_2 rfl (lv_at hl 1 rfl) ?_
      refine lv_aload_n hx hb dX12_laysAside_3 rfl (lv_at hl 0 rfl) ?_
      refine va_get (D := D) (ci := 12) (v := .ref (aM 13)) (C := RX12) (T := TX12) (N := 51) hx hb hw inW_X12 hown hK hP 0 rfl rfl 23 (by decide) (hw _ mw_6_66) (fun _ h9 => h9) rfl dX12_laysAside_4 ?_
      refine lv_iconst (v := 0) hx hb dX12_laysAside_7 (by decide) ?_
      refine cIald hx hb hK hP 13 0 rfl rfl 0 (by decide +kernel) (cIn (by decide +kernel)) dX12_laysAside_8 ?_
      refine lv_icmp_ge (tgt := 29) hx hb dX12_laysAside_9 (by decide) (fun c1 => ?_) (fun c1 => ?_)
      · have h := h.1 c1
        rw [← hQ]
        exact cRetV (ma) hx hb hr hlocks hS hP hD h dX12_laysAside_29
      · have h := h.2 c1
        refine lv_aload_n hx hb dX12_laysAside_12 rfl (lv_at hl 0 rfl) ?_
        refine va_get (D := D) (ci := 12) (v := .ref (aM 26)) (C := RX12) (T := TX12) (N := 51) hx hb hw inW_X12 hown hK hP 0 rfl rfl 40 (by decide) (hw _ mw_6_83) (fun _ h9 => h9) rfl dX12_laysAside_13 ?_
        refine lv_iload_n hx hb dX12_laysAside_16 rfl (lv_at hl 1 rfl) ?_
        refine lv_aload_n hx hb dX12_laysAside_17 rfl (lv_at hl 0 rfl) ?_
        refine lv_iload_n hx hb dX12_laysAside_18 rfl (lv_at hl 1 rfl) ?_
        refine cGoI (wo := fun u => wM aM C ms mw ma ml) (cRunV (As := [.int x1_]) (rest := [.int x1_, .ref (aM 26)]) ⟨hx, hb, hml, hown, hw⟩ hK hN hP hD [0, 1, 2, 3, 4, 5, 6, 7, 8, 9, 10, 11, 12, 13, 14, 15, 16, 17, 18, 19, 20, 21, 22, 23, 24, 25, 26, 27, 28, 29, 30, 31, 32] rfl rfl (k_X12_optionOf l D C _ aM  ms mw ma ml x1_ h) (cwV 1 hw (goodV mw_8_44 mw_8_46 mw_s154 mw_1_13 mw_8_47) rfl rfl rfl (by decide +kernel) ⟨Nat.le_of_ble_eq_true rfl, Nat.le_of_ble_eq_true rfl⟩) rfl rfl rfl hl.1 rfl (Nat.le_of_ble_eq_true rfl) dX12_laysAside_19 ⟨Nat.zero_le _, Nat.zero_le _⟩) hP hD hS hA [0, 1, 2, 3, 4, 5, 6, 7, 8, 9, 10, 11, 12, 13, 14, 15, 16, 17, 18, 19, 20, 21, 22, 23, 24, 25, 26, 27, 28, 29, 30, 31, 32] [] [0, 1, 2, 3, 4, 5, 6, 7, 8, 9, 10, 11, 12, 13, 14, 15, 16, 17, 18, 19, 20, 21, 22, 23, 24, 25, 26, 27, 28, 29, 30, 31, 32] rfl rfl rfl (by decide) rfl (fun _ => rfl) (fun r2 u H locs h hP hD hS => ?_)
        have hP : va_P D vwCl (List.flatten (wM aM C ms mw ma ml)) H := hP
        have hD : va_D A (List.flatten (wM aM C ms mw ma ml)) := hD
        refine cIast hx hb hK hP hD hS 26 0 rfl rfl x1_.toNatClampNeg rfl h.1 dX12_laysAside_22 (fun H locs hP hD hS => ?_)
        have h := h.2
        refine lv_iinc (v := (x1_ + 1)) (lv' := [(1, .int (x1_ + 1)), (0, .ref (aM 0))]) hx hb dX12_laysAside_23 hl (k := 1) rfl rfl (by decide) rfl (fun ls hl => ?_)
        refine lv_goto (tgt := 2) hx hb dX12_laysAside_26 (by decide) ?_
        have hP : va_P D vwCl (List.flatten (wM aM C ms mw (va_up ma 20 (upd (ma 20) x1_.toNatClampNeg r2)) ml)) H := hP
        have hD : va_D A (List.flatten (wM aM C ms mw (va_up ma 20 (upd (ma 20) x1_.toNatClampNeg r2)) ml)) := hD
        exact ih2 (x1_ + 1) (va_up ma 20 (upd (ma 20) x1_.toNatClampNeg r2)) _ _ _ h hP hD hS (lv_sub hl [1, 0] rfl)
  refine lv_iconst (v := 0) hx hb dX12_laysAside_0 (by decide) ?_
  refine lv_istore_n (lv' := [(1, .int 0), (0, .ref (aM 0))]) hx hb dX12_laysAside_1 rfl hl (by decide) rfl (fun ls hl => ?_)
  obtain ⟨n, h⟩ := h
  exact N2  n 0 ma _ _ _ h hP hD hS (lv_sub hl [1, 0] rfl)
abbrev vsX12_takesBack : List Cond := Cond.code yX12_takesBack cX12_takesBack 2 none :: WS
abbrev rmX12_takesBack : Room := { frames := 2, cells := 0, slots := 0, locals := 43 }
set_option maxHeartbeats 4000000 in
set_option maxRecDepth 100000 in
theorem k_X12_takesBack (l : Launch) (D : va_G) (C : Nat → ClassId) (sz : Nat) (aM : Nat → Nat)  (ms : Nat → Int32) (mw : Nat → Int64) (ma : Nat → Nat → Int32) (ml : Nat → Nat → Int64)  {post : (Nat → Nat → Int32) → Prop} (h : P_X12_takesBack ma post) : Met l yX12_takesBack vsX12_takesBack rmX12_takesBack (cPre D C [.ref (aM 0)] sz (wM aM C ms mw ma ml)) (cQv D (fun (u : (Nat → Nat → Int32)) => post u) (fun u => wM aM C ms mw u ml) (va_A (List.flatten (wM aM C ms mw ma ml)) sz)) 0 0 (va_A (List.flatten (wM aM C ms mw ma ml)) sz) := by
  refine cStart (QA := fun A => cQv D (fun (u : (Nat → Nat → Int32)) => post u) (fun u => wM aM C ms mw u ml) A) (cc := cX12_takesBack) (maxL := 2) (ret := none) (by decide) (Nat.le_of_ble_eq_true rfl) ?_
  intro p e s m args below meth c A ls hx hb hr hml hown hw hlocks hname hK hN hA hP hD hS hl
  generalize hQ : MQ below _ args s 0 0 A = Q
  have hl : lv_has ls 2 [(0, .ref (aM 0))] := hl
  obtain ⟨H, hH⟩ : ∃ H, H = s.heap := ⟨_, rfl⟩
  obtain ⟨locs, hlo⟩ : ∃ z : List Loc, z = [] := ⟨_, rfl⟩
  have hP : va_P D vwCl (List.flatten (wM aM C ms mw ma ml)) H := by rw [hH]; exact hP
  have hS : va_S A s.heap H locs := by rw [hH, hlo]; exact hS
  rw [show W p l e rmX12_takesBack s m args below meth c s.heap [] 0 0 Q (F0 m 0 ls []) = W p l e rmX12_takesBack s m args below meth c H locs 0 0 Q (F0 m 0 ls []) from by rw [hH, hlo]]
  have N2 : ∀  (n2 : Nat) (x1_ : Int32) (ma : Nat → Nat → Int32) (H : Heap) (locs : List Loc) (ls : Array Slot), P_X12_takesBack_2  post   n2 x1_ ma → va_P D vwCl (List.flatten (wM aM C ms mw ma ml)) H → va_D A (List.flatten (wM aM C ms mw ma ml)) → va_S A s.heap H locs → lv_has ls 2 [(0, .ref (aM 0)), (1, .int x1_)] → W p l e rmX12_takesBack s m args below meth c H locs 0 0 Q (F0 m 2 ls []) := by
    intro n2
    induction n2 with
    | zero => intro x1_ ma H locs ls h hP hD hS hl; exact False.elim h
    | succ n2 ih2 =>
      intro x1_ ma H locs ls h hP hD hS hl
      refine lv_iload_n hx hb dX12_takesBack_2 rfl (lv_at hl 1 rfl) ?_
      refine lv_aload_n hx hb dX12_takesBack_3 rfl (lv_at hl 0 rfl) ?_
      refine va_get (D := D) (ci := 12) (v := .ref (aM 13)) (C := RX12) (T := TX12) (N := 51) hx hb hw inW_X12 hown hK hP 0 rfl rfl 23 (by decide) (hw _ mw_6_66) (fun _ h9 => h9) rfl dX12_takesBack_4 ?_
      refine lv_iconst (v := 0) hx hb dX12_takesBack_7 (by decide) ?_
      refine cIald hx hb hK hP 13 0 rfl rfl 0 (by decide +kernel) (cIn (by decide +kernel)) dX12_takesBack_8 ?_
      refine lv_icmp_ge (tgt := 29) hx hb dX12_takesBack_9 (by decide) (fun c1 => ?_) (fun c1 => ?_)
      · have h := h.1 c1
        rw [← hQ]
        exact cRetV (ma) hx hb hr hlocks hS hP hD h dX12_takesBack_29
      · have h := h.2 c1
        refine lv_aload_n hx hb dX12_takesBack_12 rfl (lv_at hl 0 rfl) ?_
        refine lv_iload_n hx hb dX12_takesBack_13 rfl (lv_at hl 1 rfl) ?_
        refine lv_aload_n hx hb dX12_takesBack_14 rfl (lv_at hl 0 rfl) ?_
        refine va_get (D := D) (ci := 12) (v := .ref (aM 26)) (C := RX12) (T := TX12) (N := 51) hx hb hw inW_X12 hown hK hP 0 rfl rfl 40 (by decide) (hw _ mw_6_83) (fun _ h9 => h9) rfl dX12_takesBack_15 ?_
        refine lv_iload_n hx hb dX12_takesBack_18 rfl (lv_at hl 1 rfl) ?_
        refine cIald hx hb hK hP 26 0 rfl rfl x1_.toNatClampNeg rfl h.1 dX12_takesBack_19 ?_
        have h := h.2
        refine cGoV (wo := fun u => wM aM C ms mw u ml) (cRunV (As := [.int x1_, .int (ma 20 x1_.toNatClampNeg)]) (rest := []) ⟨hx, hb, hml, hown, hw⟩ hK hN hP hD [0, 1, 2, 3, 4, 5, 6, 7, 8, 9, 10, 11, 12, 13, 14, 15, 16, 17, 18, 19, 20, 21, 22, 23, 24, 25, 26, 27, 28, 29, 30, 31, 32] rfl rfl (k_X12_hasOption l D C _ aM  ms mw ma ml x1_ (ma 20 x1_.toNatClampNeg) h) (cwV 2 hw (goodV mw_8_48 mw_8_50 mw_s155 mw_1_13 mw_8_51) rfl rfl rfl (by decide +kernel) ⟨Nat.le_of_ble_eq_true rfl, Nat.le_of_ble_eq_true rfl⟩) rfl rfl rfl hl.1 rfl (Nat.le_of_ble_eq_true rfl) dX12_takesBack_20 ⟨Nat.zero_le _, Nat.zero_le _⟩) hP hD hS hA [0, 1, 2, 3, 4, 5, 6, 7, 8, 9, 10, 11, 12, 13, 14, 15, 16, 17, 18, 19, 20, 21, 22, 23, 24, 25, 26, 27, 28, 29, 30, 31, 32] [] [0, 1, 2, 3, 4, 5, 6, 7, 8, 9, 10, 11, 12, 13, 14, 15, 16, 17, 18, 19, 20, 21, 22, 23, 24, 25, 26, 27, 28, 29, 30, 31, 32] rfl rfl rfl (by decide) rfl (fun _ => rfl) (fun ma_2 H locs h hP hD hS => ?_)
        have hP : va_P D vwCl (List.flatten (wM aM C ms mw ma_2 ml)) H := hP
        have hD : va_D A (List.flatten (wM aM C ms mw ma_2 ml)) := hD
        refine lv_iinc (v := (x1_ + 1)) (lv' := [(1, .int (x1_ + 1)), (0, .ref (aM 0))]) hx hb dX12_takesBack_23 hl (k := 1) rfl rfl (by decide) rfl (fun ls hl => ?_)
        refine lv_goto (tgt := 2) hx hb dX12_takesBack_26 (by decide) ?_
        exact ih2 (x1_ + 1) ma_2 _ _ _ h hP hD hS (lv_sub hl [1, 0] rfl)
  refine lv_iconst (v := 0) hx hb dX12_takesBack_0 (by decide) ?_
  refine lv_istore_n (lv' := [(1, .int 0), (0, .ref (aM 0))]) hx hb dX12_takesBack_1 rfl hl (by decide) rfl (fun ls hl => ?_)
  obtain ⟨n, h⟩ := h
  exact N2  n 0 ma _ _ _ h hP hD hS (lv_sub hl [1, 0] rfl)
abbrev vsX12_settlesIn : List Cond := Cond.code yX12_settlesIn cX12_settlesIn 3 (some .int) :: WS
abbrev rmX12_settlesIn : Room := { frames := 9, cells := 0, slots := 0, locals := 213 }
set_option maxHeartbeats 4000000 in
set_option maxRecDepth 100000 in
theorem k_X12_settlesIn (l : Launch) (D : va_G) (C : Nat → ClassId) (sz : Nat) (aM : Nat → Nat)  (ms : Nat → Int32) (mw : Nat → Int64) (ma : Nat → Nat → Int32) (ml : Nat → Nat → Int64) (p1 : Int32) {post : Int32 → (Nat → Int32) → (Nat → Int64) → (Nat → Nat → Int32) → (Nat → Nat → Int64) → Prop} (h : P_X12_settlesIn ms mw ma ml p1 post) : Met l yX12_settlesIn vsX12_settlesIn rmX12_settlesIn (cPre D C [.ref (aM 0), .int p1] sz (wM aM C ms mw ma ml)) (cQi D (fun (r : Int32) (u : (Nat → Int32) × (Nat → Int64) × (Nat → Nat → Int32) × (Nat → Nat → Int64)) => post r u.1 u.2.1 u.2.2.1 u.2.2.2) (fun u => wM aM C u.1 u.2.1 u.2.2.1 u.2.2.2) (va_A (List.flatten (wM aM C ms mw ma ml)) sz)) 0 0 (va_A (List.flatten (wM aM C ms mw ma ml)) sz) := by
  refine cStart (QA := fun A => cQi D (fun (r : Int32) (u : (Nat → Int32) × (Nat → Int64) × (Nat → Nat → Int32) × (Nat → Nat → Int64)) => post r u.1 u.2.1 u.2.2.1 u.2.2.2) (fun u => wM aM C u.1 u.2.1 u.2.2.1 u.2.2.2) A) (cc := cX12_settlesIn) (maxL := 3) (ret := (some .int)) (by decide) (Nat.le_of_ble_eq_true rfl) ?_
  intro p e s m args below meth c A ls hx hb hr hml hown hw hlocks hname hK hN hA hP hD hS hl
  generalize hQ : MQ below _ args s 0 0 A = Q
  have hl : lv_has ls 3 [(0, .ref (aM 0)), (1, .int p1)] := hl
  obtain ⟨H, hH⟩ : ∃ H, H = s.heap := ⟨_, rfl⟩
  obtain ⟨locs, hlo⟩ : ∃ z : List Loc, z = [] := ⟨_, rfl⟩
  have hP : va_P D vwCl (List.flatten (wM aM C ms mw ma ml)) H := by rw [hH]; exact hP
  have hS : va_S A s.heap H locs := by rw [hH, hlo]; exact hS
  rw [show W p l e rmX12_settlesIn s m args below meth c s.heap [] 0 0 Q (F0 m 0 ls []) = W p l e rmX12_settlesIn s m args below meth c H locs 0 0 Q (F0 m 0 ls []) from by rw [hH, hlo]]
  have N7 : ∀  (n7 : Nat) (x2_ : Int32) (ms : Nat → Int32) (mw : Nat → Int64) (ma : Nat → Nat → Int32) (ml : Nat → Nat → Int64) (H : Heap) (locs : List Loc) (ls : Array Slot), P_X12_settlesIn_7 p1 post   n7 x2_ ms mw ma ml → va_P D vwCl (List.flatten (wM aM C ms mw ma ml)) H → va_D A (List.flatten (wM aM C ms mw ma ml)) → va_S A s.heap H locs → lv_has ls 3 [(0, .ref (aM 0)), (1, .int p1), (2, .int x2_)] → W p l e rmX12_settlesIn s m args below meth c H locs 0 0 Q (F0 m 7 ls []) := by
    intro n7
    induction n7 with
    | zero => intro x2_ ms mw ma ml H locs ls h hP hD hS hl; exact False.elim h
    | succ n7 ih7 =>
      intro x2_ ms mw ma ml H locs ls h hP hD hS hl
      refine lv_iload_n hx hb dX12_settlesIn_7 rfl (lv_at hl 2 rfl) ?_
      refine lv_iload_n hx hb dX12_settlesIn_8 rfl (lv_at hl 1 rfl) ?_
      refine lv_icmp_ge (tgt := 41) hx hb dX12_settlesIn_9 (by decide) (fun c1 => ?_) (fun c1 => ?_)
      · have h := h.1 c1
        refine lv_iload_n hx hb dX12_settlesIn_41 rfl (lv_at hl 2 rfl) ?_
        rw [← hQ]
        exact cRetI (v := x2_) (ms, mw, ma, ml) hx hb hr hlocks hS hP hD h dX12_settlesIn_42
      · have h := h.2 c1
        refine lv_aload_n hx hb dX12_settlesIn_12 rfl (lv_at hl 0 rfl) ?_
        refine va_get (D := D) (ci := 12) (v := .int (ms 13)) (C := RX12) (T := TX12) (N := 51) hx hb hw inW_X12 hown hK hP 0 rfl rfl 41 (by decide) (hw _ mw_6_84) (fun _ h9 => h9) rfl dX12_settlesIn_13 ?_
        refine lv_if_ne (tgt := 41) hx hb dX12_settlesIn_16 (by decide) (fun c2 => ?_) (fun c2 => ?_)
        · have h := h.1 c2
          refine lv_iload_n hx hb dX12_settlesIn_41 rfl (lv_at hl 2 rfl) ?_
          rw [← hQ]
          exact cRetI (v := x2_) (ms, mw, ma, ml) hx hb hr hlocks hS hP hD h dX12_settlesIn_42
        · have h := h.2 c2
          refine lv_aload_n hx hb dX12_settlesIn_19 rfl (lv_at hl 0 rfl) ?_
          refine lv_aload_n hx hb dX12_settlesIn_20 rfl (lv_at hl 0 rfl) ?_
          refine cGoI (wo := fun u => wM aM C u.1 u.2.1 u.2.2.1 u.2.2.2) (cRunV (As := []) (rest := [.ref (aM 0)]) ⟨hx, hb, hml, hown, hw⟩ hK hN hP hD [0, 1, 2, 3, 4, 5, 6, 7, 8, 9, 10, 11, 12, 13, 14, 15, 16, 17, 18, 19, 20, 21, 22, 23, 24, 25, 26, 27, 28, 29, 30, 31, 32] rfl rfl (k_X12_round l D C _ aM  ms mw ma ml  h) (cwV 0 hw (goodV mw_8_85 mw_8_87 mw_s160 mw_1_13 mw_8_88) rfl rfl rfl (by decide +kernel) ⟨Nat.le_of_ble_eq_true rfl, Nat.le_of_ble_eq_true rfl⟩) rfl rfl rfl hl.1 rfl (Nat.le_of_ble_eq_true rfl) dX12_settlesIn_21 ⟨Nat.zero_le _, Nat.zero_le _⟩) hP hD hS hA [0, 1, 2, 3, 4, 5, 6, 7, 8, 9, 10, 11, 12, 13, 14, 15, 16, 17, 18, 19, 20, 21, 22, 23, 24, 25, 26, 27, 28, 29, 30, 31, 32] [] [0, 1, 2, 3, 4, 5, 6, 7, 8, 9, 10, 11, 12, 13, 14, 15, 16, 17, 18, 19, 20, 21, 22, 23, 24, 25, 26, 27, 28, 29, 30, 31, 32] rfl rfl rfl (by decide) rfl (fun _ => rfl) (fun r7 u H locs h hP hD hS => ?_)
          obtain ⟨ms_3, mw_4, ma_5, ml_6⟩ := u
          have hP : va_P D vwCl (List.flatten (wM aM C ms_3 mw_4 ma_5 ml_6)) H := hP
          have hD : va_D A (List.flatten (wM aM C ms_3 mw_4 ma_5 ml_6)) := hD
          refine lv_if_ne (tgt := 31) hx hb dX12_settlesIn_24 (by decide) (fun c8 => ?_) (fun c8 => ?_)
          · have h := h.1 c8
            refine lv_iconst (v := 0) hx hb dX12_settlesIn_31 (by decide) ?_
            refine va_put (D := D) (ci := 12) (v := .int 0) (ty := .boolean) (C := RX12) (T := TX12) (N := 51) hx hb hw inW_X12 tyX12 tyX12_ok nmX12 hown hK hP hD hS 0 rfl rfl 41 (by decide) (hw _ mw_6_84) (fun _ h9 => h9) rfl (by decide +kernel) rfl rfl (Nat.le_of_ble_eq_true rfl) dX12_settlesIn_32 (fun H locs hP hD hS => ?_)
            refine lv_iinc (v := (x2_ + 1)) (lv' := [(2, .int (x2_ + 1)), (0, .ref (aM 0)), (1, .int p1)]) hx hb dX12_settlesIn_35 hl (k := 2) rfl rfl (by decide) rfl (fun ls hl => ?_)
            refine lv_goto (tgt := 7) hx hb dX12_settlesIn_38 (by decide) ?_
            have hP : va_P D vwCl (List.flatten (wM aM C (va_up ms_3 13 0) mw_4 ma_5 ml_6)) H := hP
            have hD : va_D A (List.flatten (wM aM C (va_up ms_3 13 0) mw_4 ma_5 ml_6)) := hD
            exact ih7 (x2_ + 1) (va_up ms_3 13 0) mw_4 ma_5 ml_6 _ _ _ h hP hD hS (lv_sub hl [1, 2, 0] rfl)
          · have h := h.2 c8
            refine lv_iconst (v := 1) hx hb dX12_settlesIn_27 (by decide) ?_
            refine lv_goto (tgt := 32) hx hb dX12_settlesIn_28 (by decide) ?_
            refine va_put (D := D) (ci := 12) (v := .int 1) (ty := .boolean) (C := RX12) (T := TX12) (N := 51) hx hb hw inW_X12 tyX12 tyX12_ok nmX12 hown hK hP hD hS 0 rfl rfl 41 (by decide) (hw _ mw_6_84) (fun _ h9 => h9) rfl (by decide +kernel) rfl rfl (Nat.le_of_ble_eq_true rfl) dX12_settlesIn_32 (fun H locs hP hD hS => ?_)
            refine lv_iinc (v := (x2_ + 1)) (lv' := [(2, .int (x2_ + 1)), (0, .ref (aM 0)), (1, .int p1)]) hx hb dX12_settlesIn_35 hl (k := 2) rfl rfl (by decide) rfl (fun ls hl => ?_)
            refine lv_goto (tgt := 7) hx hb dX12_settlesIn_38 (by decide) ?_
            have hP : va_P D vwCl (List.flatten (wM aM C (va_up ms_3 13 1) mw_4 ma_5 ml_6)) H := hP
            have hD : va_D A (List.flatten (wM aM C (va_up ms_3 13 1) mw_4 ma_5 ml_6)) := hD
            exact ih7 (x2_ + 1) (va_up ms_3 13 1) mw_4 ma_5 ml_6 _ _ _ h hP hD hS (lv_sub hl [1, 2, 0] rfl)
  refine lv_aload_n hx hb dX12_settlesIn_0 rfl (lv_at hl 0 rfl) ?_
  refine lv_iconst (v := 0) hx hb dX12_settlesIn_1 (by decide) ?_
  refine va_put (D := D) (ci := 12) (v := .int 0) (ty := .boolean) (C := RX12) (T := TX12) (N := 51) hx hb hw inW_X12 tyX12 tyX12_ok nmX12 hown hK hP hD hS 0 rfl rfl 41 (by decide) (hw _ mw_6_84) (fun _ h9 => h9) rfl (by decide +kernel) rfl rfl (Nat.le_of_ble_eq_true rfl) dX12_settlesIn_2 (fun H locs hP hD hS => ?_)
  refine lv_iconst (v := 0) hx hb dX12_settlesIn_5 (by decide) ?_
  refine lv_istore_n (lv' := [(2, .int 0), (0, .ref (aM 0)), (1, .int p1)]) hx hb dX12_settlesIn_6 rfl hl (by decide) rfl (fun ls hl => ?_)
  have hP : va_P D vwCl (List.flatten (wM aM C (va_up ms 13 0) mw ma ml)) H := hP
  have hD : va_D A (List.flatten (wM aM C (va_up ms 13 0) mw ma ml)) := hD
  obtain ⟨n, h⟩ := h
  exact N7  n 0 (va_up ms 13 0) mw ma ml _ _ _ h hP hD hS (lv_sub hl [1, 2, 0] rfl)

