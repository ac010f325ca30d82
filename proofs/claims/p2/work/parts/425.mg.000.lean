abbrev vsX12_careless : List Cond := Cond.code yX12_careless cX12_careless 4 (some .int) :: WS
abbrev rmX12_careless : Room := { frames := 6, cells := 0, slots := 0, locals := 147 }
set_option maxHeartbeats 4000000 in
set_option maxRecDepth 100000 in
theorem k_X12_careless (l : Launch) (D : va_G) (C : Nat → ClassId) (sz : Nat) (aM : Nat → Nat)  (ms : Nat → Int32) (mw : Nat → Int64) (ma : Nat → Nat → Int32) (ml : Nat → Nat → Int64) (p1 : Int32) (p2 : Int32) (p3 : Int32) {post : Int32 → (Nat → Int32) → (Nat → Int64) → (Nat → Nat → Int32) → (Nat → Nat → Int64) → Prop} (h : P_X12_careless ms mw ma ml p1 p2 p3 post) : Met l yX12_careless vsX12_careless rmX12_careless (cPre D C [.ref (aM 0), .int p1, .int p2, .int p3] sz (wM aM C ms mw ma ml)) (cQi D (fun (r : Int32) (u : (Nat → Int32) × (Nat → Int64) × (Nat → Nat → Int32) × (Nat → Nat → Int64)) => post r u.1 u.2.1 u.2.2.1 u.2.2.2) (fun u => wM aM C u.1 u.2.1 u.2.2.1 u.2.2.2) (va_A (List.flatten (wM aM C ms mw ma ml)) sz)) 0 0 (va_A (List.flatten (wM aM C ms mw ma ml)) sz) := by
  refine cStart (QA := fun A => cQi D (fun (r : Int32) (u : (Nat → Int32) × (Nat → Int64) × (Nat → Nat → Int32) × (Nat → Nat → Int64)) => post r u.1 u.2.1 u.2.2.1 u.2.2.2) (fun u => wM aM C u.1 u.2.1 u.2.2.1 u.2.2.2) A) (cc := cX12_careless) (maxL := 4) (ret := (some .int)) (by decide) (Nat.le_of_ble_eq_true rfl) ?_
  intro p e s m args below meth c A ls hx hb hr hml hown hw hlocks hname hK hN hA hP hD hS hl
  generalize hQ : MQ below _ args s 0 0 A = Q
  have hl : lv_has ls 4 [(0, .ref (aM 0)), (1, .int p1), (2, .int p2), (3, .int p3)] := hl
  obtain ⟨H, hH⟩ : ∃ H, H = s.heap := ⟨_, rfl⟩
  obtain ⟨locs, hlo⟩ : ∃ z : List Loc, z = [] := ⟨_, rfl⟩
  have hP : va_P D vwCl (List.flatten (wM aM C ms mw ma ml)) H := by rw [hH]; exact hP
  have hS : va_S A s.heap H locs := by rw [hH, hlo]; exact hS
  rw [show W p l e rmX12_careless s m args below meth c s.heap [] 0 0 Q (F0 m 0 ls []) = W p l e rmX12_careless s m args below meth c H locs 0 0 Q (F0 m 0 ls []) from by rw [hH, hlo]]
  refine lv_aload_n hx hb dX12_careless_0 rfl (lv_at hl 0 rfl) ?_
  refine lv_iconst (v := 0) hx hb dX12_careless_1 (by decide) ?_
  refine va_put (D := D) (ci := 12) (v := .int 0) (ty := .int) (C := RX12) (T := TX12) (N := 51) hx hb hw inW_X12 tyX12 tyX12_ok nmX12 hown hK hP hD hS 0 rfl rfl 0 (by decide) (hw _ mw_6_43) (fun _ h9 => h9) rfl (by decide +kernel) rfl rfl (Nat.le_of_ble_eq_true rfl) dX12_careless_2 (fun H locs hP hD hS => ?_)
  refine lv_aload_n hx hb dX12_careless_5 rfl (lv_at hl 0 rfl) ?_
  refine lv_iload_n hx hb dX12_careless_6 rfl (lv_at hl 1 rfl) ?_
  refine lv_iload_n hx hb dX12_careless_7 rfl (lv_at hl 2 rfl) ?_
  refine lv_iload_n hx hb dX12_careless_8 rfl (lv_at hl 3 rfl) ?_
  have hP : va_P D vwCl (List.flatten (wM aM C (va_up ms 0 0) mw ma ml)) H := hP
  have hD : va_D A (List.flatten (wM aM C (va_up ms 0 0) mw ma ml)) := hD
  refine cGoI (wo := fun u => wM aM C (va_up ms 0 0) mw ma ml) (cRunV (As := [.int p1, .int p2, .int p3]) (rest := []) ⟨hx, hb, hml, hown, hw⟩ hK hN hP hD [0, 1, 2, 3, 4, 5, 6, 7, 8, 9, 10, 11, 12, 13, 14, 15, 16, 17, 18, 19, 20, 21, 22, 23, 24, 25, 26, 27, 28, 29, 30, 31, 32] rfl rfl (k_X12_isCover l D C _ aM  (va_up ms 0 0) mw ma ml p1 p2 p3 h) (cwV 3 hw (goodV mw_9_7 mw_9_9 mw_s175 mw_1_13 mw_9_10) rfl rfl rfl (by decide +kernel) ⟨Nat.le_of_ble_eq_true rfl, Nat.le_of_ble_eq_true rfl⟩) rfl rfl rfl hl.1 rfl (Nat.le_of_ble_eq_true rfl) dX12_careless_9 ⟨Nat.zero_le _, Nat.zero_le _⟩) hP hD hS hA [0, 1, 2, 3, 4, 5, 6, 7, 8, 9, 10, 11, 12, 13, 14, 15, 16, 17, 18, 19, 20, 21, 22, 23, 24, 25, 26, 27, 28, 29, 30, 31, 32] [] [0, 1, 2, 3, 4, 5, 6, 7, 8, 9, 10, 11, 12, 13, 14, 15, 16, 17, 18, 19, 20, 21, 22, 23, 24, 25, 26, 27, 28, 29, 30, 31, 32] rfl rfl rfl (by decide) rfl (fun _ => rfl) (fun r1 u H locs h hP hD hS => ?_)
  have hP : va_P D vwCl (List.flatten (wM aM C (va_up ms 0 0) mw ma ml)) H := hP
  have hD : va_D A (List.flatten (wM aM C (va_up ms 0 0) mw ma ml)) := hD
  refine lv_if_eq (tgt := 25) hx hb dX12_careless_12 (by decide) (fun c2 => ?_) (fun c2 => ?_)
  · have h := h.1 c2
    refine lv_bipush (v := (-2)) hx hb dX12_careless_25 (by decide) ?_
    rw [← hQ]
    exact cRetI (v := (-2)) ((va_up ms 0 0), mw, ma, ml) hx hb hr hlocks hS hP hD h dX12_careless_27
  · have h := h.2 c2
    refine lv_aload_n hx hb dX12_careless_15 rfl (lv_at hl 0 rfl) ?_
    refine lv_iload_n hx hb dX12_careless_16 rfl (lv_at hl 1 rfl) ?_
    refine lv_iload_n hx hb dX12_careless_17 rfl (lv_at hl 2 rfl) ?_
    refine lv_iload_n hx hb dX12_careless_18 rfl (lv_at hl 3 rfl) ?_
    refine cGoI (wo := fun u => wM aM C u.1 u.2.1 u.2.2.1 u.2.2.2) (cRunV (As := [.int p1, .int p2, .int p3]) (rest := []) ⟨hx, hb, hml, hown, hw⟩ hK hN hP hD [0, 1, 2, 3, 4, 5, 6, 7, 8, 9, 10, 11, 12, 13, 14, 15, 16, 17, 18, 19, 20, 21, 22, 23, 24, 25, 26, 27, 28, 29, 30, 31, 32] rfl rfl (k_X12_covers l D C _ aM  (va_up ms 0 0) mw ma ml p1 p2 p3 h) (cwV 3 hw (goodV mw_9_11 mw_9_13 mw_s176 mw_1_13 mw_9_14) rfl rfl rfl (by decide +kernel) ⟨Nat.le_of_ble_eq_true rfl, Nat.le_of_ble_eq_true rfl⟩) rfl rfl rfl hl.1 rfl (Nat.le_of_ble_eq_true rfl) dX12_careless_19 ⟨Nat.zero_le _, Nat.zero_le _⟩) hP hD hS hA [0, 1, 2, 3, 4, 5, 6, 7, 8, 9, 10, 11, 12, 13, 14, 15, 16, 17, 18, 19, 20, 21, 22, 23, 24, 25, 26, 27, 28, 29, 30, 31, 32] [] [0, 1, 2, 3, 4, 5, 6, 7, 8, 9, 10, 11, 12, 13, 14, 15, 16, 17, 18, 19, 20, 21, 22, 23, 24, 25, 26, 27, 28, 29, 30, 31, 32] rfl rfl rfl (by decide) rfl (fun _ => rfl) (fun r7 u H locs h hP hD hS => ?_)
    obtain ⟨ms_3, mw_4, ma_5, ml_6⟩ := u
    have hP : va_P D vwCl (List.flatten (wM aM C ms_3 mw_4 ma_5 ml_6)) H := hP
    have hD : va_D A (List.flatten (wM aM C ms_3 mw_4 ma_5 ml_6)) := hD
    refine lv_goto (tgt := 27) hx hb dX12_careless_22 (by decide) ?_
    rw [← hQ]
    exact cRetI (v := r7) (ms_3, mw_4, ma_5, ml_6) hx hb hr hlocks hS hP hD h dX12_careless_27
abbrev vsX12_byLaw : List Cond := Cond.code yX12_byLaw cX12_byLaw 4 (some .long) :: WS
abbrev rmX12_byLaw : Room := { frames := 6, cells := 0, slots := 0, locals := 143 }
set_option maxHeartbeats 4000000 in
set_option maxRecDepth 100000 in
theorem k_X12_byLaw (l : Launch) (D : va_G) (C : Nat → ClassId) (sz : Nat) (aM : Nat → Nat)  (ms : Nat → Int32) (mw : Nat → Int64) (ma : Nat → Nat → Int32) (ml : Nat → Nat → Int64) (p1 : Int32) {post : Int64 → (Nat → Int32) → (Nat → Nat → Int32) → (Nat → Nat → Int64) → Prop} (h : P_X12_byLaw ms ma ml p1 post) : Met l yX12_byLaw vsX12_byLaw rmX12_byLaw (cPre D C [.ref (aM 0), .int p1] sz (wM aM C ms mw ma ml)) (cQl D (fun (r : Int64) (u : (Nat → Int32) × (Nat → Nat → Int32) × (Nat → Nat → Int64)) => post r u.1 u.2.1 u.2.2) (fun u => wM aM C u.1 mw u.2.1 u.2.2) (va_A (List.flatten (wM aM C ms mw ma ml)) sz)) 0 0 (va_A (List.flatten (wM aM C ms mw ma ml)) sz) := by
  refine cStart (QA := fun A => cQl D (fun (r : Int64) (u : (Nat → Int32) × (Nat → Nat → Int32) × (Nat → Nat → Int64)) => post r u.1 u.2.1 u.2.2) (fun u => wM aM C u.1 mw u.2.1 u.2.2) A) (cc := cX12_byLaw) (maxL := 4) (ret := (some .long)) (by decide) (Nat.le_of_ble_eq_true rfl) ?_
  intro p e s m args below meth c A ls hx hb hr hml hown hw hlocks hname hK hN hA hP hD hS hl
  generalize hQ : MQ below _ args s 0 0 A = Q
  have hl : lv_has ls 4 [(0, .ref (aM 0)), (1, .int p1)] := hl
  obtain ⟨H, hH⟩ : ∃ H, H = s.heap := ⟨_, rfl⟩
  obtain ⟨locs, hlo⟩ : ∃ z : List Loc, z = [] := ⟨_, rfl⟩
  have hP : va_P D vwCl (List.flatten (wM aM C ms mw ma ml)) H := by rw [hH]; exact hP
  have hS : va_S A s.heap H locs := by rw [hH, hlo]; exact hS
  rw [show W p l e rmX12_byLaw s m args below meth c s.heap [] 0 0 Q (F0 m 0 ls []) = W p l e rmX12_byLaw s m args below meth c H locs 0 0 Q (F0 m 0 ls []) from by rw [hH, hlo]]
  have N51 : ∀ (ms : Nat → Int32) (ma : Nat → Nat → Int32) (ml : Nat → Nat → Int64) (H : Heap) (locs : List Loc) (ls : Array Slot), P_X12_byLaw_51 p1 post  ms ma ml → va_P D vwCl (List.flatten (wM aM C ms mw ma ml)) H → va_D A (List.flatten (wM aM C ms mw ma ml)) → va_S A s.heap H locs → lv_has ls 4 [(0, .ref (aM 0))] → W p l e rmX12_byLaw s m args below meth c H locs 0 0 Q (F0 m 51 ls []) := by
    intro ms ma ml H locs ls h hP hD hS hl
    refine lv_aload_n hx hb dX12_byLaw_51 rfl (lv_at hl 0 rfl) ?_
    refine lv_iconst (v := 2) hx hb dX12_byLaw_52 (by decide) ?_
    refine cGoL (wo := fun u => wM aM C u.1 mw u.2.1 u.2.2) (cRunV (As := [.int 2]) (rest := []) ⟨hx, hb, hml, hown, hw⟩ hK hN hP hD [0, 1, 2, 3, 4, 5, 6, 7, 8, 9, 10, 11, 12, 13, 14, 15, 16, 17, 18, 19, 20, 21, 22, 23, 24, 25, 26, 27, 28, 29, 30, 31, 32] rfl rfl (k_X12_allNow l D C _ aM  ms mw ma ml 2 h) (cwV 1 hw (goodV mw_8_28 mw_8_30 mw_s151 mw_1_13 mw_8_31) rfl rfl rfl (by decide +kernel) ⟨Nat.le_of_ble_eq_true rfl, Nat.le_of_ble_eq_true rfl⟩) rfl rfl rfl hl.1 rfl (Nat.le_of_ble_eq_true rfl) dX12_byLaw_53 ⟨Nat.zero_le _, Nat.zero_le _⟩) hP hD hS hA [0, 1, 2, 3, 4, 5, 6, 7, 8, 9, 10, 11, 12, 13, 14, 15, 16, 17, 18, 19, 20, 21, 22, 23, 24, 25, 26, 27, 28, 29, 30, 31, 32] [] [0, 1, 2, 3, 4, 5, 6, 7, 8, 9, 10, 11, 12, 13, 14, 15, 16, 17, 18, 19, 20, 21, 22, 23, 24, 25, 26, 27, 28, 29, 30, 31, 32] rfl rfl rfl (by decide) rfl (fun _ => rfl) (fun r4 u H locs h hP hD hS => ?_)
    obtain ⟨ms_1, ma_2, ml_3⟩ := u
    have hP : va_P D vwCl (List.flatten (wM aM C ms_1 mw ma_2 ml_3)) H := hP
    have hD : va_D A (List.flatten (wM aM C ms_1 mw ma_2 ml_3)) := hD
    refine lv_lstore_n (lv' := [(2, .long r4), (0, .ref (aM 0))]) hx hb dX12_byLaw_56 rfl hl (by decide) rfl (fun ls hl => ?_)
    refine lv_aload_n hx hb dX12_byLaw_57 rfl (lv_at hl 1 rfl) ?_
    refine cGoV (wo := fun u => wM aM C ms_1 mw u ml_3) (cRunV (As := []) (rest := []) ⟨hx, hb, hml, hown, hw⟩ hK hN hP hD [0, 1, 2, 3, 4, 5, 6, 7, 8, 9, 10, 11, 12, 13, 14, 15, 16, 17, 18, 19, 20, 21, 22, 23, 24, 25, 26, 27, 28, 29, 30, 31, 32] rfl rfl (k_X12_takesBack l D C _ aM  ms_1 mw ma_2 ml_3  h) (cwV 0 hw (goodV mw_8_97 mw_8_99 mw_s162 mw_1_13 mw_8_100) rfl rfl rfl (by decide +kernel) ⟨Nat.le_of_ble_eq_true rfl, Nat.le_of_ble_eq_true rfl⟩) rfl rfl rfl hl.1 rfl (Nat.le_of_ble_eq_true rfl) dX12_byLaw_58 ⟨Nat.zero_le _, Nat.zero_le _⟩) hP hD hS hA [0, 1, 2, 3, 4, 5, 6, 7, 8, 9, 10, 11, 12, 13, 14, 15, 16, 17, 18, 19, 20, 21, 22, 23, 24, 25, 26, 27, 28, 29, 30, 31, 32] [] [0, 1, 2, 3, 4, 5, 6, 7, 8, 9, 10, 11, 12, 13, 14, 15, 16, 17, 18, 19, 20, 21, 22, 23, 24, 25, 26, 27, 28, 29, 30, 31, 32] rfl rfl rfl (by decide) rfl (fun _ => rfl) (fun ma_5 H locs h hP hD hS => ?_)
    have hP : va_P D vwCl (List.flatten (wM aM C ms_1 mw ma_5 ml_3)) H := hP
    have hD : va_D A (List.flatten (wM aM C ms_1 mw ma_5 ml_3)) := hD
    refine lv_lload_n hx hb dX12_byLaw_61 rfl (lv_at hl 0 rfl) ?_
    rw [← hQ]
    exact cRetL (v := r4) (ms_1, ma_5, ml_3) hx hb hr hlocks hS hP hD h dX12_byLaw_62
  have N6 : ∀ (ms : Nat → Int32) (ml : Nat → Nat → Int64) (n6 : Nat) (x2_ : Int32) (ma : Nat → Nat → Int32) (H : Heap) (locs : List Loc) (ls : Array Slot), P_X12_byLaw_6 p1 post (fun (ms : Nat → Int32) (ma : Nat → Nat → Int32) (ml : Nat → Nat → Int64) => P_X12_byLaw_51 p1 post  ms ma ml) ms ml n6 x2_ ma → va_P D vwCl (List.flatten (wM aM C ms mw ma ml)) H → va_D A (List.flatten (wM aM C ms mw ma ml)) → va_S A s.heap H locs → lv_has ls 4 [(0, .ref (aM 0)), (1, .int p1), (2, .int x2_)] → W p l e rmX12_byLaw s m args below meth c H locs 0 0 Q (F0 m 6 ls []) := by
    intro ms ml
    intro n6
    induction n6 with
    | zero => intro x2_ ma H locs ls h hP hD hS hl; exact False.elim h
    | succ n6 ih6 =>
      intro x2_ ma H locs ls h hP hD hS hl
      refine lv_iload_n hx hb dX12_byLaw_6 rfl (lv_at hl 2 rfl) ?_
      refine lv_aload_n hx hb dX12_byLaw_7 rfl (lv_at hl 0 rfl) ?_
      refine va_get (D := D) (ci := 12) (v := .ref (aM 13)) (C := RX12) (T := TX12) (N := 51) hx hb hw inW_X12 hown hK hP 0 rfl rfl 23 (by decide) (hw _ mw_6_66) (fun _ h9 => h9) rfl dX12_byLaw_8 ?_
      refine lv_iconst (v := 0) hx hb dX12_byLaw_11 (by decide) ?_
      refine cIald hx hb hK hP 13 0 rfl rfl 0 (by decide +kernel) (cIn (by decide +kernel)) dX12_byLaw_12 ?_
      refine lv_icmp_ge (tgt := 51) hx hb dX12_byLaw_13 (by decide) (fun c6 => ?_) (fun c6 => ?_)
      · have h := h.1 c6
        exact N51 ms ma ml _ _ _ h hP hD hS (lv_sub hl [0] rfl)
      · have h := h.2 c6
        refine lv_aload_n hx hb dX12_byLaw_16 rfl (lv_at hl 0 rfl) ?_
        refine va_get (D := D) (ci := 12) (v := .ref (aM 14)) (C := RX12) (T := TX12) (N := 51) hx hb hw inW_X12 hown hK hP 0 rfl rfl 24 (by decide) (hw _ mw_6_67) (fun _ h9 => h9) rfl dX12_byLaw_17 ?_
        refine lv_iconst (v := 0) hx hb dX12_byLaw_20 (by decide) ?_
        refine lv_iload_n hx hb dX12_byLaw_21 rfl (lv_at hl 2 rfl) ?_
        refine cGoI (wo := fun u => wM aM C ms mw ma ml) (cRunS (As := [.int 0, .int x2_]) (rest := [.ref (aM 14)]) ⟨hx, hb, hml, hown, hw⟩ hK hN hP hD [] rfl rfl (k_X12_at l D C _    0 x2_ h) (va_cwS 2 hw (goodS mw_7_148 mw_7_149 mw_1_13 mw_7_150) rfl rfl rfl (by decide +kernel) ⟨Nat.le_of_ble_eq_true rfl, Nat.le_of_ble_eq_true rfl⟩) rfl hl.1 rfl (Nat.le_of_ble_eq_true rfl) dX12_byLaw_22 ⟨Nat.zero_le _, Nat.zero_le _⟩) hP hD hS hA [] [0, 1, 2, 3, 4, 5, 6, 7, 8, 9, 10, 11, 12, 13, 14, 15, 16, 17, 18, 19, 20, 21, 22, 23, 24, 25, 26, 27, 28, 29, 30, 31, 32] [0, 1, 2, 3, 4, 5, 6, 7, 8, 9, 10, 11, 12, 13, 14, 15, 16, 17, 18, 19, 20, 21, 22, 23, 24, 25, 26, 27, 28, 29, 30, 31, 32] rfl rfl rfl (by decide) rfl (fun _ => rfl) (fun r7 u H locs h hP hD hS => ?_)
        have hP : va_P D vwCl (List.flatten (wM aM C ms mw ma ml)) H := hP
        have hD : va_D A (List.flatten (wM aM C ms mw ma ml)) := hD
        refine lv_iconst (v := 3) hx hb dX12_byLaw_25 (by decide) ?_
        refine lv_iadd hx hb dX12_byLaw_26 ?_
        refine cIald hx hb hK hP 14 0 rfl rfl ((r7 + 3).toNatClampNeg) rfl h.1 dX12_byLaw_27 ?_
        have h := h.2
        refine lv_iload_n hx hb dX12_byLaw_28 rfl (lv_at hl 1 rfl) ?_
        refine lv_icmp_ge (tgt := 45) hx hb dX12_byLaw_29 (by decide) (fun c8 => ?_) (fun c8 => ?_)
        · have h := h.1 c8
          refine lv_iinc (v := (x2_ + 1)) (lv' := [(2, .int (x2_ + 1)), (0, .ref (aM 0)), (1, .int p1)]) hx hb dX12_byLaw_45 hl (k := 2) rfl rfl (by decide) rfl (fun ls hl => ?_)
          refine lv_goto (tgt := 6) hx hb dX12_byLaw_48 (by decide) ?_
          exact ih6 (x2_ + 1) ma _ _ _ h hP hD hS (lv_sub hl [1, 2, 0] rfl)
        · have h := h.2 c8
          refine lv_aload_n hx hb dX12_byLaw_32 rfl (lv_at hl 0 rfl) ?_
          refine va_get (D := D) (ci := 12) (v := .ref (aM 14)) (C := RX12) (T := TX12) (N := 51) hx hb hw inW_X12 hown hK hP 0 rfl rfl 24 (by decide) (hw _ mw_6_67) (fun _ h9 => h9) rfl dX12_byLaw_33 ?_
          refine lv_iconst (v := 0) hx hb dX12_byLaw_36 (by decide) ?_
          refine lv_iload_n hx hb dX12_byLaw_37 rfl (lv_at hl 2 rfl) ?_
          refine cGoI (wo := fun u => wM aM C ms mw ma ml) (cRunS (As := [.int 0, .int x2_]) (rest := [.ref (aM 14)]) ⟨hx, hb, hml, hown, hw⟩ hK hN hP hD [] rfl rfl (k_X12_at l D C _    0 x2_ h) (va_cwS 2 hw (goodS mw_7_148 mw_7_149 mw_1_13 mw_7_150) rfl rfl rfl (by decide +kernel) ⟨Nat.le_of_ble_eq_true rfl, Nat.le_of_ble_eq_true rfl⟩) rfl hl.1 rfl (Nat.le_of_ble_eq_true rfl) dX12_byLaw_38 ⟨Nat.zero_le _, Nat.zero_le _⟩) hP hD hS hA [] [0, 1, 2, 3, 4, 5, 6, 7, 8, 9, 10, 11, 12, 13, 14, 15, 16, 17, 18, 19, 20, 21, 22, 23, 24, 25, 26, 27, 28, 29, 30, 31, 32] [0, 1, 2, 3, 4, 5, 6, 7, 8, 9, 10, 11, 12, 13, 14, 15, 16, 17, 18, 19, 20, 21, 22, 23, 24, 25, 26, 27, 28, 29, 30, 31, 32] rfl rfl rfl (by decide) rfl (fun _ => rfl) (fun r9 u H locs h hP hD hS => ?_)
          have hP : va_P D vwCl (List.flatten (wM aM C ms mw ma ml)) H := hP
          have hD : va_D A (List.flatten (wM aM C ms mw ma ml)) := hD
          refine lv_iconst (v := 3) hx hb dX12_byLaw_41 (by decide) ?_
          refine lv_iadd hx hb dX12_byLaw_42 ?_
          refine lv_iload_n hx hb dX12_byLaw_43 rfl (lv_at hl 1 rfl) ?_
          refine cIast hx hb hK hP hD hS 14 0 rfl rfl ((r9 + 3).toNatClampNeg) rfl h.1 dX12_byLaw_44 (fun H locs hP hD hS => ?_)
          have h := h.2
          refine lv_iinc (v := (x2_ + 1)) (lv' := [(2, .int (x2_ + 1)), (0, .ref (aM 0)), (1, .int p1)]) hx hb dX12_byLaw_45 hl (k := 2) rfl rfl (by decide) rfl (fun ls hl => ?_)
          refine lv_goto (tgt := 6) hx hb dX12_byLaw_48 (by decide) ?_
          have hP : va_P D vwCl (List.flatten (wM aM C ms mw (va_up ma 11 (upd (ma 11) ((r9 + 3).toNatClampNeg) p1)) ml)) H := hP
          have hD : va_D A (List.flatten (wM aM C ms mw (va_up ma 11 (upd (ma 11) ((r9 + 3).toNatClampNeg) p1)) ml)) := hD
          exact ih6 (x2_ + 1) (va_up ma 11 (upd (ma 11) ((r9 + 3).toNatClampNeg) p1)) _ _ _ h hP hD hS (lv_sub hl [1, 2, 0] rfl)
  refine lv_aload_n hx hb dX12_byLaw_0 rfl (lv_at hl 0 rfl) ?_
  refine cGoV (wo := fun u => wM aM C ms mw u ml) (cRunV (As := []) (rest := []) ⟨hx, hb, hml, hown, hw⟩ hK hN hP hD [0, 1, 2, 3, 4, 5, 6, 7, 8, 9, 10, 11, 12, 13, 14, 15, 16, 17, 18, 19, 20, 21, 22, 23, 24, 25, 26, 27, 28, 29, 30, 31, 32] rfl rfl (k_X12_laysAside l D C _ aM  ms mw ma ml  h) (cwV 0 hw (goodV mw_8_93 mw_8_95 mw_s161 mw_1_13 mw_8_96) rfl rfl rfl (by decide +kernel) ⟨Nat.le_of_ble_eq_true rfl, Nat.le_of_ble_eq_true rfl⟩) rfl rfl rfl hl.1 rfl (Nat.le_of_ble_eq_true rfl) dX12_byLaw_1 ⟨Nat.zero_le _, Nat.zero_le _⟩) hP hD hS hA [0, 1, 2, 3, 4, 5, 6, 7, 8, 9, 10, 11, 12, 13, 14, 15, 16, 17, 18, 19, 20, 21, 22, 23, 24, 25, 26, 27, 28, 29, 30, 31, 32] [] [0, 1, 2, 3, 4, 5, 6, 7, 8, 9, 10, 11, 12, 13, 14, 15, 16, 17, 18, 19, 20, 21, 22, 23, 24, 25, 26, 27, 28, 29, 30, 31, 32] rfl rfl rfl (by decide) rfl (fun _ => rfl) (fun ma_10 H locs h hP hD hS => ?_)
  have hP : va_P D vwCl (List.flatten (wM aM C ms mw ma_10 ml)) H := hP
  have hD : va_D A (List.flatten (wM aM C ms mw ma_10 ml)) := hD
  refine lv_iconst (v := 0) hx hb dX12_byLaw_4 (by decide) ?_
  refine lv_istore_n (lv' := [(2, .int 0), (0, .ref (aM 0)), (1, .int p1)]) hx hb dX12_byLaw_5 rfl hl (by decide) rfl (fun ls hl => ?_)
  obtain ⟨n, h⟩ := h
  exact N6 ms ml n 0 ma_10 _ _ _ h hP hD hS (lv_sub hl [1, 2, 0] rfl)
abbrev vsX12_law : List Cond := Cond.code yX12_law cX12_law 2 (some .long) :: WS
abbrev rmX12_law : Room := { frames := 7, cells := 0, slots := 0, locals := 166 }
set_option maxHeartbeats 4000000 in
set_option maxRecDepth 100000 in
theorem k_X12_law (l : Launch) (D : va_G) (C : Nat → ClassId) (sz : Nat) (aM : Nat → Nat)  (ms : Nat → Int32) (mw : Nat → Int64) (ma : Nat → Nat → Int32) (ml : Nat → Nat → Int64) (p1 : Int32) {post : Int64 → (Nat → Int32) → (Nat → Nat → Int32) → (Nat → Nat → Int64) → Prop} (h : P_X12_law ms ma ml p1 post) : Met l yX12_law vsX12_law rmX12_law (cPre D C [.ref (aM 0), .int p1] sz (wM aM C ms mw ma ml)) (cQl D (fun (r : Int64) (u : (Nat → Int32) × (Nat → Nat → Int32) × (Nat → Nat → Int64)) => post r u.1 u.2.1 u.2.2) (fun u => wM aM C u.1 mw u.2.1 u.2.2) (va_A (List.flatten (wM aM C ms mw ma ml)) sz)) 0 0 (va_A (List.flatten (wM aM C ms mw ma ml)) sz) := by
  refine cStart (QA := fun A => cQl D (fun (r : Int64) (u : (Nat → Int32) × (Nat → Nat → Int32) × (Nat → Nat → Int64)) => post r u.1 u.2.1 u.2.2) (fun u => wM aM C u.1 mw u.2.1 u.2.2) A) (cc := cX12_law) (maxL := 2) (ret := (some .long)) (by decide) (Nat.le_of_ble_eq_true rfl) ?_
  intro p e s m args below meth c A ls hx hb hr hml hown hw hlocks hname hK hN hA hP hD hS hl
  generalize hQ : MQ below _ args s 0 0 A = Q
  have hl : lv_has ls 2 [(0, .ref (aM 0)), (1, .int p1)] := hl
  obtain ⟨H, hH⟩ : ∃ H, H = s.heap := ⟨_, rfl⟩
  obtain ⟨locs, hlo⟩ : ∃ z : List Loc, z = [] := ⟨_, rfl⟩
  have hP : va_P D vwCl (List.flatten (wM aM C ms mw ma ml)) H := by rw [hH]; exact hP
  have hS : va_S A s.heap H locs := by rw [hH, hlo]; exact hS
  rw [show W p l e rmX12_law s m args below meth c s.heap [] 0 0 Q (F0 m 0 ls []) = W p l e rmX12_law s m args below meth c H locs 0 0 Q (F0 m 0 ls []) from by rw [hH, hlo]]
  refine lv_aload_n hx hb dX12_law_0 rfl (lv_at hl 0 rfl) ?_
  refine lv_iconst (v := 0) hx hb dX12_law_1 (by decide) ?_
  refine va_put (D := D) (ci := 12) (v := .int 0) (ty := .int) (C := RX12) (T := TX12) (N := 51) hx hb hw inW_X12 tyX12 tyX12_ok nmX12 hown hK hP hD hS 0 rfl rfl 0 (by decide) (hw _ mw_6_43) (fun _ h9 => h9) rfl (by decide +kernel) rfl rfl (Nat.le_of_ble_eq_true rfl) dX12_law_2 (fun H locs hP hD hS => ?_)
  refine lv_aload_n hx hb dX12_law_5 rfl (lv_at hl 0 rfl) ?_
  have hP : va_P D vwCl (List.flatten (wM aM C (va_up ms 0 0) mw ma ml)) H := hP
  have hD : va_D A (List.flatten (wM aM C (va_up ms 0 0) mw ma ml)) := hD
  refine cGoI (wo := fun u => wM aM C (va_up ms 0 0) mw ma ml) (cRunV (As := []) (rest := []) ⟨hx, hb, hml, hown, hw⟩ hK hN hP hD [0, 1, 2, 3, 4, 5, 6, 7, 8, 9, 10, 11, 12, 13, 14, 15, 16, 17, 18, 19, 20, 21, 22, 23, 24, 25, 26, 27, 28, 29, 30, 31, 32] rfl rfl (k_X12_isRail l D C _ aM  (va_up ms 0 0) mw ma ml  h) (cwV 0 hw (goodV mw_7_204 mw_7_206 mw_s142 mw_1_13 mw_7_207) rfl rfl rfl (by decide +kernel) ⟨Nat.le_of_ble_eq_true rfl, Nat.le_of_ble_eq_true rfl⟩) rfl rfl rfl hl.1 rfl (Nat.le_of_ble_eq_true rfl) dX12_law_6 ⟨Nat.zero_le _, Nat.zero_le _⟩) hP hD hS hA [0, 1, 2, 3, 4, 5, 6, 7, 8, 9, 10, 11, 12, 13, 14, 15, 16, 17, 18, 19, 20, 21, 22, 23, 24, 25, 26, 27, 28, 29, 30, 31, 32] [] [0, 1, 2, 3, 4, 5, 6, 7, 8, 9, 10, 11, 12, 13, 14, 15, 16, 17, 18, 19, 20, 21, 22, 23, 24, 25, 26, 27, 28, 29, 30, 31, 32] rfl rfl rfl (by decide) rfl (fun _ => rfl) (fun r1 u H locs h hP hD hS => ?_)
  have hP : va_P D vwCl (List.flatten (wM aM C (va_up ms 0 0) mw ma ml)) H := hP
  have hD : va_D A (List.flatten (wM aM C (va_up ms 0 0) mw ma ml)) := hD
  refine lv_if_eq (tgt := 40) hx hb dX12_law_9 (by decide) (fun c2 => ?_) (fun c2 => ?_)
  · have h := h.1 c2
    refine lv_ldc2 (v := (-2)) hx hb hown (hw _ mw_7_208) dX12_law_40 ?_
    rw [← hQ]
    exact cRetL (v := (-2)) ((va_up ms 0 0), ma, ml) hx hb hr hlocks hS hP hD h dX12_law_43
  · have h := h.2 c2
    refine lv_iload_n hx hb dX12_law_12 rfl (lv_at hl 1 rfl) ?_
    refine lv_i2l hx hb dX12_law_13 rfl ?_
    refine lv_ldc2 (v := (-1)) hx hb hown (hw _ mw_7_15) dX12_law_14 ?_
    refine lv_aload_n hx hb dX12_law_17 rfl (lv_at hl 0 rfl) ?_
    refine va_get (D := D) (ci := 12) (v := .ref (aM 11)) (C := RX12) (T := TX12) (N := 51) hx hb hw inW_X12 hown hK hP 0 rfl rfl 21 (by decide) (hw _ mw_6_64) (fun _ h9 => h9) rfl dX12_law_18 ?_
    refine lv_iconst (v := 0) hx hb dX12_law_21 (by decide) ?_
    refine cIald hx hb hK hP 11 0 rfl rfl 0 (by decide +kernel) (cIn (by decide +kernel)) dX12_law_22 ?_
    refine lv_iconst (v := 1) hx hb dX12_law_23 (by decide) ?_
    refine lv_isub hx hb dX12_law_24 ?_
    refine lv_i2l hx hb dX12_law_25 rfl ?_
    refine cGoI (wo := fun u => wM aM C (va_up ms 0 0) mw ma ml) (cRunS (As := [.long p1.toInt64, .long (-1), .long (((ma 8 0) - 1).toInt64)]) (rest := []) ⟨hx, hb, hml, hown, hw⟩ hK hN hP hD [] rfl rfl (k_X12_in l D C _    p1.toInt64 (-1) (((ma 8 0) - 1).toInt64) h) (va_cwS 3 hw (goodS mw_6_205 mw_6_206 mw_1_13 mw_6_207) rfl rfl rfl (by decide +kernel) ⟨Nat.le_of_ble_eq_true rfl, Nat.le_of_ble_eq_true rfl⟩) rfl hl.1 rfl (Nat.le_of_ble_eq_true rfl) dX12_law_26 ⟨Nat.zero_le _, Nat.zero_le _⟩) hP hD hS hA [] [0, 1, 2, 3, 4, 5, 6, 7, 8, 9, 10, 11, 12, 13, 14, 15, 16, 17, 18, 19, 20, 21, 22, 23, 24, 25, 26, 27, 28, 29, 30, 31, 32] [0, 1, 2, 3, 4, 5, 6, 7, 8, 9, 10, 11, 12, 13, 14, 15, 16, 17, 18, 19, 20, 21, 22, 23, 24, 25, 26, 27, 28, 29, 30, 31, 32] rfl rfl rfl (by decide) rfl (fun _ => rfl) (fun r3 u H locs h hP hD hS => ?_)
    have hP : va_P D vwCl (List.flatten (wM aM C (va_up ms 0 0) mw ma ml)) H := hP
    have hD : va_D A (List.flatten (wM aM C (va_up ms 0 0) mw ma ml)) := hD
    refine lv_if_eq (tgt := 40) hx hb dX12_law_29 (by decide) (fun c4 => ?_) (fun c4 => ?_)
    · have h := h.1 c4
      refine lv_ldc2 (v := (-2)) hx hb hown (hw _ mw_7_208) dX12_law_40 ?_
      rw [← hQ]
      exact cRetL (v := (-2)) ((va_up ms 0 0), ma, ml) hx hb hr hlocks hS hP hD h dX12_law_43
    · have h := h.2 c4
      refine lv_aload_n hx hb dX12_law_32 rfl (lv_at hl 0 rfl) ?_
      refine lv_iload_n hx hb dX12_law_33 rfl (lv_at hl 1 rfl) ?_
      refine cGoL (wo := fun u => wM aM C u.1 mw u.2.1 u.2.2) (cRunV (As := [.int p1]) (rest := []) ⟨hx, hb, hml, hown, hw⟩ hK hN hP hD [0, 1, 2, 3, 4, 5, 6, 7, 8, 9, 10, 11, 12, 13, 14, 15, 16, 17, 18, 19, 20, 21, 22, 23, 24, 25, 26, 27, 28, 29, 30, 31, 32] rfl rfl (k_X12_byLaw l D C _ aM  (va_up ms 0 0) mw ma ml p1 h) (cwV 1 hw (goodV mw_9_23 mw_9_25 mw_s177 mw_1_13 mw_9_26) rfl rfl rfl (by decide +kernel) ⟨Nat.le_of_ble_eq_true rfl, Nat.le_of_ble_eq_true rfl⟩) rfl rfl rfl hl.1 rfl (Nat.le_of_ble_eq_true rfl) dX12_law_34 ⟨Nat.zero_le _, Nat.zero_le _⟩) hP hD hS hA [0, 1, 2, 3, 4, 5, 6, 7, 8, 9, 10, 11, 12, 13, 14, 15, 16, 17, 18, 19, 20, 21, 22, 23, 24, 25, 26, 27, 28, 29, 30, 31, 32] [] [0, 1, 2, 3, 4, 5, 6, 7, 8, 9, 10, 11, 12, 13, 14, 15, 16, 17, 18, 19, 20, 21, 22, 23, 24, 25, 26, 27, 28, 29, 30, 31, 32] rfl rfl rfl (by decide) rfl (fun _ => rfl) (fun r8 u H locs h hP hD hS => ?_)
      obtain ⟨ms_5, ma_6, ml_7⟩ := u
      have hP : va_P D vwCl (List.flatten (wM aM C ms_5 mw ma_6 ml_7)) H := hP
      have hD : va_D A (List.flatten (wM aM C ms_5 mw ma_6 ml_7)) := hD
      refine lv_goto (tgt := 43) hx hb dX12_law_37 (by decide) ?_
      rw [← hQ]
      exact cRetL (v := r8) (ms_5, ma_6, ml_7) hx hb hr hlocks hS hP hD h dX12_law_43
abbrev vsX12_laws : List Cond := Cond.code yX12_laws cX12_laws 7 (some .int) :: WS
abbrev rmX12_laws : Room := { frames := 7, cells := 0, slots := 0, locals := 166 }
set_option maxHeartbeats 4000000 in
set_option maxRecDepth 100000 in
theorem k_X12_laws (l : Launch) (D : va_G) (C : Nat → ClassId) (sz : Nat) (aM : Nat → Nat)  (ms : Nat → Int32) (mw : Nat → Int64) (ma : Nat → Nat → Int32) (ml : Nat → Nat → Int64)  {post : Int32 → (Nat → Int32) → (Nat → Nat → Int32) → (Nat → Nat → Int64) → Prop} (h : P_X12_laws ms ma ml post) : Met l yX12_laws vsX12_laws rmX12_laws (cPre D C [.ref (aM 0)] sz (wM aM C ms mw ma ml)) (cQi D (fun (r : Int32) (u : (Nat → Int32) × (Nat → Nat → Int32) × (Nat → Nat → Int64)) => post r u.1 u.2.1 u.2.2) (fun u => wM aM C u.1 mw u.2.1 u.2.2) (va_A (List.flatten (wM aM C ms mw ma ml)) sz)) 0 0 (va_A (List.flatten (wM aM C ms mw ma ml)) sz) := by
  refine cStart (QA := fun A => cQi D (fun (r : Int32) (u : (Nat → Int32) × (Nat → Nat → Int32) × (Nat → Nat → Int64)) => post r u.1 u.2.1 u.2.2) (fun u => wM aM C u.1 mw u.2.1 u.2.2) A) (cc := cX12_laws) (maxL := 7) (ret := (some .int)) (by decide) (Nat.le_of_ble_eq_true rfl) ?_
  intro p e s m args below meth c A ls hx hb hr hml hown hw hlocks hname hK hN hA hP hD hS hl
  generalize hQ : MQ below _ args s 0 0 A = Q
  have hl : lv_has ls 7 [(0, .ref (aM 0))] := hl
  obtain ⟨H, hH⟩ : ∃ H, H = s.heap := ⟨_, rfl⟩
  obtain ⟨locs, hlo⟩ : ∃ z : List Loc, z = [] := ⟨_, rfl⟩
  have hP : va_P D vwCl (List.flatten (wM aM C ms mw ma ml)) H := by rw [hH]; exact hP
  have hS : va_S A s.heap H locs := by rw [hH, hlo]; exact hS
  rw [show W p l e rmX12_laws s m args below meth c s.heap [] 0 0 Q (F0 m 0 ls []) = W p l e rmX12_laws s m args below meth c H locs 0 0 Q (F0 m 0 ls []) from by rw [hH, hlo]]
  have N26 : ∀  (n26 : Nat) (x1_ : Int32) (x2_ : Int64) (x4_ : Int32) (ms : Nat → Int32) (ma : Nat → Nat → Int32) (ml : Nat → Nat → Int64) (H : Heap) (locs : List Loc) (ls : Array Slot), P_X12_laws_26  post   n26 x1_ x2_ x4_ ms ma ml → va_P D vwCl (List.flatten (wM aM C ms mw ma ml)) H → va_D A (List.flatten (wM aM C ms mw ma ml)) → va_S A s.heap H locs → lv_has ls 7 [(0, .ref (aM 0)), (1, .int x1_), (2, .long x2_), (4, .int x4_)] → W p l e rmX12_laws s m args below meth c H locs 0 0 Q (F0 m 26 ls []) := by
    intro n26
    induction n26 with
    | zero => intro x1_ x2_ x4_ ms ma ml H locs ls h hP hD hS hl; exact False.elim h
    | succ n26 ih26 =>
      intro x1_ x2_ x4_ ms ma ml H locs ls h hP hD hS hl
      refine lv_iload hx hb dX12_laws_26 (lv_at hl 3 rfl) ?_
      refine lv_aload_n hx hb dX12_laws_28 rfl (lv_at hl 0 rfl) ?_
      refine va_get (D := D) (ci := 12) (v := .ref (aM 11)) (C := RX12) (T := TX12) (N := 51) hx hb hw inW_X12 hown hK hP 0 rfl rfl 21 (by decide) (hw _ mw_6_64) (fun _ h9 => h9) rfl dX12_laws_29 ?_
      refine lv_iconst (v := 0) hx hb dX12_laws_32 (by decide) ?_
      refine cIald hx hb hK hP 11 0 rfl rfl 0 (by decide +kernel) (cIn (by decide +kernel)) dX12_laws_33 ?_
      refine lv_icmp_ge (tgt := 67) hx hb dX12_laws_34 (by decide) (fun c1 => ?_) (fun c1 => ?_)
      · have h := h.1 c1
        refine lv_iload_n hx hb dX12_laws_67 rfl (lv_at hl 1 rfl) ?_
        rw [← hQ]
        exact cRetI (v := x1_) (ms, ma, ml) hx hb hr hlocks hS hP hD h dX12_laws_68
      · have h := h.2 c1
        refine lv_aload_n hx hb dX12_laws_37 rfl (lv_at hl 0 rfl) ?_
        refine lv_iload hx hb dX12_laws_38 (lv_at hl 3 rfl) ?_
        refine cGoL (wo := fun u => wM aM C u.1 mw u.2.1 u.2.2) (cRunV (As := [.int x4_]) (rest := []) ⟨hx, hb, hml, hown, hw⟩ hK hN hP hD [0, 1, 2, 3, 4, 5, 6, 7, 8, 9, 10, 11, 12, 13, 14, 15, 16, 17, 18, 19, 20, 21, 22, 23, 24, 25, 26, 27, 28, 29, 30, 31, 32] rfl rfl (k_X12_byLaw l D C _ aM  ms mw ma ml x4_ h) (cwV 1 hw (goodV mw_9_23 mw_9_25 mw_s177 mw_1_13 mw_9_26) rfl rfl rfl (by decide +kernel) ⟨Nat.le_of_ble_eq_true rfl, Nat.le_of_ble_eq_true rfl⟩) rfl rfl rfl hl.1 rfl (Nat.le_of_ble_eq_true rfl) dX12_laws_40 ⟨Nat.zero_le _, Nat.zero_le _⟩) hP hD hS hA [0, 1, 2, 3, 4, 5, 6, 7, 8, 9, 10, 11, 12, 13, 14, 15, 16, 17, 18, 19, 20, 21, 22, 23, 24, 25, 26, 27, 28, 29, 30, 31, 32] [] [0, 1, 2, 3, 4, 5, 6, 7, 8, 9, 10, 11, 12, 13, 14, 15, 16, 17, 18, 19, 20, 21, 22, 23, 24, 25, 26, 27, 28, 29, 30, 31, 32] rfl rfl rfl (by decide) rfl (fun _ => rfl) (fun r5 u H locs h hP hD hS => ?_)
        obtain ⟨ms_2, ma_3, ml_4⟩ := u
        have hP : va_P D vwCl (List.flatten (wM aM C ms_2 mw ma_3 ml_4)) H := hP
        have hD : va_D A (List.flatten (wM aM C ms_2 mw ma_3 ml_4)) := hD
        refine lv_lstore (lv' := [(5, .long r5), (0, .ref (aM 0)), (1, .int x1_), (2, .long x2_), (4, .int x4_)]) hx hb dX12_laws_43 hl (by decide) rfl (fun ls hl => ?_)
        refine lv_lload hx hb dX12_laws_45 (lv_at hl 0 rfl) ?_
        refine lv_lload_n hx hb dX12_laws_47 rfl (lv_at hl 3 rfl) ?_
        refine W.lcmp hx hb dX12_laws_48 ?_
        refine lv_if_lt (tgt := 55) hx hb dX12_laws_49 (by decide) (fun c6 => ?_) (fun c6 => ?_)
        · have c6 : r5 < x2_ := (lg_cmp_lt _ _).mp c6
          have h := h.1 c6
          refine lv_iload hx hb dX12_laws_55 (lv_at hl 4 rfl) ?_
          refine lv_istore_n (lv' := [(1, .int x4_), (5, .long r5), (0, .ref (aM 0)), (2, .long x2_), (4, .int x4_)]) hx hb dX12_laws_57 rfl hl (by decide) rfl (fun ls hl => ?_)
          refine lv_lload hx hb dX12_laws_58 (lv_at hl 1 rfl) ?_
          refine lv_lstore_n (lv' := [(2, .long r5), (1, .int x4_), (5, .long r5), (0, .ref (aM 0)), (4, .int x4_)]) hx hb dX12_laws_60 rfl hl (by decide) rfl (fun ls hl => ?_)
          refine lv_iinc (v := (x4_ + 1)) (lv' := [(4, .int (x4_ + 1)), (2, .long r5), (1, .int x4_), (5, .long r5), (0, .ref (aM 0))]) hx hb dX12_laws_61 hl (k := 4) rfl rfl (by decide) rfl (fun ls hl => ?_)
          refine lv_goto (tgt := 26) hx hb dX12_laws_64 (by decide) ?_
          exact ih26 x4_ r5 (x4_ + 1) ms_2 ma_3 ml_4 _ _ _ h hP hD hS (lv_sub hl [4, 2, 1, 0] rfl)
        · have c6 : ¬ r5 < x2_ := fun q => c6 ((lg_cmp_lt _ _).mpr q)
          have h := h.2 c6
          refine lv_goto (tgt := 61) hx hb dX12_laws_52 (by decide) ?_
          refine lv_iinc (v := (x4_ + 1)) (lv' := [(4, .int (x4_ + 1)), (5, .long r5), (0, .ref (aM 0)), (1, .int x1_), (2, .long x2_)]) hx hb dX12_laws_61 hl (k := 4) rfl rfl (by decide) rfl (fun ls hl => ?_)
          refine lv_goto (tgt := 26) hx hb dX12_laws_64 (by decide) ?_
          exact ih26 x1_ x2_ (x4_ + 1) ms_2 ma_3 ml_4 _ _ _ h hP hD hS (lv_sub hl [2, 3, 4, 0] rfl)
  refine lv_aload_n hx hb dX12_laws_0 rfl (lv_at hl 0 rfl) ?_
  refine lv_iconst (v := 0) hx hb dX12_laws_1 (by decide) ?_
  refine va_put (D := D) (ci := 12) (v := .int 0) (ty := .int) (C := RX12) (T := TX12) (N := 51) hx hb hw inW_X12 tyX12 tyX12_ok nmX12 hown hK hP hD hS 0 rfl rfl 0 (by decide) (hw _ mw_6_43) (fun _ h9 => h9) rfl (by decide +kernel) rfl rfl (Nat.le_of_ble_eq_true rfl) dX12_laws_2 (fun H locs hP hD hS => ?_)
  refine lv_aload_n hx hb dX12_laws_5 rfl (lv_at hl 0 rfl) ?_
  have hP : va_P D vwCl (List.flatten (wM aM C (va_up ms 0 0) mw ma ml)) H := hP
  have hD : va_D A (List.flatten (wM aM C (va_up ms 0 0) mw ma ml)) := hD
  refine cGoI (wo := fun u => wM aM C (va_up ms 0 0) mw ma ml) (cRunV (As := []) (rest := []) ⟨hx, hb, hml, hown, hw⟩ hK hN hP hD [0, 1, 2, 3, 4, 5, 6, 7, 8, 9, 10, 11, 12, 13, 14, 15, 16, 17, 18, 19, 20, 21, 22, 23, 24, 25, 26, 27, 28, 29, 30, 31, 32] rfl rfl (k_X12_isRail l D C _ aM  (va_up ms 0 0) mw ma ml  h) (cwV 0 hw (goodV mw_7_204 mw_7_206 mw_s142 mw_1_13 mw_7_207) rfl rfl rfl (by decide +kernel) ⟨Nat.le_of_ble_eq_true rfl, Nat.le_of_ble_eq_true rfl⟩) rfl rfl rfl hl.1 rfl (Nat.le_of_ble_eq_true rfl) dX12_laws_6 ⟨Nat.zero_le _, Nat.zero_le _⟩) hP hD hS hA [0, 1, 2, 3, 4, 5, 6, 7, 8, 9, 10, 11, 12, 13, 14, 15, 16, 17, 18, 19, 20, 21, 22, 23, 24, 25, 26, 27, 28, 29, 30, 31, 32] [] [0, 1, 2, 3, 4, 5, 6, 7, 8, 9, 10, 11, 12, 13, 14, 15, 16, 17, 18, 19, 20, 21, 22, 23, 24, 25, 26, 27, 28, 29, 30, 31, 32] rfl rfl rfl (by decide) rfl (fun _ => rfl) (fun r7 u H locs h hP hD hS => ?_)
  have hP : va_P D vwCl (List.flatten (wM aM C (va_up ms 0 0) mw ma ml)) H := hP
  have hD : va_D A (List.flatten (wM aM C (va_up ms 0 0) mw ma ml)) := hD
  refine lv_if_ne (tgt := 15) hx hb dX12_laws_9 (by decide) (fun c8 => ?_) (fun c8 => ?_)
  · have h := h.1 c8
    refine lv_iconst (v := (-1)) hx hb dX12_laws_15 (by decide) ?_
    refine lv_istore_n (lv' := [(1, .int (-1)), (0, .ref (aM 0))]) hx hb dX12_laws_16 rfl hl (by decide) rfl (fun ls hl => ?_)
    refine lv_aload_n hx hb dX12_laws_17 rfl (lv_at hl 1 rfl) ?_
    refine lv_iconst (v := (-1)) hx hb dX12_laws_18 (by decide) ?_
    refine cGoL (wo := fun u => wM aM C u.1 mw u.2.1 u.2.2) (cRunV (As := [.int (-1)]) (rest := []) ⟨hx, hb, hml, hown, hw⟩ hK hN hP hD [0, 1, 2, 3, 4, 5, 6, 7, 8, 9, 10, 11, 12, 13, 14, 15, 16, 17, 18, 19, 20, 21, 22, 23, 24, 25, 26, 27, 28, 29, 30, 31, 32] rfl rfl (k_X12_byLaw l D C _ aM  (va_up ms 0 0) mw ma ml (-1) h) (cwV 1 hw (goodV mw_9_23 mw_9_25 mw_s177 mw_1_13 mw_9_26) rfl rfl rfl (by decide +kernel) ⟨Nat.le_of_ble_eq_true rfl, Nat.le_of_ble_eq_true rfl⟩) rfl rfl rfl hl.1 rfl (Nat.le_of_ble_eq_true rfl) dX12_laws_19 ⟨Nat.zero_le _, Nat.zero_le _⟩) hP hD hS hA [0, 1, 2, 3, 4, 5, 6, 7, 8, 9, 10, 11, 12, 13, 14, 15, 16, 17, 18, 19, 20, 21, 22, 23, 24, 25, 26, 27, 28, 29, 30, 31, 32] [] [0, 1, 2, 3, 4, 5, 6, 7, 8, 9, 10, 11, 12, 13, 14, 15, 16, 17, 18, 19, 20, 21, 22, 23, 24, 25, 26, 27, 28, 29, 30, 31, 32] rfl rfl rfl (by decide) rfl (fun _ => rfl) (fun r12 u H locs h hP hD hS => ?_)
    obtain ⟨ms_9, ma_10, ml_11⟩ := u
    have hP : va_P D vwCl (List.flatten (wM aM C ms_9 mw ma_10 ml_11)) H := hP
    have hD : va_D A (List.flatten (wM aM C ms_9 mw ma_10 ml_11)) := hD
    refine lv_lstore_n (lv' := [(2, .long r12), (1, .int (-1)), (0, .ref (aM 0))]) hx hb dX12_laws_22 rfl hl (by decide) rfl (fun ls hl => ?_)
    refine lv_iconst (v := 0) hx hb dX12_laws_23 (by decide) ?_
    refine lv_istore (lv' := [(4, .int 0), (2, .long r12), (1, .int (-1)), (0, .ref (aM 0))]) hx hb dX12_laws_24 hl (by decide) rfl (fun ls hl => ?_)
    obtain ⟨n, h⟩ := h
    exact N26  n (-1) r12 0 ms_9 ma_10 ml_11 _ _ _ h hP hD hS (lv_sub hl [3, 2, 1, 0] rfl)
  · have h := h.2 c8
    refine lv_bipush (v := (-2)) hx hb dX12_laws_12 (by decide) ?_
    rw [← hQ]
    exact cRetI (v := (-2)) ((va_up ms 0 0), ma, ml) hx hb hr hlocks hS hP hD h dX12_laws_14
abbrev vsX12_netOn : List Cond := Cond.code yX12_netOn cX12_netOn 9 (some .int) :: WS
abbrev rmX12_netOn : Room := { frames := 3, cells := 0, slots := 0, locals := 72 }
set_option maxHeartbeats 4000000 in
set_option maxRecDepth 100000 in
theorem k_X12_netOn (l : Launch) (D : va_G) (C : Nat → ClassId) (sz : Nat) (aM : Nat → Nat)  (ms : Nat → Int32) (mw : Nat → Int64) (ma : Nat → Nat → Int32) (ml : Nat → Nat → Int64) (p1 : Int32) (p2 : Int32) {post : Int32 → Prop} (h : P_X12_netOn ms ma p1 p2 post) : Met l yX12_netOn vsX12_netOn rmX12_netOn (cPre D C [.ref (aM 0), .int p1, .int p2] sz (wM aM C ms mw ma ml)) (cQi D (fun (r : Int32) (u : Unit) => post r ) (fun u => wM aM C ms mw ma ml) (va_A (List.flatten (wM aM C ms mw ma ml)) sz)) 0 0 (va_A (List.flatten (wM aM C ms mw ma ml)) sz) := by
  refine cStart (QA := fun A => cQi D (fun (r : Int32) (u : Unit) => post r ) (fun u => wM aM C ms mw ma ml) A) (cc := cX12_netOn) (maxL := 9) (ret := (some .int)) (by decide) (Nat.le_of_ble_eq_true rfl) ?_
  intro p e s m args below meth c A ls hx hb hr hml hown hw hlocks hname hK hN hA hP hD hS hl
  generalize hQ : MQ below _ args s 0 0 A = Q
  have hl : lv_has ls 9 [(0, .ref (aM 0)), (1, .int p1), (2, .int p2)] := hl
  obtain ⟨H, hH⟩ : ∃ H, H = s.heap := ⟨_, rfl⟩
  obtain ⟨locs, hlo⟩ : ∃ z : List Loc, z = [] := ⟨_, rfl⟩
  have hP : va_P D vwCl (List.flatten (wM aM C ms mw ma ml)) H := by rw [hH]; exact hP
  have hS : va_S A s.heap H locs := by rw [hH, hlo]; exact hS
  rw [show W p l e rmX12_netOn s m args below meth c s.heap [] 0 0 Q (F0 m 0 ls []) = W p l e rmX12_netOn s m args below meth c H locs 0 0 Q (F0 m 0 ls []) from by rw [hH, hlo]]
  have N20 : ∀ (x3_ : Int32) (n20 : Nat) (x4_ : Int32) (x5_ : Int32) (x6_ : Int32) (H : Heap) (locs : List Loc) (ls : Array Slot), P_X12_netOn_20 ms ma p1 p2 post  x3_ n20 x4_ x5_ x6_ → va_P D vwCl (List.flatten (wM aM C ms mw ma ml)) H → va_D A (List.flatten (wM aM C ms mw ma ml)) → va_S A s.heap H locs → lv_has ls 9 [(0, .ref (aM 0)), (1, .int p1), (2, .int p2), (3, .int x3_), (4, .int x4_), (5, .int x5_), (6, .int x6_)] → W p l e rmX12_netOn s m args below meth c H locs 0 0 Q (F0 m 20 ls []) := by
    intro x3_
    intro n20
    induction n20 with
    | zero => intro x4_ x5_ x6_ H locs ls h hP hD hS hl; exact False.elim h
    | succ n20 ih20 =>
      have N97 : ∀ (x4_ : Int32) (x5_ : Int32) (x6_ : Int32) (x7_ : Int32) (x8_ : Int32) (H : Heap) (locs : List Loc) (ls : Array Slot), P_X12_netOn_97 ms ma p1 p2 x3_ post (P_X12_netOn_20 ms ma p1 p2 post  x3_ n20) x4_ x5_ x6_ x7_ x8_ → va_P D vwCl (List.flatten (wM aM C ms mw ma ml)) H → va_D A (List.flatten (wM aM C ms mw ma ml)) → va_S A s.heap H locs → lv_has ls 9 [(0, .ref (aM 0)), (1, .int p1), (2, .int p2), (3, .int x3_), (4, .int x4_), (5, .int x5_), (6, .int x6_), (7, .int x7_), (8, .int x8_)] → W p l e rmX12_netOn s m args below meth c H locs 0 0 Q (F0 m 97 ls []) := by
        intro x4_ x5_ x6_ x7_ x8_ H locs ls h hP hD hS hl
        refine lv_iload_n hx hb dX12_netOn_97 rfl (lv_at hl 3 rfl) ?_
        refine lv_iconst (v := 1) hx hb dX12_netOn_98 (by decide) ?_
        refine lv_icmp_ne (tgt := 117) hx hb dX12_netOn_99 (by decide) (fun c1 => ?_) (fun c1 => ?_)
        · have h := h.1 c1
          refine lv_iinc (v := (x6_ + 1)) (lv' := [(6, .int (x6_ + 1)), (0, .ref (aM 0)), (1, .int p1), (2, .int p2), (3, .int x3_), (4, .int x4_), (5, .int x5_), (7, .int x7_), (8, .int x8_)]) hx hb dX12_netOn_117 hl (k := 6) rfl rfl (by decide) rfl (fun ls hl => ?_)
          refine lv_goto (tgt := 20) hx hb dX12_netOn_120 (by decide) ?_
          exact ih20 x4_ x5_ (x6_ + 1) _ _ _ h hP hD hS (lv_sub hl [1, 2, 3, 4, 5, 6, 0] rfl)
        · have h := h.2 c1
          refine lv_iload hx hb dX12_netOn_102 (lv_at hl 7 rfl) ?_
          refine lv_iload hx hb dX12_netOn_104 (lv_at hl 4 rfl) ?_
          refine lv_icmp_ge (tgt := 117) hx hb dX12_netOn_106 (by decide) (fun c2 => ?_) (fun c2 => ?_)
          · have h := h.1 c2
            refine lv_iinc (v := (x6_ + 1)) (lv' := [(6, .int (x6_ + 1)), (0, .ref (aM 0)), (1, .int p1), (2, .int p2), (3, .int x3_), (4, .int x4_), (5, .int x5_), (7, .int x7_), (8, .int x8_)]) hx hb dX12_netOn_117 hl (k := 6) rfl rfl (by decide) rfl (fun ls hl => ?_)
            refine lv_goto (tgt := 20) hx hb dX12_netOn_120 (by decide) ?_
            exact ih20 x4_ x5_ (x6_ + 1) _ _ _ h hP hD hS (lv_sub hl [1, 2, 3, 4, 5, 6, 0] rfl)
          · have h := h.2 c2
            refine lv_iload hx hb dX12_netOn_109 (lv_at hl 8 rfl) ?_
            refine lv_istore (lv' := [(5, .int x8_), (0, .ref (aM 0)), (1, .int p1), (2, .int p2), (3, .int x3_), (4, .int x4_), (6, .int x6_), (7, .int x7_), (8, .int x8_)]) hx hb dX12_netOn_111 hl (by decide) rfl (fun ls hl => ?_)
            refine lv_iload hx hb dX12_netOn_113 (lv_at hl 7 rfl) ?_
            refine lv_istore (lv' := [(4, .int x7_), (5, .int x8_), (0, .ref (aM 0)), (1, .int p1), (2, .int p2), (3, .int x3_), (6, .int x6_), (7, .int x7_), (8, .int x8_)]) hx hb dX12_netOn_115 hl (by decide) rfl (fun ls hl => ?_)
            refine lv_iinc (v := (x6_ + 1)) (lv' := [(6, .int (x6_ + 1)), (4, .int x7_), (5, .int x8_), (0, .ref (aM 0)), (1, .int p1), (2, .int p2), (3, .int x3_), (7, .int x7_), (8, .int x8_)]) hx hb dX12_netOn_117 hl (k := 6) rfl rfl (by decide) rfl (fun ls hl => ?_)
            refine lv_goto (tgt := 20) hx hb dX12_netOn_120 (by decide) ?_
            exact ih20 x7_ x8_ (x6_ + 1) _ _ _ h hP hD hS (lv_sub hl [3, 4, 5, 6, 1, 2, 0] rfl)
      have N81 : ∀ (x4_ : Int32) (x5_ : Int32) (x6_ : Int32) (x7_ : Int32) (x8_ : Int32) (H : Heap) (locs : List Loc) (ls : Array Slot), P_X12_netOn_81 ms ma p1 p2 x3_ post (P_X12_netOn_20 ms ma p1 p2 post  x3_ n20) x4_ x5_ x6_ x7_ x8_ → va_P D vwCl (List.flatten (wM aM C ms mw ma ml)) H → va_D A (List.flatten (wM aM C ms mw ma ml)) → va_S A s.heap H locs → lv_has ls 9 [(0, .ref (aM 0)), (1, .int p1), (2, .int p2), (3, .int x3_), (4, .int x4_), (5, .int x5_), (6, .int x6_), (7, .int x7_), (8, .int x8_)] → W p l e rmX12_netOn s m args below meth c H locs 0 0 Q (F0 m 81 ls []) := by
        intro x4_ x5_ x6_ x7_ x8_ H locs ls h hP hD hS hl
        refine lv_iload hx hb dX12_netOn_81 (lv_at hl 5 rfl) ?_
        refine lv_if_eq (tgt := 109) hx hb dX12_netOn_83 (by decide) (fun c3 => ?_) (fun c3 => ?_)
        · have h := h.1 c3
          refine lv_iload hx hb dX12_netOn_109 (lv_at hl 8 rfl) ?_
          refine lv_istore (lv' := [(5, .int x8_), (0, .ref (aM 0)), (1, .int p1), (2, .int p2), (3, .int x3_), (4, .int x4_), (6, .int x6_), (7, .int x7_), (8, .int x8_)]) hx hb dX12_netOn_111 hl (by decide) rfl (fun ls hl => ?_)
          refine lv_iload hx hb dX12_netOn_113 (lv_at hl 7 rfl) ?_
          refine lv_istore (lv' := [(4, .int x7_), (5, .int x8_), (0, .ref (aM 0)), (1, .int p1), (2, .int p2), (3, .int x3_), (6, .int x6_), (7, .int x7_), (8, .int x8_)]) hx hb dX12_netOn_115 hl (by decide) rfl (fun ls hl => ?_)
          refine lv_iinc (v := (x6_ + 1)) (lv' := [(6, .int (x6_ + 1)), (4, .int x7_), (5, .int x8_), (0, .ref (aM 0)), (1, .int p1), (2, .int p2), (3, .int x3_), (7, .int x7_), (8, .int x8_)]) hx hb dX12_netOn_117 hl (k := 6) rfl rfl (by decide) rfl (fun ls hl => ?_)
          refine lv_goto (tgt := 20) hx hb dX12_netOn_120 (by decide) ?_
          exact ih20 x7_ x8_ (x6_ + 1) _ _ _ h hP hD hS (lv_sub hl [3, 4, 5, 6, 1, 2, 0] rfl)
        · have h := h.2 c3
          refine lv_iload_n hx hb dX12_netOn_86 rfl (lv_at hl 3 rfl) ?_
          refine lv_if_ne (tgt := 97) hx hb dX12_netOn_87 (by decide) (fun c4 => ?_) (fun c4 => ?_)
          · have h := h.1 c4
            exact N97 x4_ x5_ x6_ x7_ x8_ _ _ _ h hP hD hS (lv_sub hl [0, 1, 2, 3, 4, 5, 6, 7, 8] rfl)
          · have h := h.2 c4
            refine lv_iload hx hb dX12_netOn_90 (lv_at hl 8 rfl) ?_
            refine lv_iload hx hb dX12_netOn_92 (lv_at hl 5 rfl) ?_
            refine lv_icmp_gt (tgt := 109) hx hb dX12_netOn_94 (by decide) (fun c5 => ?_) (fun c5 => ?_)
            · have h := h.1 c5
              refine lv_iload hx hb dX12_netOn_109 (lv_at hl 8 rfl) ?_
              refine lv_istore (lv' := [(5, .int x8_), (0, .ref (aM 0)), (1, .int p1), (2, .int p2), (3, .int x3_), (4, .int x4_), (6, .int x6_), (7, .int x7_), (8, .int x8_)]) hx hb dX12_netOn_111 hl (by decide) rfl (fun ls hl => ?_)
              refine lv_iload hx hb dX12_netOn_113 (lv_at hl 7 rfl) ?_
              refine lv_istore (lv' := [(4, .int x7_), (5, .int x8_), (0, .ref (aM 0)), (1, .int p1), (2, .int p2), (3, .int x3_), (6, .int x6_), (7, .int x7_), (8, .int x8_)]) hx hb dX12_netOn_115 hl (by decide) rfl (fun ls hl => ?_)
              refine lv_iinc (v := (x6_ + 1)) (lv' := [(6, .int (x6_ + 1)), (4, .int x7_), (5, .int x8_), (0, .ref (aM 0)), (1, .int p1), (2, .int p2), (3, .int x3_), (7, .int x7_), (8, .int x8_)]) hx hb dX12_netOn_117 hl (k := 6) rfl rfl (by decide) rfl (fun ls hl => ?_)
              refine lv_goto (tgt := 20) hx hb dX12_netOn_120 (by decide) ?_
              exact ih20 x7_ x8_ (x6_ + 1) _ _ _ h hP hD hS (lv_sub hl [3, 4, 5, 6, 1, 2, 0] rfl)
            · have h := h.2 c5
              exact N97 x4_ x5_ x6_ x7_ x8_ _ _ _ h hP hD hS (lv_sub hl [0, 1, 2, 3, 4, 5, 6, 7, 8] rfl)
      intro x4_ x5_ x6_ H locs ls h hP hD hS hl
      refine lv_iload hx hb dX12_netOn_20 (lv_at hl 6 rfl) ?_
      refine lv_aload_n hx hb dX12_netOn_22 rfl (lv_at hl 0 rfl) ?_
      refine va_get (D := D) (ci := 12) (v := .ref (aM 13)) (C := RX12) (T := TX12) (N := 51) hx hb hw inW_X12 hown hK hP 0 rfl rfl 23 (by decide) (hw _ mw_6_66) (fun _ h9 => h9) rfl dX12_netOn_23 ?_
      refine lv_iload_n hx hb dX12_netOn_26 rfl (lv_at hl 2 rfl) ?_
      refine cIald hx hb hK hP 13 0 rfl rfl p2.toNatClampNeg rfl h.1 dX12_netOn_27 ?_
      have h := h.2
      refine lv_icmp_ge (tgt := 123) hx hb dX12_netOn_28 (by decide) (fun c6 => ?_) (fun c6 => ?_)
      · have h := h.1 c6
        refine lv_iload hx hb dX12_netOn_123 (lv_at hl 5 rfl) ?_
        rw [← hQ]
        exact cRetI (v := x5_) () hx hb hr hlocks hS hP hD h dX12_netOn_125
      · have h := h.2 c6
        refine lv_aload_n hx hb dX12_netOn_31 rfl (lv_at hl 0 rfl) ?_
        refine lv_iload_n hx hb dX12_netOn_32 rfl (lv_at hl 1 rfl) ?_
        refine lv_iload_n hx hb dX12_netOn_33 rfl (lv_at hl 2 rfl) ?_
        refine lv_iload hx hb dX12_netOn_34 (lv_at hl 6 rfl) ?_
        refine cGoI (wo := fun u => wM aM C ms mw ma ml) (cRunV (As := [.int p1, .int p2, .int x6_]) (rest := []) ⟨hx, hb, hml, hown, hw⟩ hK hN hP hD [0, 1, 2, 3, 4, 5, 6, 7, 8, 9, 10, 11, 12, 13, 14, 15, 16, 17, 18, 19, 20, 21, 22, 23, 24, 25, 26, 27, 28, 29, 30, 31, 32] rfl rfl (k_X12_troubleOf l D C _ aM  ms mw ma ml p1 p2 x6_ h) (cwV 3 hw (goodV mw_7_159 mw_7_161 mw_s135 mw_1_13 mw_7_162) rfl rfl rfl (by decide +kernel) ⟨Nat.le_of_ble_eq_true rfl, Nat.le_of_ble_eq_true rfl⟩) rfl rfl rfl hl.1 rfl (Nat.le_of_ble_eq_true rfl) dX12_netOn_36 ⟨Nat.zero_le _, Nat.zero_le _⟩) hP hD hS hA [0, 1, 2, 3, 4, 5, 6, 7, 8, 9, 10, 11, 12, 13, 14, 15, 16, 17, 18, 19, 20, 21, 22, 23, 24, 25, 26, 27, 28, 29, 30, 31, 32] [] [0, 1, 2, 3, 4, 5, 6, 7, 8, 9, 10, 11, 12, 13, 14, 15, 16, 17, 18, 19, 20, 21, 22, 23, 24, 25, 26, 27, 28, 29, 30, 31, 32] rfl rfl rfl (by decide) rfl (fun _ => rfl) (fun r7 u H locs h hP hD hS => ?_)
        have hP : va_P D vwCl (List.flatten (wM aM C ms mw ma ml)) H := hP
        have hD : va_D A (List.flatten (wM aM C ms mw ma ml)) := hD
        refine lv_istore (lv' := [(7, .int r7), (0, .ref (aM 0)), (1, .int p1), (2, .int p2), (3, .int x3_), (4, .int x4_), (5, .int x5_), (6, .int x6_)]) hx hb dX12_netOn_39 hl (by decide) rfl (fun ls hl => ?_)
        refine lv_aload_n hx hb dX12_netOn_41 rfl (lv_at hl 1 rfl) ?_
        refine lv_iload_n hx hb dX12_netOn_42 rfl (lv_at hl 3 rfl) ?_
        refine lv_iload hx hb dX12_netOn_43 (lv_at hl 7 rfl) ?_
        refine cGoI (wo := fun u => wM aM C ms mw ma ml) (cRunV (As := [.int p2, .int x6_]) (rest := []) ⟨hx, hb, hml, hown, hw⟩ hK hN hP hD [0, 1, 2, 3, 4, 5, 6, 7, 8, 9, 10, 11, 12, 13, 14, 15, 16, 17, 18, 19, 20, 21, 22, 23, 24, 25, 26, 27, 28, 29, 30, 31, 32] rfl rfl (k_X12_gainOf l D C _ aM  ms mw ma ml p2 x6_ h) (cwV 2 hw (goodV mw_7_168 mw_7_170 mw_s136 mw_1_13 mw_7_171) rfl rfl rfl (by decide +kernel) ⟨Nat.le_of_ble_eq_true rfl, Nat.le_of_ble_eq_true rfl⟩) rfl rfl rfl hl.1 rfl (Nat.le_of_ble_eq_true rfl) dX12_netOn_45 ⟨Nat.zero_le _, Nat.zero_le _⟩) hP hD hS hA [0, 1, 2, 3, 4, 5, 6, 7, 8, 9, 10, 11, 12, 13, 14, 15, 16, 17, 18, 19, 20, 21, 22, 23, 24, 25, 26, 27, 28, 29, 30, 31, 32] [] [0, 1, 2, 3, 4, 5, 6, 7, 8, 9, 10, 11, 12, 13, 14, 15, 16, 17, 18, 19, 20, 21, 22, 23, 24, 25, 26, 27, 28, 29, 30, 31, 32] rfl rfl rfl (by decide) rfl (fun _ => rfl) (fun r8 u H locs h hP hD hS => ?_)
        have hP : va_P D vwCl (List.flatten (wM aM C ms mw ma ml)) H := hP
        have hD : va_D A (List.flatten (wM aM C ms mw ma ml)) := hD
        refine lv_iload hx hb dX12_netOn_48 (lv_at hl 0 rfl) ?_
        refine lv_isub hx hb dX12_netOn_50 ?_
        refine lv_topi (fun x9 ex9 => ?_)
        have h := h x9 ex9
        refine lv_istore (lv' := [(8, .int x9), (7, .int r7), (0, .ref (aM 0)), (1, .int p1), (2, .int p2), (3, .int x3_), (4, .int x4_), (5, .int x5_), (6, .int x6_)]) hx hb dX12_netOn_51 hl (by decide) rfl (fun ls hl => ?_)
        refine lv_iload hx hb dX12_netOn_53 (lv_at hl 0 rfl) ?_
        refine lv_if_le (tgt := 117) hx hb dX12_netOn_55 (by decide) (fun c10 => ?_) (fun c10 => ?_)
        · have h := h.1 c10
          refine lv_iinc (v := (x6_ + 1)) (lv' := [(6, .int (x6_ + 1)), (8, .int x9), (7, .int r7), (0, .ref (aM 0)), (1, .int p1), (2, .int p2), (3, .int x3_), (4, .int x4_), (5, .int x5_)]) hx hb dX12_netOn_117 hl (k := 8) rfl rfl (by decide) rfl (fun ls hl => ?_)
          refine lv_goto (tgt := 20) hx hb dX12_netOn_120 (by decide) ?_
          exact ih20 x4_ x5_ (x6_ + 1) _ _ _ h hP hD hS (lv_sub hl [3, 4, 5, 6, 7, 8, 0] rfl)
        · have h := h.2 c10
          refine lv_iload_n hx hb dX12_netOn_58 rfl (lv_at hl 5 rfl) ?_
          refine lv_iconst (v := 2) hx hb dX12_netOn_59 (by decide) ?_
          refine lv_icmp_ne (tgt := 81) hx hb dX12_netOn_60 (by decide) (fun c11 => ?_) (fun c11 => ?_)
          · have h := h.1 c11
            exact N81 x4_ x5_ x6_ r7 x9 _ _ _ h hP hD hS (lv_sub hl [2, 3, 4, 5, 6, 7, 8, 1, 0] rfl)
          · have h := h.2 c11
            refine lv_iload hx hb dX12_netOn_63 (lv_at hl 8 rfl) ?_
            refine lv_aload_n hx hb dX12_netOn_65 rfl (lv_at hl 2 rfl) ?_
            refine va_get (D := D) (ci := 12) (v := .ref (aM 16)) (C := RX12) (T := TX12) (N := 51) hx hb hw inW_X12 hown hK hP 0 rfl rfl 26 (by decide) (hw _ mw_6_69) (fun _ h9 => h9) rfl dX12_netOn_66 ?_
            refine lv_iconst (v := 5) hx hb dX12_netOn_69 (by decide) ?_
            refine lv_iload_n hx hb dX12_netOn_70 rfl (lv_at hl 3 rfl) ?_
            refine lv_imul hx hb dX12_netOn_71 ?_
            refine lv_iconst (v := 4) hx hb dX12_netOn_72 (by decide) ?_
            refine lv_iadd hx hb dX12_netOn_73 ?_
            refine cIald hx hb hK hP 16 0 rfl rfl (((5 * p1) + 4).toNatClampNeg) rfl h.1 dX12_netOn_74 ?_
            have h := h.2
            refine lv_icmp_eq (tgt := 81) hx hb dX12_netOn_75 (by decide) (fun c12 => ?_) (fun c12 => ?_)
            · have h := h.1 c12
              exact N81 x4_ x5_ x6_ r7 x9 _ _ _ h hP hD hS (lv_sub hl [2, 3, 4, 5, 6, 7, 8, 1, 0] rfl)
            · have h := h.2 c12
              refine lv_goto (tgt := 117) hx hb dX12_netOn_78 (by decide) ?_
              refine lv_iinc (v := (x6_ + 1)) (lv' := [(6, .int (x6_ + 1)), (8, .int x9), (7, .int r7), (0, .ref (aM 0)), (1, .int p1), (2, .int p2), (3, .int x3_), (4, .int x4_), (5, .int x5_)]) hx hb dX12_netOn_117 hl (k := 8) rfl rfl (by decide) rfl (fun ls hl => ?_)
              refine lv_goto (tgt := 20) hx hb dX12_netOn_120 (by decide) ?_
              exact ih20 x4_ x5_ (x6_ + 1) _ _ _ h hP hD hS (lv_sub hl [3, 4, 5, 6, 7, 8, 0] rfl)
  refine lv_aload_n hx hb dX12_netOn_0 rfl (lv_at hl 0 rfl) ?_
  refine va_get (D := D) (ci := 12) (v := .ref (aM 16)) (C := RX12) (T := TX12) (N := 51) hx hb hw inW_X12 hown hK hP 0 rfl rfl 26 (by decide) (hw _ mw_6_69) (fun _ h9 => h9) rfl dX12_netOn_1 ?_
  refine lv_iconst (v := 5) hx hb dX12_netOn_4 (by decide) ?_
  refine lv_iload_n hx hb dX12_netOn_5 rfl (lv_at hl 1 rfl) ?_
  refine lv_imul hx hb dX12_netOn_6 ?_
  refine lv_iconst (v := 3) hx hb dX12_netOn_7 (by decide) ?_
  refine lv_iadd hx hb dX12_netOn_8 ?_
  refine cIald hx hb hK hP 16 0 rfl rfl (((5 * p1) + 3).toNatClampNeg) rfl h.1 dX12_netOn_9 ?_
  have h := h.2
  refine lv_topi (fun x13 ex13 => ?_)
  have h := h x13 ex13
  refine lv_istore_n (lv' := [(3, .int x13), (0, .ref (aM 0)), (1, .int p1), (2, .int p2)]) hx hb dX12_netOn_10 rfl hl (by decide) rfl (fun ls hl => ?_)
  refine lv_iconst (v := 0) hx hb dX12_netOn_11 (by decide) ?_
  refine lv_istore (lv' := [(4, .int 0), (3, .int x13), (0, .ref (aM 0)), (1, .int p1), (2, .int p2)]) hx hb dX12_netOn_12 hl (by decide) rfl (fun ls hl => ?_)
  refine lv_iconst (v := 0) hx hb dX12_netOn_14 (by decide) ?_
  refine lv_istore (lv' := [(5, .int 0), (4, .int 0), (3, .int x13), (0, .ref (aM 0)), (1, .int p1), (2, .int p2)]) hx hb dX12_netOn_15 hl (by decide) rfl (fun ls hl => ?_)
  refine lv_iconst (v := 0) hx hb dX12_netOn_17 (by decide) ?_
  refine lv_istore (lv' := [(6, .int 0), (5, .int 0), (4, .int 0), (3, .int x13), (0, .ref (aM 0)), (1, .int p1), (2, .int p2)]) hx hb dX12_netOn_18 hl (by decide) rfl (fun ls hl => ?_)
  obtain ⟨n, h⟩ := h
  exact N20 x13 n 0 0 0 _ _ _ h hP hD hS (lv_sub hl [4, 5, 6, 3, 2, 1, 0] rfl)
