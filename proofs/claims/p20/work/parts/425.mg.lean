abbrev vsX12_careless : List Cond := Cond.code yX12_careless cX12_careless 4 (some .int) :: WS
abbrev rmX12_careless : Room := { frames := 6, cells := 0, slots := 0, locals := 147 }
set_option maxHeartbeats 4000000 in
set_option maxRecDepth 100000 in
theorem k_X12_careless (l : Launch) (D : va_G) (C : Nat → ClassId) (sz : Nat) (aM : Nat → Nat)  (ms : Nat → Int32) (mw : Nat → Int64) (ma : Nat → Nat → Int32) (ml : Nat → Nat → Int64) (p1 : Int32) (p2 : Int32) (p3 : Int32) {post : Int32 → (Nat → Int32) → (Nat → Int64) → (Nat → Nat → Int32) → (Nat → Nat → Int64) → Prop} (h : P_X12_careless ms mw ma ml p1 p2 p3 post) : Met l yX12_careless vsX12_careless rmX12_careless (cPre D C [.ref (aM 0), .int p1, .int p2, .int p3] sz (wM aM C ms mw ma ml)) (cQi D (fun (r : Int32) (u : (Nat → Int32) × (Nat → Int64) × (Nat → Nat → Int32) × (Nat → Nat → Int64)) => post r u.1 u.2.1 u.2.2.1 u.2.2.2) (fun u => wM aM C u.1 u.2.1 u.2.2.1 u.2.2.2) (va_A (List.flatten (wM aM C ms mw ma ml)) sz)) 0 0 (va_A (List.flatten (wM aM C ms mw ma ml)) sz) := by
  refine cStart (QA := fun A => cQi D (fun (r : Int32) (u : (Nat → Int32) × (Nat → Int64) × (Nat → Nat → Int32) × (Nat → Nat → Int64)) => post r u.1 u.2.1 u.2.2.1 u.2.2.2) (fun u => wM aM C u.1 u.2.1 u.2.2.1 u.2.2.2) A) (cc := cX12_careless) (maxL := 4) (ret := (some .int)) (by decide) (Nat.le_of_ble_eq_true rfl) ?_
  intro p e s m args below meth c A ls hx hb hr hml hown hw hlocks hname hK hN hA hP hD hS hl
  generalize hQ : MQ below _ args s 0 0 A = Q
  have hl : lv_has ls 4 [(0, .ref (aM 0)), (1, .int p1), (2, .int p2), (3, .int p3)] := hl
  obtain ⟨H, hH⟩ : ∃ H, H = s.heap := ⟨_, rfl⟩
  obtain ⟨locs, hlo⟩ : ∃ z : List Loc, z = [] := ⟨_, rfl⟩
  have hP : va_P D vwCl (List.flatten (wM aM C ms mw ma ml)) H := by rw [hH]; exact hP
  have hS : va_S A s.heap H locs := by rw [hH, hlo]; exact hS
  rw [show W p l e rmX12_careless s m args below meth c s.heap [] 0 0 Q (F0 m 0 ls []) = W p l e rmX12_careless s m args below meth c H locs 0 0 Q (F0 m 0 ls []) from by rw [hH, hlo]]
  refine lv_aload_n hx hb dX12_careless_0 rfl (lv_at hl 0 rfl) ?_
  refine lv_iconst (v := 0) hx hb dX12_careless_1 (by decide) ?_
  refine va_put (D := D) (ci := 12) (v := .int 0) (ty := .int) (C := RX12) (T := TX12) (N := 51) hx hb hw inW_X12 tyX12 tyX12_ok nmX12 hown hK hP hD hS 0 rfl rfl 0 (by decide) (hw _ mw_6_43) (fun _ h9 => h9) rfl (by decide +kernel) rfl rfl (Nat.le_of_ble_eq_true rfl) dX12_careless_2 (fun H locs hP hD hS => ?_)
  refine lv_aload_n hx hb dX12_careless_5 rfl (lv_at hl 0 rfl) ?_
  refine lv_iload_n hx hb dX12_careless_6 rfl (lv_at hl 1 rfl) ?_
  refine lv_iload_n hx hb dX12_careless_7 rfl (lv_at hl 2 rfl) ?_
  refine lv_iload_n hx hb dX12_careless_8 rfl (lv_at hl 3 rfl) ?_
  have hP : va_P D vwCl (List.flatten (wM aM C (va_up ms 0 0) mw ma ml)) H := hP
  have hD : va_D A (List.flatten (wM aM C (va_up ms 0 0) mw ma ml)) := hD
  refine cGoAI (cRunAV (As := [.int p1, .int p2, .int p3]) (rest := []) ⟨hx, hb, hml, hown, hw⟩ hK hN hP hD (k_X12_isCover l D C _ aM  (va_up ms 0 0) mw ma ml p1 p2 p3 h) (cwV 3 hw (goodV mw_9_7 mw_9_9 mw_s175 mw_1_13 mw_9_10) rfl rfl rfl (by decide +kernel) ⟨Nat.le_of_ble_eq_true rfl, Nat.le_of_ble_eq_true rfl⟩) rfl rfl rfl hl.1 rfl (Nat.le_of_ble_eq_true rfl) dX12_careless_9 ⟨Nat.zero_le _, Nat.zero_le _⟩) hP hD hS hA (fun r1 u H locs h hP hD hS => ?_)
  have hP : va_P D vwCl (List.flatten (wM aM C (va_up ms 0 0) mw ma ml)) H := hP
  have hD : va_D A (List.flatten (wM aM C (va_up ms 0 0) mw ma ml)) := hD
  refine lv_if_eq (tgt := 25) hx hb dX12_careless_12 (by decide) (fun c2 => ?_) (fun c2 => ?_)
  · have h := h.1 c2
    refine lv_bipush (v := (-2)) hx hb dX12_careless_25 (by decide) ?_
    rw [← hQ]
    exact cRetI (v := (-2)) ((va_up ms 0 0), mw, ma, ml) hx hb hr hlocks hS hP hD h dX12_careless_27
  · have h := h.2 c2
    refine lv_aload_n hx hb dX12_careless_15 rfl (lv_at hl 0 rfl) ?_
    refine lv_iload_n hx hb dX12_careless_16 rfl (lv_at hl 1 rfl) ?_
    refine lv_iload_n hx hb dX12_careless_17 rfl (lv_at hl 2 rfl) ?_
    refine lv_iload_n hx hb dX12_careless_18 rfl (lv_at hl 3 rfl) ?_
    refine cGoAI (cRunAV (As := [.int p1, .int p2, .int p3]) (rest := []) ⟨hx, hb, hml, hown, hw⟩ hK hN hP hD (k_X12_covers l D C _ aM  (va_up ms 0 0) mw ma ml p1 p2 p3 h) (cwV 3 hw (goodV mw_9_11 mw_9_13 mw_s176 mw_1_13 mw_9_14) rfl rfl rfl (by decide +kernel) ⟨Nat.le_of_ble_eq_true rfl, Nat.le_of_ble_eq_true rfl⟩) rfl rfl rfl hl.1 rfl (Nat.le_of_ble_eq_true rfl) dX12_careless_19 ⟨Nat.zero_le _, Nat.zero_le _⟩) hP hD hS hA (fun r7 u H locs h hP hD hS => ?_)
    obtain ⟨ms_3, mw_4, ma_5, ml_6⟩ := u
    have hP : va_P D vwCl (List.flatten (wM aM C ms_3 mw_4 ma_5 ml_6)) H := hP
    have hD : va_D A (List.flatten (wM aM C ms_3 mw_4 ma_5 ml_6)) := hD
    refine lv_goto (tgt := 27) hx hb dX12_careless_22 (by decide) ?_
    rw [← hQ]
    exact cRetI (v := r7) (ms_3, mw_4, ma_5, ml_6) hx hb hr hlocks hS hP hD h dX12_careless_27
abbrev vsX12_byLaw : List Cond := Cond.code yX12_byLaw cX12_byLaw 4 (some .long) :: WS
abbrev rmX12_byLaw : Room := { frames := 6, cells := 0, slots := 0, locals := 143 }
set_option maxHeartbeats 4000000 in
set_option maxRecDepth 100000 in
theorem k_X12_byLaw (l : Launch) (D : va_G) (C : Nat → ClassId) (sz : Nat) (aM : Nat → Nat)  (ms : Nat → Int32) (mw : Nat → Int64) (ma : Nat → Nat → Int32) (ml : Nat → Nat → Int64) (p1 : Int32) {post : Int64 → (Nat → Int32) → (Nat → Nat → Int32) → (Nat → Nat → Int64) → Prop} (h : P_X12_byLaw ms ma ml p1 post) : Met l yX12_byLaw vsX12_byLaw rmX12_byLaw (cPre D C [.ref (aM 0), .int p1] sz (wM aM C ms mw ma ml)) (cQl D (fun (r : Int64) (u : (Nat → Int32) × (Nat → Nat → Int32) × (Nat → Nat → Int64)) => post r u.1 u.2.1 u.2.2) (fun u => wM aM C u.1 mw u.2.1 u.2.2) (va_A (List.flatten (wM aM C ms mw ma ml)) sz)) 0 0 (va_A (List.flatten (wM aM C ms mw ma ml)) sz) := by
  refine cStart (QA := fun A => cQl D (fun (r : Int64) (u : (Nat → Int32) × (Nat → Nat → Int32) × (Nat → Nat → Int64)) => post r u.1 u.2.1 u.2.2) (fun u => wM aM C u.1 mw u.2.1 u.2.2) A) (cc := cX12_byLaw) (maxL := 4) (ret := (some .long)) (by decide) (Nat.le_of_ble_eq_true rfl) ?_
  intro p e s m args below meth c A ls hx hb hr hml hown hw hlocks hname hK hN hA hP hD hS hl
  generalize hQ : MQ below _ args s 0 0 A = Q
  have hl : lv_has ls 4 [(0, .ref (aM 0)), (1, .int p1)] := hl
  obtain ⟨H, hH⟩ : ∃ H, H = s.heap := ⟨_, rfl⟩
  obtain ⟨locs, hlo⟩ : ∃ z : List Loc, z = [] := ⟨_, rfl⟩
  have hP : va_P D vwCl (List.flatten (wM aM C ms mw ma ml)) H := by rw [hH]; exact hP
  have hS : va_S A s.heap H locs := by rw [hH, hlo]; exact hS
  rw [show W p l e rmX12_byLaw s m args below meth c s.heap [] 0 0 Q (F0 m 0 ls []) = W p l e rmX12_byLaw s m args below meth c H locs 0 0 Q (F0 m 0 ls []) from by rw [hH, hlo]]
  have N51 : ∀ (ms : Nat → Int32) (ma : Nat → Nat → Int32) (ml : Nat → Nat → Int64) (H : Heap) (locs : List Loc) (ls : Array Slot), P_X12_byLaw_51 p1 post  ms ma ml → va_P D vwCl (List.flatten (wM aM C ms mw ma ml)) H → va_D A (List.flatten (wM aM C ms mw ma ml)) → va_S A s.heap H locs → lv_has ls 4 [(0, .ref (aM 0))] → W p l e rmX12_byLaw s m args below meth c H locs 0 0 Q (F0 m 51 ls []) := by
    intro ms ma ml H locs ls h hP hD hS hl
    refine lv_aload_n hx hb dX12_byLaw_51 rfl (lv_at hl 0 rfl) ?_
    refine lv_iconst (v := 2) hx hb dX12_byLaw_52 (by decide) ?_
    refine cGoAL (cRunAV (As := [.int 2]) (rest := []) ⟨hx, hb, hml, hown, hw⟩ hK hN hP hD (k_X12_allNow l D C _ aM  ms mw ma ml 2 h) (cwV 1 hw (goodV mw_8_28 mw_8_30 mw_s151 mw_1_13 mw_8_31) rfl rfl rfl (by decide +kernel) ⟨Nat.le_of_ble_eq_true rfl, Nat.le_of_ble_eq_true rfl⟩) rfl rfl rfl hl.1 rfl (Nat.le_of_ble_eq_true rfl) dX12_byLaw_53 ⟨Nat.zero_le _, Nat.zero_le _⟩) hP hD hS hA (fun r4 u H locs h hP hD hS => ?_)
    obtain ⟨ms_1, ma_2, ml_3⟩ := u
    have hP : va_P D vwCl (List.flatten (wM aM C ms_1 mw ma_2 ml_3)) H := hP
    have hD : va_D A (List.flatten (wM aM C ms_1 mw ma_2 ml_3)) := hD
    refine lv_lstore_n (lv' := [(2, .long r4), (0, .ref (aM 0))]) hx hb dX12_byLaw_56 rfl hl (by decide) rfl (fun ls hl => ?_)
    refine lv_aload_n hx hb dX12_byLaw_57 rfl (lv_at hl 1 rfl) ?_
    refine cGoAV (cRunAV (As := []) (rest := []) ⟨hx, hb, hml, hown, hw⟩ hK hN hP hD (k_X12_takesBack l D C _ aM  ms_1 mw ma_2 ml_3  h) (cwV 0 hw (goodV mw_8_97 mw_8_99 mw_s162 mw_1_13 mw_8_100) rfl rfl rfl (by decide +kernel) ⟨Nat.le_of_ble_eq_true rfl, Nat.le_of_ble_eq_true rfl⟩) rfl rfl rfl hl.1 rfl (Nat.le_of_ble_eq_true rfl) dX12_byLaw_58 ⟨Nat.zero_le _, Nat.zero_le _⟩) hP hD hS hA (fun ma_5 H locs h hP hD hS => ?_)
    have hP : va_P D vwCl (List.flatten (wM aM C ms_1 mw ma_5 ml_3)) H := hP
    have hD : va_D A (List.flatten (wM aM C ms_1 mw ma_5 ml_3)) := hD
    refine lv_lload_n hx hb dX12_byLaw_61 rfl (lv_at hl 0 rfl) ?_
    rw [← hQ]
    exact cRetL (v := r4) (ms_1, ma_5, ml_3) hx hb hr hlocks hS hP hD h dX12_byLaw_62
  have N6 : ∀ (ms : Nat → Int32) (ml : Nat → Nat → Int64) (n6 : Nat) (x2_ : Int32) (ma : Nat → Nat → Int32) (H : Heap) (locs : List Loc) (ls : Array Slot), P_X12_byLaw_6 p1 post (fun (ms : Nat → Int32) (ma : Nat → Nat → Int32) (ml : Nat → Nat → Int64) => P_X12_byLaw_51 p1 post  ms ma ml) ms ml n6 x2_ ma → va_P D vwCl (List.flatten (wM aM C ms mw ma ml)) H → va_D A (List.flatten (wM aM C ms mw ma ml)) → va_S A s.heap H locs → lv_has ls 4 [(0, .ref (aM 0)), (1, .int p1), (2, .int x2_)] → W p l e rmX12_byLaw s m args below meth c H locs 0 0 Q (F0 m 6 ls []) := by
    intro ms ml
    intro n6
    induction n6 with
    | zero => intro x2_ ma H locs ls h hP hD hS hl; exact False.elim h
    | succ n6 ih6 =>
      intro x2_ ma H locs ls h hP hD hS hl
      refine lv_iload_n hx hb dX12_byLaw_6 rfl (lv_at hl 2 rfl) ?_
      refine lv_aload_n hx hb dX12_byLaw_7 rfl (lv_at hl 0 rfl) ?_
      refine va_get (D := D) (ci := 12) (v := .ref (aM 13)) (C := RX12) (T := TX12) (N := 51) hx hb hw inW_X12 hown hK hP 0 rfl rfl 23 (by decide) (hw _ mw_6_66) (fun _ h9 => h9) rfl dX12_byLaw_8 ?_
      refine lv_iconst (v := 0) hx hb dX12_byLaw_11 (by decide) ?_
      refine cIald hx hb hK hP 13 0 rfl rfl 0 (by decide +kernel) (cIn (by decide +kernel)) dX12_byLaw_12 ?_
      refine lv_icmp_ge (tgt := 51) hx hb dX12_byLaw_13 (by decide) (fun c6 => ?_) (fun c6 => ?_)
      · have h := h.1 c6
        exact N51 ms ma ml _ _ _ h hP hD hS (lv_sub hl [0] rfl)
      · have h := h.2 c6
        refine lv_aload_n hx hb dX12_byLaw_16 rfl (lv_at hl 0 rfl) ?_
        refine va_get (D := D) (ci := 12) (v := .ref (aM 14)) (C := RX12) (T := TX12) (N := 51) hx hb hw inW_X12 hown hK hP 0 rfl rfl 24 (by decide) (hw _ mw_6_67) (fun _ h9 => h9) rfl dX12_byLaw_17 ?_
        refine lv_iconst (v := 0) hx hb dX12_byLaw_20 (by decide) ?_
        refine lv_iload_n hx hb dX12_byLaw_21 rfl (lv_at hl 2 rfl) ?_
        refine cGoEI (cRunES (As := [.int 0, .int x2_]) (rest := [.ref (aM 14)]) ⟨hx, hb, hml, hown, hw⟩ hK hN hP hD (k_X12_at l D C _    0 x2_ h) (va_cwS 2 hw (goodS mw_7_148 mw_7_149 mw_1_13 mw_7_150) rfl rfl rfl (by decide +kernel) ⟨Nat.le_of_ble_eq_true rfl, Nat.le_of_ble_eq_true rfl⟩) rfl hl.1 rfl (Nat.le_of_ble_eq_true rfl) dX12_byLaw_22 ⟨Nat.zero_le _, Nat.zero_le _⟩) hP hD hS hA (fun r7 u H locs h hP hD hS => ?_)
        have hP : va_P D vwCl (List.flatten (wM aM C ms mw ma ml)) H := hP
        have hD : va_D A (List.flatten (wM aM C ms mw ma ml)) := hD
        refine lv_iconst (v := 3) hx hb dX12_byLaw_25 (by decide) ?_
        refine lv_iadd hx hb dX12_byLaw_26 ?_
        refine cIald hx hb hK hP 14 0 rfl rfl ((r7 + 3).toNatClampNeg) rfl h.1 dX12_byLaw_27 ?_
        have h := h.2
        refine lv_iload_n hx hb dX12_byLaw_28 rfl (lv_at hl 1 rfl) ?_
        refine lv_icmp_ge (tgt := 45) hx hb dX12_byLaw_29 (by decide) (fun c8 => ?_) (fun c8 => ?_)
        · have h := h.1 c8
          refine lv_iinc (v := (x2_ + 1)) (lv' := [(2, .int (x2_ + 1)), (0, .ref (aM 0)), (1, .int p1)]) hx hb dX12_byLaw_45 hl (k := 2) rfl rfl (by decide) rfl (fun ls hl => ?_)
          refine lv_goto (tgt := 6) hx hb dX12_byLaw_48 (by decide) ?_
          exact ih6 (x2_ + 1) ma _ _ _ h hP hD hS (lv_sub hl [1, 2, 0] rfl)
        · have h := h.2 c8
          refine lv_aload_n hx hb dX12_byLaw_32 rfl (lv_at hl 0 rfl) ?_
          refine va_get (D := D) (ci := 12) (v := .ref (aM 14)) (C := RX12) (T := TX12) (N := 51) hx hb hw inW_X12 hown hK hP 0 rfl rfl 24 (by decide) (hw _ mw_6_67) (fun _ h9 => h9) rfl dX12_byLaw_33 ?_
          refine lv_iconst (v := 0) hx hb dX12_byLaw_36 (by decide) ?_
          refine lv_iload_n hx hb dX12_byLaw_37 rfl (lv_at hl 2 rfl) ?_
          refine cGoEI (cRunES (As := [.int 0, .int x2_]) (rest := [.ref (aM 14)]) ⟨hx, hb, hml, hown, hw⟩ hK hN hP hD (k_X12_at l D C _    0 x2_ h) (va_cwS 2 hw (goodS mw_7_148 mw_7_149 mw_1_13 mw_7_150) rfl rfl rfl (by decide +kernel) ⟨Nat.le_of_ble_eq_true rfl, Nat.le_of_ble_eq_true rfl⟩) rfl hl.1 rfl (Nat.le_of_ble_eq_true rfl) dX12_byLaw_38 ⟨Nat.zero_le _, Nat.zero_le _⟩) hP hD hS hA (fun r9 u H locs h hP hD hS => ?_)
          have hP : va_P D vwCl (List.flatten (wM aM C ms mw ma ml)) H := hP
          have hD : va_D A (List.flatten (wM aM C ms mw ma ml)) := hD
          refine lv_iconst (v := 3) hx hb dX12_byLaw_41 (by decide) ?_
          refine lv_iadd hx hb dX12_byLaw_42 ?_
          refine lv_iload_n hx hb dX12_byLaw_43 rfl (lv_at hl 1 rfl) ?_
          refine cIast hx hb hK hP hD hS 14 0 rfl rfl ((r9 + 3).toNatClampNeg) rfl h.1 dX12_byLaw_44 (fun H locs hP hD hS => ?_)
          have h := h.2
          refine lv_iinc (v := (x2_ + 1)) (lv' := [(2, .int (x2_ + 1)), (0, .ref (aM 0)), (1, .int p1)]) hx hb dX12_byLaw_45 hl (k := 2) rfl rfl (by decide) rfl (fun ls hl => ?_)
          refine lv_goto (tgt := 6) hx hb dX12_byLaw_48 (by decide) ?_
          have hP : va_P D vwCl (List.flatten (wM aM C ms mw (va_up ma 11 (upd (ma 11) ((r9 + 3).toNatClampNeg) p1)) ml)) H := hP
          have hD : va_D A (List.flatten (wM aM C ms mw (va_up ma 11 (upd (ma 11) ((r9 + 3).toNatClampNeg) p1)) ml)) := hD
          exact ih6 (x2_ + 1) (va_up ma 11 (upd (ma 11) ((r9 + 3).toNatClampNeg) p1)) _ _ _ h hP hD hS (lv_sub hl [1, 2, 0] rfl)
  refine lv_aload_n hx hb dX12_byLaw_0 rfl (lv_at hl 0 rfl) ?_
  refine cGoAV (cRunAV (As := []) (rest := []) ⟨hx, hb, hml, hown, hw⟩ hK hN hP hD (k_X12_laysAside l D C _ aM  ms mw ma ml  h) (cwV 0 hw (goodV mw_8_93 mw_8_95 mw_s161 mw_1_13 mw_8_96) rfl rfl rfl (by decide +kernel) ⟨Nat.le_of_ble_eq_true rfl, Nat.le_of_ble_eq_true rfl⟩) rfl rfl rfl hl.1 rfl (Nat.le_of_ble_eq_true rfl) dX12_byLaw_1 ⟨Nat.zero_le _, Nat.zero_le _⟩) hP hD hS hA (fun ma_10 H locs h hP hD hS => ?_)
  have hP : va_P D vwCl (List.flatten (wM aM C ms mw ma_10 ml)) H := hP
  have hD : va_D A (List.flatten (wM aM C ms mw ma_10 ml)) := hD
  refine lv_iconst (v := 0) hx hb dX12_byLaw_4 (by decide) ?_
  refine lv_istore_n (lv' := [(2, .int 0), (0, .ref (aM 0)), (1, .int p1)]) hx hb dX12_byLaw_5 rfl hl (by decide) rfl (fun ls hl => ?_)
  obtain ⟨n, h⟩ := h
  exact N6 ms ml n 0 ma_10 _ _ _ h hP hD hS (lv_sub hl [1, 2, 0] rfl)
abbrev vsX12_law : List Cond := Cond.code yX12_law cX12_law 2 (some .long) :: WS
abbrev rmX12_law : Room := { frames := 7, cells := 0, slots := 0, locals := 166 }
set_option maxHeartbeats 4000000 in
set_option maxRecDepth 100000 in
theorem k_X12_law (l : Launch) (D : va_G) (C : Nat → ClassId) (sz : Nat) (aM : Nat → Nat)  (ms : Nat → Int32) (mw : Nat → Int64) (ma : Nat → Nat → Int32) (ml : Nat → Nat → Int64) (p1 : Int32) {post : Int64 → (Nat → Int32) → (Nat → Nat → Int32) → (Nat → Nat → Int64) → Prop} (h : P_X12_law ms ma ml p1 post) : Met l yX12_law vsX12_law rmX12_law (cPre D C [.ref (aM 0), .int p1] sz (wM aM C ms mw ma ml)) (cQl D (fun (r : Int64) (u : (Nat → Int32) × (Nat → Nat → Int32) × (Nat → Nat → Int64)) => post r u.1 u.2.1 u.2.2) (fun u => wM aM C u.1 mw u.2.1 u.2.2) (va_A (List.flatten (wM aM C ms mw ma ml)) sz)) 0 0 (va_A (List.flatten (wM aM C ms mw ma ml)) sz) := by
  refine cStart (QA := fun A => cQl D (fun (r : Int64) (u : (Nat → Int32) × (Nat → Nat → Int32) × (Nat → Nat → Int64)) => post r u.1 u.2.1 u.2.2) (fun u => wM aM C u.1 mw u.2.1 u.2.2) A) (cc := cX12_law) (maxL := 2) (ret := (some .long)) (by decide) (Nat.le_of_ble_eq_true rfl) ?_
  intro p e s m args below meth c A ls hx hb hr hml hown hw hlocks hname hK hN hA hP hD hS hl
  generalize hQ : MQ below _ args s 0 0 A = Q
  have hl : lv_has ls 2 [(0, .ref (aM 0)), (1, .int p1)] := hl
  obtain ⟨H, hH⟩ : ∃ H, H = s.heap := ⟨_, rfl⟩
  obtain ⟨locs, hlo⟩ : ∃ z : List Loc, z = [] := ⟨_, rfl⟩
  have hP : va_P D vwCl (List.flatten (wM aM C ms mw ma ml)) H := by rw [hH]; exact hP
  have hS : va_S A s.heap H locs := by rw [hH, hlo]; exact hS
  rw [show W p l e rmX12_law s m args below meth c s.heap [] 0 0 Q (F0 m 0 ls []) = W p l e rmX12_law s m args below meth c H locs 0 0 Q (F0 m 0 ls []) from by rw [hH, hlo]]
  refine lv_aload_n hx hb dX12_law_0 rfl (lv_at hl 0 rfl) ?_
  refine lv_iconst (v := 0) hx hb dX12_law_1 (by decide) ?_
  refine va_put (D := D) (ci := 12) (v := .int 0) (ty := .int) (C := RX12) (T := TX12) (N := 51) hx hb hw inW_X12 tyX12 tyX12_ok nmX12 hown hK hP hD hS 0 rfl rfl 0 (by decide) (hw _ mw_6_43) (fun _ h9 => h9) rfl (by decide +kernel) rfl rfl (Nat.le_of_ble_eq_true rfl) dX12_law_2 (fun H locs hP hD hS => ?_)
  refine lv_aload_n hx hb dX12_law_5 rfl (lv_at hl 0 rfl) ?_
  have hP : va_P D vwCl (List.flatten (wM aM C (va_up ms 0 0) mw ma ml)) H := hP
  have hD : va_D A (List.flatten (wM aM C (va_up ms 0 0) mw ma ml)) := hD
  refine cGoAI (cRunAV (As := []) (rest := []) ⟨hx, hb, hml, hown, hw⟩ hK hN hP hD (k_X12_isRail l D C _ aM  (va_up ms 0 0) mw ma ml  h) (cwV 0 hw (goodV mw_7_204 mw_7_206 mw_s142 mw_1_13 mw_7_207) rfl rfl rfl (by decide +kernel) ⟨Nat.le_of_ble_eq_true rfl, Nat.le_of_ble_eq_true rfl⟩) rfl rfl rfl hl.1 rfl (Nat.le_of_ble_eq_true rfl) dX12_law_6 ⟨Nat.zero_le _, Nat.zero_le _⟩) hP hD hS hA (fun r1 u H locs h hP hD hS => ?_)
  have hP : va_P D vwCl (List.flatten (wM aM C (va_up ms 0 0) mw ma ml)) H := hP
  have hD : va_D A (List.flatten (wM aM C (va_up ms 0 0) mw ma ml)) := hD
  refine lv_if_eq (tgt := 40) hx hb dX12_law_9 (by decide) (fun c2 => ?_) (fun c2 => ?_)
  · have h := h.1 c2
    refine lv_ldc2 (v := (-2)) hx hb hown (hw _ mw_7_208) dX12_law_40 ?_
    rw [← hQ]
    exact cRetL (v := (-2)) ((va_up ms 0 0), ma, ml) hx hb hr hlocks hS hP hD h dX12_law_43
  · have h := h.2 c2
    refine lv_iload_n hx hb dX12_law_12 rfl (lv_at hl 1 rfl) ?_
    refine lv_i2l hx hb dX12_law_13 rfl ?_
    refine lv_ldc2 (v := (-1)) hx hb hown (hw _ mw_7_15) dX12_law_14 ?_
    refine lv_aload_n hx hb dX12_law_17 rfl (lv_at hl 0 rfl) ?_
    refine va_get (D := D) (ci := 12) (v := .ref (aM 11)) (C := RX12) (T := TX12) (N := 51) hx hb hw inW_X12 hown hK hP 0 rfl rfl 21 (by decide) (hw _ mw_6_64) (fun _ h9 => h9) rfl dX12_law_18 ?_
    refine lv_iconst (v := 0) hx hb dX12_law_21 (by decide) ?_
    refine cIald hx hb hK hP 11 0 rfl rfl 0 (by decide +kernel) (cIn (by decide +kernel)) dX12_law_22 ?_
    refine lv_iconst (v := 1) hx hb dX12_law_23 (by decide) ?_
    refine lv_isub hx hb dX12_law_24 ?_
    refine lv_i2l hx hb dX12_law_25 rfl ?_
    refine cGoEI (cRunES (As := [.long p1.toInt64, .long (-1), .long (((ma 8 0) - 1).toInt64)]) (rest := []) ⟨hx, hb, hml, hown, hw⟩ hK hN hP hD (k_X12_in l D C _    p1.toInt64 (-1) (((ma 8 0) - 1).toInt64) h) (va_cwS 3 hw (goodS mw_6_205 mw_6_206 mw_1_13 mw_6_207) rfl rfl rfl (by decide +kernel) ⟨Nat.le_of_ble_eq_true rfl, Nat.le_of_ble_eq_true rfl⟩) rfl hl.1 rfl (Nat.le_of_ble_eq_true rfl) dX12_law_26 ⟨Nat.zero_le _, Nat.zero_le _⟩) hP hD hS hA (fun r3 u H locs h hP hD hS => ?_)
    have hP : va_P D vwCl (List.flatten (wM aM C (va_up ms 0 0) mw ma ml)) H := hP
    have hD : va_D A (List.flatten (wM aM C (va_up ms 0 0) mw ma ml)) := hD
    refine lv_if_eq (tgt := 40) hx hb dX12_law_29 (by decide) (fun c4 => ?_) (fun c4 => ?_)
    · have h := h.1 c4
      refine lv_ldc2 (v := (-2)) hx hb hown (hw _ mw_7_208) dX12_law_40 ?_
      rw [← hQ]
      exact cRetL (v := (-2)) ((va_up ms 0 0), ma, ml) hx hb hr hlocks hS hP hD h dX12_law_43
    · have h := h.2 c4
      refine lv_aload_n hx hb dX12_law_32 rfl (lv_at hl 0 rfl) ?_
      refine lv_iload_n hx hb dX12_law_33 rfl (lv_at hl 1 rfl) ?_
      refine cGoAL (cRunAV (As := [.int p1]) (rest := []) ⟨hx, hb, hml, hown, hw⟩ hK hN hP hD (k_X12_byLaw l D C _ aM  (va_up ms 0 0) mw ma ml p1 h) (cwV 1 hw (goodV mw_9_23 mw_9_25 mw_s177 mw_1_13 mw_9_26) rfl rfl rfl (by decide +kernel) ⟨Nat.le_of_ble_eq_true rfl, Nat.le_of_ble_eq_true rfl⟩) rfl rfl rfl hl.1 rfl (Nat.le_of_ble_eq_true rfl) dX12_law_34 ⟨Nat.zero_le _, Nat.zero_le _⟩) hP hD hS hA (fun r8 u H locs h hP hD hS => ?_)
      obtain ⟨ms_5, ma_6, ml_7⟩ := u
      have hP : va_P D vwCl (List.flatten (wM aM C ms_5 mw ma_6 ml_7)) H := hP
      have hD : va_D A (List.flatten (wM aM C ms_5 mw ma_6 ml_7)) := hD
      refine lv_goto (tgt := 43) hx hb dX12_law_37 (by decide) ?_
      rw [← hQ]
      exact cRetL (v := r8) (ms_5, ma_6, ml_7) hx hb hr hlocks hS hP hD h dX12_law_43
abbrev vsX12_laws : List Cond := Cond.code yX12_laws cX12_laws 7 (some .int) :: WS
abbrev rmX12_laws : Room := { frames := 7, cells := 0, slots := 0, locals := 166 }
set_option maxHeartbeats 4000000 in
set_option maxRecDepth 100000 in
theorem k_X12_laws (l : Launch) (D : va_G) (C : Nat → ClassId) (sz : Nat) (aM : Nat → Nat)  (ms : Nat → Int32) (mw : Nat → Int64) (ma : Nat → Nat → Int32) (ml : Nat → Nat → Int64)  {post : Int32 → (Nat → Int32) → (Nat → Nat → Int32) → (Nat → Nat → Int64) → Prop} (h : P_X12_laws ms ma ml post) : Met l yX12_laws vsX12_laws rmX12_laws (cPre D C [.ref (aM 0)] sz (wM aM C ms mw ma ml)) (cQi D (fun (r : Int32) (u : (Nat → Int32) × (Nat → Nat → Int32) × (Nat → Nat → Int64)) => post r u.1 u.2.1 u.2.2) (fun u => wM aM C u.1 mw u.2.1 u.2.2) (va_A (List.flatten (wM aM C ms mw ma ml)) sz)) 0 0 (va_A (List.flatten (wM aM C ms mw ma ml)) sz) := by
  refine cStart (QA := fun A => cQi D (fun (r : Int32) (u : (Nat → Int32) × (Nat → Nat → Int32) × (Nat → Nat → Int64)) => post r u.1 u.2.1 u.2.2) (fun u => wM aM C u.1 mw u.2.1 u.2.2) A) (cc := cX12_laws) (maxL := 7) (ret := (some .int)) (by decide) (Nat.le_of_ble_eq_true rfl) ?_
  intro p e s m args below meth c A ls hx hb hr hml hown hw hlocks hname hK hN hA hP hD hS hl
  generalize hQ : MQ below _ args s 0 0 A = Q
  have hl : lv_has ls 7 [(0, .ref (aM 0))] := hl
  obtain ⟨H, hH⟩ : ∃ H, H = s.heap := ⟨_, rfl⟩
  obtain ⟨locs, hlo⟩ : ∃ z : List Loc, z = [] := ⟨_, rfl⟩
  have hP : va_P D vwCl (List.flatten (wM aM C ms mw ma ml)) H := by rw [hH]; exact hP
  have hS : va_S A s.heap H locs := by rw [hH, hlo]; exact hS
  rw [show W p l e rmX12_laws s m args below meth c s.heap [] 0 0 Q (F0 m 0 ls []) = W p l e rmX12_laws s m args below meth c H locs 0 0 Q (F0 m 0 ls []) from by rw [hH, hlo]]
  have N26 : ∀  (n26 : Nat) (x1_ : Int32) (x2_ : Int64) (x4_ : Int32) (ms : Nat → Int32) (ma : Nat → Nat → Int32) (ml : Nat → Nat → Int64) (H : Heap) (locs : List Loc) (ls : Array Slot), P_X12_laws_26  post   n26 x1_ x2_ x4_ ms ma ml → va_P D vwCl (List.flatten (wM aM C ms mw ma ml)) H → va_D A (List.flatten (wM aM C ms mw ma ml)) → va_S A s.heap H locs → lv_has ls 7 [(0, .ref (aM 0)), (1, .int x1_), (2, .long x2_), (4, .int x4_)] → W p l e rmX12_laws s m args below meth c H locs 0 0 Q (F0 m 26 ls []) := by
    intro n26
    induction n26 with
    | zero => intro x1_ x2_ x4_ ms ma ml H locs ls h hP hD hS hl; exact False.elim h
    | succ n26 ih26 =>
      intro x1_ x2_ x4_ ms ma ml H locs ls h hP hD hS hl
      refine lv_iload hx hb dX12_laws_26 (lv_at hl 3 rfl) ?_
      refine lv_aload_n hx hb dX12_laws_28 rfl (lv_at hl 0 rfl) ?_
      refine va_get (D := D) (ci := 12) (v := .ref (aM 11)) (C := RX12) (T := TX12) (N := 51) hx hb hw inW_X12 hown hK hP 0 rfl rfl 21 (by decide) (hw _ mw_6_64) (fun _ h9 => h9) rfl dX12_laws_29 ?_
      refine lv_iconst (v := 0) hx hb dX12_laws_32 (by decide) ?_
      refine cIald hx hb hK hP 11 0 rfl rfl 0 (by decide +kernel) (cIn (by decide +kernel)) dX12_laws_33 ?_
      refine lv_icmp_ge (tgt := 67) hx hb dX12_laws_34 (by decide) (fun c1 => ?_) (fun c1 => ?_)
      · have h := h.1 c1
        refine lv_iload_n hx hb dX12_laws_67 rfl (lv_at hl 1 rfl) ?_
        rw [← hQ]
        exact cRetI (v := x1_) (ms, ma, ml) hx hb hr hlocks hS hP hD h dX12_laws_68
      · have h := h.2 c1
        refine lv_aload_n hx hb dX12_laws_37 rfl (lv_at hl 0 rfl) ?_
        refine lv_iload hx hb dX12_laws_38 (lv_at hl 3 rfl) ?_
        refine cGoAL (cRunAV (As := [.int x4_]) (rest := []) ⟨hx, hb, hml, hown, hw⟩ hK hN hP hD (k_X12_byLaw l D C _ aM  ms mw ma ml x4_ h) (cwV 1 hw (goodV mw_9_23 mw_9_25 mw_s177 mw_1_13 mw_9_26) rfl rfl rfl (by decide +kernel) ⟨Nat.le_of_ble_eq_true rfl, Nat.le_of_ble_eq_true rfl⟩) rfl rfl rfl hl.1 rfl (Nat.le_of_ble_eq_true rfl) dX12_laws_40 ⟨Nat.zero_le _, Nat.zero_le _⟩) hP hD hS hA (fun r5 u H locs h hP hD hS => ?_)
        obtain ⟨ms_2, ma_3, ml_4⟩ := u
        have hP : va_P D vwCl (List.flatten (wM aM C ms_2 mw ma_3 ml_4)) H := hP
        have hD : va_D A (List.flatten (wM aM C ms_2 mw ma_3 ml_4)) := hD
        refine lv_lstore (lv' := [(5, .long r5), (0, .ref (aM 0)), (1, .int x1_), (2, .long x2_), (4, .int x4_)]) hx hb dX12_laws_43 hl (by decide) rfl (fun ls hl => ?_)
        refine lv_lload hx hb dX12_laws_45 (lv_at hl 0 rfl) ?_
        refine lv_lload_n hx hb dX12_laws_47 rfl (lv_at hl 3 rfl) ?_
        refine W.lcmp hx hb dX12_laws_48 ?_
        refine lv_if_lt (tgt := 55) hx hb dX12_laws_49 (by decide) (fun c6 => ?_) (fun c6 => ?_)
        · have c6 : r5 < x2_ := (lg_cmp_lt _ _).mp c6
          have h := h.1 c6
          refine lv_iload hx hb dX12_laws_55 (lv_at hl 4 rfl) ?_
          refine lv_istore_n (lv' := [(1, .int x4_), (5, .long r5), (0, .ref (aM 0)), (2, .long x2_), (4, .int x4_)]) hx hb dX12_laws_57 rfl hl (by decide) rfl (fun ls hl => ?_)
          refine lv_lload hx hb dX12_laws_58 (lv_at hl 1 rfl) ?_
          refine lv_lstore_n (lv' := [(2, .long r5), (1, .int x4_), (5, .long r5), (0, .ref (aM 0)), (4, .int x4_)]) hx hb dX12_laws_60 rfl hl (by decide) rfl (fun ls hl => ?_)
          refine lv_iinc (v := (x4_ + 1)) (lv' := [(4, .int (x4_ + 1)), (2, .long r5), (1, .int x4_), (5, .long r5), (0, .ref (aM 0))]) hx hb dX12_laws_61 hl (k := 4) rfl rfl (by decide) rfl (fun ls hl => ?_)
          refine lv_goto (tgt := 26) hx hb dX12_laws_64 (by decide) ?_
          exact ih26 x4_ r5 (x4_ + 1) ms_2 ma_3 ml_4 _ _ _ h hP hD hS (lv_sub hl [4, 2, 1, 0] rfl)
        · have c6 : ¬ r5 < x2_ := fun q => c6 ((lg_cmp_lt _ _).mpr q)
          have h := h.2 c6
          refine lv_goto (tgt := 61) hx hb dX12_laws_52 (by decide) ?_
          refine lv_iinc (v := (x4_ + 1)) (lv' := [(4, .int (x4_ + 1)), (5, .long r5), (0, .ref (aM 0)), (1, .int x1_), (2, .long x2_)]) hx hb dX12_laws_61 hl (k := 4) rfl rfl (by decide) rfl (fun ls hl => ?_)
          refine lv_goto (tgt := 26) hx hb dX12_laws_64 (by decide) ?_
          exact ih26 x1_ x2_ (x4_ + 1) ms_2 ma_3 ml_4 _ _ _ h hP hD hS (lv_sub hl [2, 3, 4, 0] rfl)
  refine lv_aload_n hx hb dX12_laws_0 rfl (lv_at hl 0 rfl) ?_
  refine lv_iconst (v := 0) hx hb dX12_laws_1 (by decide) ?_
  refine va_put (D := D) (ci := 12) (v := .int 0) (ty := .int) (C := RX12) (T := TX12) (N := 51) hx hb hw inW_X12 tyX12 tyX12_ok nmX12 hown hK hP hD hS 0 rfl rfl 0 (by decide) (hw _ mw_6_43) (fun _ h9 => h9) rfl (by decide +kernel) rfl rfl (Nat.le_of_ble_eq_true rfl) dX12_laws_2 (fun H locs hP hD hS => ?_)
  refine lv_aload_n hx hb dX12_laws_5 rfl (lv_at hl 0 rfl) ?_
  have hP : va_P D vwCl (List.flatten (wM aM C (va_up ms 0 0) mw ma ml)) H := hP
  have hD : va_D A (List.flatten (wM aM C (va_up ms 0 0) mw ma ml)) := hD
  refine cGoAI (cRunAV (As := []) (rest := []) ⟨hx, hb, hml, hown, hw⟩ hK hN hP hD (k_X12_isRail l D C _ aM  (va_up ms 0 0) mw ma ml  h) (cwV 0 hw (goodV mw_7_204 mw_7_206 mw_s142 mw_1_13 mw_7_207) rfl rfl rfl (by decide +kernel) ⟨Nat.le_of_ble_eq_true rfl, Nat.le_of_ble_eq_true rfl⟩) rfl rfl rfl hl.1 rfl (Nat.le_of_ble_eq_true rfl) dX12_laws_6 ⟨Nat.zero_le _, Nat.zero_le _⟩) hP hD hS hA (fun r7 u H locs h hP hD hS => ?_)
  have hP : va_P D vwCl (List.flatten (wM aM C (va_up ms 0 0) mw ma ml)) H := hP
  have hD : va_D A (List.flatten (wM aM C (va_up ms 0 0) mw ma ml)) := hD
  refine lv_if_ne (tgt := 15) hx hb dX12_laws_9 (by decide) (fun c8 => ?_) (fun c8 => ?_)
  · have h := h.1 c8
    refine lv_iconst (v := (-1)) hx hb dX12_laws_15 (by decide) ?_
    refine lv_istore_n (lv' := [(1, .int (-1)), (0, .ref (aM 0))]) hx hb dX12_laws_16 rfl hl (by decide) rfl (fun ls hl => ?_)
    refine lv_aload_n hx hb dX12_laws_17 rfl (lv_at hl 1 rfl) ?_
    refine lv_iconst (v := (-1)) hx hb dX12_laws_18 (by decide) ?_
    refine cGoAL (cRunAV (As := [.int (-1)]) (rest := []) ⟨hx, hb, hml, hown, hw⟩ hK hN hP hD (k_X12_byLaw l D C _ aM  (va_up ms 0 0) mw ma ml (-1) h) (cwV 1 hw (goodV mw_9_23 mw_9_25 mw_s177 mw_1_13 mw_9_26) rfl rfl rfl (by decide +kernel) ⟨Nat.le_of_ble_eq_true rfl, Nat.le_of_ble_eq_true rfl⟩) rfl rfl rfl hl.1 rfl (Nat.le_of_ble_eq_true rfl) dX12_laws_19 ⟨Nat.zero_le _, Nat.zero_le _⟩) hP hD hS hA (fun r12 u H locs h hP hD hS => ?_)
    obtain ⟨ms_9, ma_10, ml_11⟩ := u
    have hP : va_P D vwCl (List.flatten (wM aM C ms_9 mw ma_10 ml_11)) H := hP
    have hD : va_D A (List.flatten (wM aM C ms_9 mw ma_10 ml_11)) := hD
    refine lv_lstore_n (lv' := [(2, .long r12), (1, .int (-1)), (0, .ref (aM 0))]) hx hb dX12_laws_22 rfl hl (by decide) rfl (fun ls hl => ?_)
    refine lv_iconst (v := 0) hx hb dX12_laws_23 (by decide) ?_
    refine lv_istore (lv' := [(4, .int 0), (2, .long r12), (1, .int (-1)), (0, .ref (aM 0))]) hx hb dX12_laws_24 hl (by decide) rfl (fun ls hl => ?_)
    obtain ⟨n, h⟩ := h
    exact N26  n (-1) r12 0 ms_9 ma_10 ml_11 _ _ _ h hP hD hS (lv_sub hl [3, 2, 1, 0] rfl)
  · have h := h.2 c8
    refine lv_bipush (v := (-2)) hx hb dX12_laws_12 (by decide) ?_
    rw [← hQ]
    exact cRetI (v := (-2)) ((va_up ms 0 0), ma, ml) hx hb hr hlocks hS hP hD h dX12_laws_14
abbrev vsX12_netOn : List Cond := Cond.code yX12_netOn cX12_netOn 9 (some .int) :: WS
abbrev rmX12_netOn : Room := { frames := 3, cells := 0, slots := 0, locals := 72 }
set_option maxHeartbeats 4000000 in
set_option maxRecDepth 100000 in
theorem k_X12_netOn (l : Launch) (D : va_G) (C : Nat → ClassId) (sz : Nat) (aM : Nat → Nat)  (ms : Nat → Int32) (mw : Nat → Int64) (ma : Nat → Nat → Int32) (ml : Nat → Nat → Int64) (p1 : Int32) (p2 : Int32) {post : Int32 → Prop} (h : P_X12_netOn ms ma p1 p2 post) : Met l yX12_netOn vsX12_netOn rmX12_netOn (cPre D C [.ref (aM 0), .int p1, .int p2] sz (wM aM C ms mw ma ml)) (cQi D (fun (r : Int32) (u : Unit) => post r ) (fun u => wM aM C ms mw ma ml) (va_A (List.flatten (wM aM C ms mw ma ml)) sz)) 0 0 (va_A (List.flatten (wM aM C ms mw ma ml)) sz) := by
  refine cStart (QA := fun A => cQi D (fun (r : Int32) (u : Unit) => post r ) (fun u => wM aM C ms mw ma ml) A) (cc := cX12_netOn) (maxL := 9) (ret := (some .int)) (by decide) (Nat.le_of_ble_eq_true rfl) ?_
  intro p e s m args below meth c A ls hx hb hr hml hown hw hlocks hname hK hN hA hP hD hS hl
  generalize hQ : MQ below _ args s 0 0 A = Q
  have hl : lv_has ls 9 [(0, .ref (aM 0)), (1, .int p1), (2, .int p2)] := hl
  obtain ⟨H, hH⟩ : ∃ H, H = s.heap := ⟨_, rfl⟩
  obtain ⟨locs, hlo⟩ : ∃ z : List Loc, z = [] := ⟨_, rfl⟩
  have hP : va_P D vwCl (List.flatten (wM aM C ms mw ma ml)) H := by rw [hH]; exact hP
  have hS : va_S A s.heap H locs := by rw [hH, hlo]; exact hS
  rw [show W p l e rmX12_netOn s m args below meth c s.heap [] 0 0 Q (F0 m 0 ls []) = W p l e rmX12_netOn s m args below meth c H locs 0 0 Q (F0 m 0 ls []) from by rw [hH, hlo]]
  have N20 : ∀ (x3_ : Int32) (n20 : Nat) (x4_ : Int32) (x5_ : Int32) (x6_ : Int32) (H : Heap) (locs : List Loc) (ls : Array Slot), P_X12_netOn_20 ms ma p1 p2 post  x3_ n20 x4_ x5_ x6_ → va_P D vwCl (List.flatten (wM aM C ms mw ma ml)) H → va_D A (List.flatten (wM aM C ms mw ma ml)) → va_S A s.heap H locs → lv_has ls 9 [(0, .ref (aM 0)), (1, .int p1), (2, .int p2), (3, .int x3_), (4, .int x4_), (5, .int x5_), (6, .int x6_)] → W p l e rmX12_netOn s m args below meth c H locs 0 0 Q (F0 m 20 ls []) := by
    intro x3_
    intro n20
    induction n20 with
    | zero => intro x4_ x5_ x6_ H locs ls h hP hD hS hl; exact False.elim h
    | succ n20 ih20 =>
      have N97 : ∀ (x4_ : Int32) (x5_ : Int32) (x6_ : Int32) (x7_ : Int32) (x8_ : Int32) (H : Heap) (locs : List Loc) (ls : Array Slot), P_X12_netOn_97 ms ma p1 p2 x3_ post (P_X12_netOn_20 ms ma p1 p2 post  x3_ n20) x4_ x5_ x6_ x7_ x8_ → va_P D vwCl (List.flatten (wM aM C ms mw ma ml)) H → va_D A (List.flatten (wM aM C ms mw ma ml)) → va_S A s.heap H locs → lv_has ls 9 [(0, .ref (aM 0)), (1, .int p1), (2, .int p2), (3, .int x3_), (4, .int x4_), (5, .int x5_), (6, .int x6_), (7, .int x7_), (8, .int x8_)] → W p l e rmX12_netOn s m args below meth c H locs 0 0 Q (F0 m 97 ls []) := by
        intro x4_ x5_ x6_ x7_ x8_ H locs ls h hP hD hS hl
        refine lv_iload_n hx hb dX12_netOn_97 rfl (lv_at hl 3 rfl) ?_
        refine lv_iconst (v := 1) hx hb dX12_netOn_98 (by decide) ?_
        refine lv_icmp_ne (tgt := 117) hx hb dX12_netOn_99 (by decide) (fun c1 => ?_) (fun c1 => ?_)
        · have h := h.1 c1
          refine lv_iinc (v := (x6_ + 1)) (lv' := [(6, .int (x6_ + 1)), (0, .ref (aM 0)), (1, .int p1), (2, .int p2), (3, .int x3_), (4, .int x4_), (5, .int x5_), (7, .int x7_), (8, .int x8_)]) hx hb dX12_netOn_117 hl (k := 6) rfl rfl (by decide) rfl (fun ls hl => ?_)
          refine lv_goto (tgt := 20) hx hb dX12_netOn_120 (by decide) ?_
          exact ih20 x4_ x5_ (x6_ + 1) _ _ _ h hP hD hS (lv_sub hl [1, 2, 3, 4, 5, 6, 0] rfl)
        · have h := h.2 c1
          refine lv_iload hx hb dX12_netOn_102 (lv_at hl 7 rfl) ?_
          refine lv_iload hx hb dX12_netOn_104 (lv_at hl 4 rfl) ?_
          refine lv_icmp_ge (tgt := 117) hx hb dX12_netOn_106 (by decide) (fun c2 => ?_) (fun c2 => ?_)
          · have h := h.1 c2
            refine lv_iinc (v := (x6_ + 1)) (lv' := [(6, .int (x6_ + 1)), (0, .ref (aM 0)), (1, .int p1), (2, .int p2), (3, .int x3_), (4, .int x4_), (5, .int x5_), (7, .int x7_), (8, .int x8_)]) hx hb dX12_netOn_117 hl (k := 6) rfl rfl (by decide) rfl (fun ls hl => ?_)
            refine lv_goto (tgt := 20) hx hb dX12_netOn_120 (by decide) ?_
            exact ih20 x4_ x5_ (x6_ + 1) _ _ _ h hP hD hS (lv_sub hl [1, 2, 3, 4, 5, 6, 0] rfl)
          · have h := h.2 c2
            refine lv_iload hx hb dX12_netOn_109 (lv_at hl 8 rfl) ?_
            refine lv_istore (lv' := [(5, .int x8_), (0, .ref (aM 0)), (1, .int p1), (2, .int p2), (3, .int x3_), (4, .int x4_), (6, .int x6_), (7, .int x7_), (8, .int x8_)]) hx hb dX12_netOn_111 hl (by decide) rfl (fun ls hl => ?_)
            refine lv_iload hx hb dX12_netOn_113 (lv_at hl 7 rfl) ?_
            refine lv_istore (lv' := [(4, .int x7_), (5, .int x8_), (0, .ref (aM 0)), (1, .int p1), (2, .int p2), (3, .int x3_), (6, .int x6_), (7, .int x7_), (8, .int x8_)]) hx hb dX12_netOn_115 hl (by decide) rfl (fun ls hl => ?_)
            refine lv_iinc (v := (x6_ + 1)) (lv' := [(6, .int (x6_ + 1)), (4, .int x7_), (5, .int x8_), (0, .ref (aM 0)), (1, .int p1), (2, .int p2), (3, .int x3_), (7, .int x7_), (8, .int x8_)]) hx hb dX12_netOn_117 hl (k := 6) rfl rfl (by decide) rfl (fun ls hl => ?_)
            refine lv_goto (tgt := 20) hx hb dX12_netOn_120 (by decide) ?_
            exact ih20 x7_ x8_ (x6_ + 1) _ _ _ h hP hD hS (lv_sub hl [3, 4, 5, 6, 1, 2, 0] rfl)
      have N81 : ∀ (x4_ : Int32) (x5_ : Int32) (x6_ : Int32) (x7_ : Int32) (x8_ : Int32) (H : Heap) (locs : List Loc) (ls : Array Slot), P_X12_netOn_81 ms ma p1 p2 x3_ post (P_X12_netOn_20 ms ma p1 p2 post  x3_ n20) x4_ x5_ x6_ x7_ x8_ → va_P D vwCl (List.flatten (wM aM C ms mw ma ml)) H → va_D A (List.flatten (wM aM C ms mw ma ml)) → va_S A s.heap H locs → lv_has ls 9 [(0, .ref (aM 0)), (1, .int p1), (2, .int p2), (3, .int x3_), (4, .int x4_), (5, .int x5_), (6, .int x6_), (7, .int x7_), (8, .int x8_)] → W p l e rmX12_netOn s m args below meth c H locs 0 0 Q (F0 m 81 ls []) := by
        intro x4_ x5_ x6_ x7_ x8_ H locs ls h hP hD hS hl
        refine lv_iload hx hb dX12_netOn_81 (lv_at hl 5 rfl) ?_
        refine lv_if_eq (tgt := 109) hx hb dX12_netOn_83 (by decide) (fun c3 => ?_) (fun c3 => ?_)
        · have h := h.1 c3
          refine lv_iload hx hb dX12_netOn_109 (lv_at hl 8 rfl) ?_
          refine lv_istore (lv' := [(5, .int x8_), (0, .ref (aM 0)), (1, .int p1), (2, .int p2), (3, .int x3_), (4, .int x4_), (6, .int x6_), (7, .int x7_), (8, .int x8_)]) hx hb dX12_netOn_111 hl (by decide) rfl (fun ls hl => ?_)
          refine lv_iload hx hb dX12_netOn_113 (lv_at hl 7 rfl) ?_
          refine lv_istore (lv' := [(4, .int x7_), (5, .int x8_), (0, .ref (aM 0)), (1, .int p1), (2, .int p2), (3, .int x3_), (6, .int x6_), (7, .int x7_), (8, .int x8_)]) hx hb dX12_netOn_115 hl (by decide) rfl (fun ls hl => ?_)
          refine lv_iinc (v := (x6_ + 1)) (lv' := [(6, .int (x6_ + 1)), (4, .int x7_), (5, .int x8_), (0, .ref (aM 0)), (1, .int p1), (2, .int p2), (3, .int x3_), (7, .int x7_), (8, .int x8_)]) hx hb dX12_netOn_117 hl (k := 6) rfl rfl (by decide) rfl (fun ls hl => ?_)
          refine lv_goto (tgt := 20) hx hb dX12_netOn_120 (by decide) ?_
          exact ih20 x7_ x8_ (x6_ + 1) _ _ _ h hP hD hS (lv_sub hl [3, 4, 5, 6, 1, 2, 0] rfl)
        · have h := h.2 c3
          refine lv_iload_n hx hb dX12_netOn_86 rfl (lv_at hl 3 rfl) ?_
          refine lv_if_ne (tgt := 97) hx hb dX12_netOn_87 (by decide) (fun c4 => ?_) (fun c4 => ?_)
          · have h := h.1 c4
            exact N97 x4_ x5_ x6_ x7_ x8_ _ _ _ h hP hD hS (lv_sub hl [0, 1, 2, 3, 4, 5, 6, 7, 8] rfl)
          · have h := h.2 c4
            refine lv_iload hx hb dX12_netOn_90 (lv_at hl 8 rfl) ?_
            refine lv_iload hx hb dX12_netOn_92 (lv_at hl 5 rfl) ?_
            refine lv_icmp_gt (tgt := 109) hx hb dX12_netOn_94 (by decide) (fun c5 => ?_) (fun c5 => ?_)
            · have h := h.1 c5
              refine lv_iload hx hb dX12_netOn_109 (lv_at hl 8 rfl) ?_
              refine lv_istore (lv' := [(5, .int x8_), (0, .ref (aM 0)), (1, .int p1), (2, .int p2), (3, .int x3_), (4, .int x4_), (6, .int x6_), (7, .int x7_), (8, .int x8_)]) hx hb dX12_netOn_111 hl (by decide) rfl (fun ls hl => ?_)
              refine lv_iload hx hb dX12_netOn_113 (lv_at hl 7 rfl) ?_
              refine lv_istore (lv' := [(4, .int x7_), (5, .int x8_), (0, .ref (aM 0)), (1, .int p1), (2, .int p2), (3, .int x3_), (6, .int x6_), (7, .int x7_), (8, .int x8_)]) hx hb dX12_netOn_115 hl (by decide) rfl (fun ls hl => ?_)
              refine lv_iinc (v := (x6_ + 1)) (lv' := [(6, .int (x6_ + 1)), (4, .int x7_), (5, .int x8_), (0, .ref (aM 0)), (1, .int p1), (2, .int p2), (3, .int x3_), (7, .int x7_), (8, .int x8_)]) hx hb dX12_netOn_117 hl (k := 6) rfl rfl (by decide) rfl (fun ls hl => ?_)
              refine lv_goto (tgt := 20) hx hb dX12_netOn_120 (by decide) ?_
              exact ih20 x7_ x8_ (x6_ + 1) _ _ _ h hP hD hS (lv_sub hl [3, 4, 5, 6, 1, 2, 0] rfl)
            · have h := h.2 c5
              exact N97 x4_ x5_ x6_ x7_ x8_ _ _ _ h hP hD hS (lv_sub hl [0, 1, 2, 3, 4, 5, 6, 7, 8] rfl)
      intro x4_ x5_ x6_ H locs ls h hP hD hS hl
      refine lv_iload hx hb dX12_netOn_20 (lv_at hl 6 rfl) ?_
      refine lv_aload_n hx hb dX12_netOn_22 rfl (lv_at hl 0 rfl) ?_
      refine va_get (D := D) (ci := 12) (v := .ref (aM 13)) (C := RX12) (T := TX12) (N := 51) hx hb hw inW_X12 hown hK hP 0 rfl rfl 23 (by decide) (hw _ mw_6_66) (fun _ h9 => h9) rfl dX12_netOn_23 ?_
      refine lv_iload_n hx hb dX12_netOn_26 rfl (lv_at hl 2 rfl) ?_
      refine cIald hx hb hK hP 13 0 rfl rfl p2.toNatClampNeg rfl h.1 dX12_netOn_27 ?_
      have h := h.2
      refine lv_icmp_ge (tgt := 123) hx hb dX12_netOn_28 (by decide) (fun c6 => ?_) (fun c6 => ?_)
      · have h := h.1 c6
        refine lv_iload hx hb dX12_netOn_123 (lv_at hl 5 rfl) ?_
        rw [← hQ]
        exact cRetI (v := x5_) () hx hb hr hlocks hS hP hD h dX12_netOn_125
      · have h := h.2 c6
        refine lv_aload_n hx hb dX12_netOn_31 rfl (lv_at hl 0 rfl) ?_
        refine lv_iload_n hx hb dX12_netOn_32 rfl (lv_at hl 1 rfl) ?_
        refine lv_iload_n hx hb dX12_netOn_33 rfl (lv_at hl 2 rfl) ?_
        refine lv_iload hx hb dX12_netOn_34 (lv_at hl 6 rfl) ?_
        refine cGoAI (cRunAV (As := [.int p1, .int p2, .int x6_]) (rest := []) ⟨hx, hb, hml, hown, hw⟩ hK hN hP hD (k_X12_troubleOf l D C _ aM  ms mw ma ml p1 p2 x6_ h) (cwV 3 hw (goodV mw_7_159 mw_7_161 mw_s135 mw_1_13 mw_7_162) rfl rfl rfl (by decide +kernel) ⟨Nat.le_of_ble_eq_true rfl, Nat.le_of_ble_eq_true rfl⟩) rfl rfl rfl hl.1 rfl (Nat.le_of_ble_eq_true rfl) dX12_netOn_36 ⟨Nat.zero_le _, Nat.zero_le _⟩) hP hD hS hA (fun r7 u H locs h hP hD hS => ?_)
        have hP : va_P D vwCl (List.flatten (wM aM C ms mw ma ml)) H := hP
        have hD : va_D A (List.flatten (wM aM C ms mw ma ml)) := hD
        refine lv_istore (lv' := [(7, .int r7), (0, .ref (aM 0)), (1, .int p1), (2, .int p2), (3, .int x3_), (4, .int x4_), (5, .int x5_), (6, .int x6_)]) hx hb dX12_netOn_39 hl (by decide) rfl (fun ls hl => ?_)
        refine lv_aload_n hx hb dX12_netOn_41 rfl (lv_at hl 1 rfl) ?_
        refine lv_iload_n hx hb dX12_netOn_42 rfl (lv_at hl 3 rfl) ?_
        refine lv_iload hx hb dX12_netOn_43 (lv_at hl 7 rfl) ?_
        refine cGoAI (cRunAV (As := [.int p2, .int x6_]) (rest := []) ⟨hx, hb, hml, hown, hw⟩ hK hN hP hD (k_X12_gainOf l D C _ aM  ms mw ma ml p2 x6_ h) (cwV 2 hw (goodV mw_7_168 mw_7_170 mw_s136 mw_1_13 mw_7_171) rfl rfl rfl (by decide +kernel) ⟨Nat.le_of_ble_eq_true rfl, Nat.le_of_ble_eq_true rfl⟩) rfl rfl rfl hl.1 rfl (Nat.le_of_ble_eq_true rfl) dX12_netOn_45 ⟨Nat.zero_le _, Nat.zero_le _⟩) hP hD hS hA (fun r8 u H locs h hP hD hS => ?_)
        have hP : va_P D vwCl (List.flatten (wM aM C ms mw ma ml)) H := hP
        have hD : va_D A (List.flatten (wM aM C ms mw ma ml)) := hD
        refine lv_iload hx hb dX12_netOn_48 (lv_at hl 0 rfl) ?_
        refine lv_isub hx hb dX12_netOn_50 ?_
        refine lv_topi (fun x9 ex9 => ?_)
        have h := h x9 ex9
        refine lv_istore (lv' := [(8, .int x9), (7, .int r7), (0, .ref (aM 0)), (1, .int p1), (2, .int p2), (3, .int x3_), (4, .int x4_), (5, .int x5_), (6, .int x6_)]) hx hb dX12_netOn_51 hl (by decide) rfl (fun ls hl => ?_)
        refine lv_iload hx hb dX12_netOn_53 (lv_at hl 0 rfl) ?_
        refine lv_if_le (tgt := 117) hx hb dX12_netOn_55 (by decide) (fun c10 => ?_) (fun c10 => ?_)
        · have h := h.1 c10
          refine lv_iinc (v := (x6_ + 1)) (lv' := [(6, .int (x6_ + 1)), (8, .int x9), (7, .int r7), (0, .ref (aM 0)), (1, .int p1), (2, .int p2), (3, .int x3_), (4, .int x4_), (5, .int x5_)]) hx hb dX12_netOn_117 hl (k := 8) rfl rfl (by decide) rfl (fun ls hl => ?_)
          refine lv_goto (tgt := 20) hx hb dX12_netOn_120 (by decide) ?_
          exact ih20 x4_ x5_ (x6_ + 1) _ _ _ h hP hD hS (lv_sub hl [3, 4, 5, 6, 7, 8, 0] rfl)
        · have h := h.2 c10
          refine lv_iload_n hx hb dX12_netOn_58 rfl (lv_at hl 5 rfl) ?_
          refine lv_iconst (v := 2) hx hb dX12_netOn_59 (by decide) ?_
          refine lv_icmp_ne (tgt := 81) hx hb dX12_netOn_60 (by decide) (fun c11 => ?_) (fun c11 => ?_)
          · have h := h.1 c11
            exact N81 x4_ x5_ x6_ r7 x9 _ _ _ h hP hD hS (lv_sub hl [2, 3, 4, 5, 6, 7, 8, 1, 0] rfl)
          · have h := h.2 c11
            refine lv_iload hx hb dX12_netOn_63 (lv_at hl 8 rfl) ?_
            refine lv_aload_n hx hb dX12_netOn_65 rfl (lv_at hl 2 rfl) ?_
            refine va_get (D := D) (ci := 12) (v := .ref (aM 16)) (C := RX12) (T := TX12) (N := 51) hx hb hw inW_X12 hown hK hP 0 rfl rfl 26 (by decide) (hw _ mw_6_69) (fun _ h9 => h9) rfl dX12_netOn_66 ?_
            refine lv_iconst (v := 5) hx hb dX12_netOn_69 (by decide) ?_
            refine lv_iload_n hx hb dX12_netOn_70 rfl (lv_at hl 3 rfl) ?_
            refine lv_imul hx hb dX12_netOn_71 ?_
            refine lv_iconst (v := 4) hx hb dX12_netOn_72 (by decide) ?_
            refine lv_iadd hx hb dX12_netOn_73 ?_
            refine cIald hx hb hK hP 16 0 rfl rfl (((5 * p1) + 4).toNatClampNeg) rfl h.1 dX12_netOn_74 ?_
            have h := h.2
            refine lv_icmp_eq (tgt := 81) hx hb dX12_netOn_75 (by decide) (fun c12 => ?_) (fun c12 => ?_)
            · have h := h.1 c12
              exact N81 x4_ x5_ x6_ r7 x9 _ _ _ h hP hD hS (lv_sub hl [2, 3, 4, 5, 6, 7, 8, 1, 0] rfl)
            · have h := h.2 c12
              refine lv_goto (tgt := 117) hx hb dX12_netOn_78 (by decide) ?_
              refine lv_iinc (v := (x6_ + 1)) (lv' := [(6, .int (x6_ + 1)), (8, .int x9), (7, .int r7), (0, .ref (aM 0)), (1, .int p1), (2, .int p2), (3, .int x3_), (4, .int x4_), (5, .int x5_)]) hx hb dX12_netOn_117 hl (k := 8) rfl rfl (by decide) rfl (fun ls hl => ?_)
              refine lv_goto (tgt := 20) hx hb dX12_netOn_120 (by decide) ?_
              exact ih20 x4_ x5_ (x6_ + 1) _ _ _ h hP hD hS (lv_sub hl [3, 4, 5, 6, 7, 8, 0] rfl)
  refine lv_aload_n hx hb dX12_netOn_0 rfl (lv_at hl 0 rfl) ?_
  refine va_get (D := D) (ci := 12) (v := .ref (aM 16)) (C := RX12) (T := TX12) (N := 51) hx hb hw inW_X12 hown hK hP 0 rfl rfl 26 (by decide) (hw _ mw_6_69) (fun _ h9 => h9) rfl dX12_netOn_1 ?_
  refine lv_iconst (v := 5) hx hb dX12_netOn_4 (by decide) ?_
  refine lv_iload_n hx hb dX12_netOn_5 rfl (lv_at hl 1 rfl) ?_
  refine lv_imul hx hb dX12_netOn_6 ?_
  refine lv_iconst (v := 3) hx hb dX12_netOn_7 (by decide) ?_
  refine lv_iadd hx hb dX12_netOn_8 ?_
  refine cIald hx hb hK hP 16 0 rfl rfl (((5 * p1) + 3).toNatClampNeg) rfl h.1 dX12_netOn_9 ?_
  have h := h.2
  refine lv_topi (fun x13 ex13 => ?_)
  have h := h x13 ex13
  refine lv_istore_n (lv' := [(3, .int x13), (0, .ref (aM 0)), (1, .int p1), (2, .int p2)]) hx hb dX12_netOn_10 rfl hl (by decide) rfl (fun ls hl => ?_)
  refine lv_iconst (v := 0) hx hb dX12_netOn_11 (by decide) ?_
  refine lv_istore (lv' := [(4, .int 0), (3, .int x13), (0, .ref (aM 0)), (1, .int p1), (2, .int p2)]) hx hb dX12_netOn_12 hl (by decide) rfl (fun ls hl => ?_)
  refine lv_iconst (v := 0) hx hb dX12_netOn_14 (by decide) ?_
  refine lv_istore (lv' := [(5, .int 0), (4, .int 0), (3, .int x13), (0, .ref (aM 0)), (1, .int p1), (2, .int p2)]) hx hb dX12_netOn_15 hl (by decide) rfl (fun ls hl => ?_)
  refine lv_iconst (v := 0) hx hb dX12_netOn_17 (by decide) ?_
  refine lv_istore (lv' := [(6, .int 0), (5, .int 0), (4, .int 0), (3, .int x13), (0, .ref (aM 0)), (1, .int p1), (2, .int p2)]) hx hb dX12_netOn_18 hl (by decide) rfl (fun ls hl => ?_)
  obtain ⟨n, h⟩ := h
  exact N20 x13 n 0 0 0 _ _ _ h hP hD hS (lv_sub hl [4, 5, 6, 3, 2, 1, 0] rfl)
abbrev vsX12_rather : List Cond := Cond.code yX12_rather cX12_rather 5 (some .int) :: WS
abbrev rmX12_rather : Room := { frames := 4, cells := 0, slots := 0, locals := 100 }
set_option maxHeartbeats 4000000 in
set_option maxRecDepth 100000 in
theorem k_X12_rather (l : Launch) (D : va_G) (C : Nat → ClassId) (sz : Nat) (aM : Nat → Nat)  (ms : Nat → Int32) (mw : Nat → Int64) (ma : Nat → Nat → Int32) (ml : Nat → Nat → Int64) (p1 : Int32) (p2 : Int32) {post : Int32 → (Nat → Int32) → Prop} (h : P_X12_rather ms ma p1 p2 post) : Met l yX12_rather vsX12_rather rmX12_rather (cPre D C [.ref (aM 0), .int p1, .int p2] sz (wM aM C ms mw ma ml)) (cQi D (fun (r : Int32) (u : (Nat → Int32)) => post r u) (fun u => wM aM C u mw ma ml) (va_A (List.flatten (wM aM C ms mw ma ml)) sz)) 0 0 (va_A (List.flatten (wM aM C ms mw ma ml)) sz) := by
  refine cStart (QA := fun A => cQi D (fun (r : Int32) (u : (Nat → Int32)) => post r u) (fun u => wM aM C u mw ma ml) A) (cc := cX12_rather) (maxL := 5) (ret := (some .int)) (by decide) (Nat.le_of_ble_eq_true rfl) ?_
  intro p e s m args below meth c A ls hx hb hr hml hown hw hlocks hname hK hN hA hP hD hS hl
  generalize hQ : MQ below _ args s 0 0 A = Q
  have hl : lv_has ls 5 [(0, .ref (aM 0)), (1, .int p1), (2, .int p2)] := hl
  obtain ⟨H, hH⟩ : ∃ H, H = s.heap := ⟨_, rfl⟩
  obtain ⟨locs, hlo⟩ : ∃ z : List Loc, z = [] := ⟨_, rfl⟩
  have hP : va_P D vwCl (List.flatten (wM aM C ms mw ma ml)) H := by rw [hH]; exact hP
  have hS : va_S A s.heap H locs := by rw [hH, hlo]; exact hS
  rw [show W p l e rmX12_rather s m args below meth c s.heap [] 0 0 Q (F0 m 0 ls []) = W p l e rmX12_rather s m args below meth c H locs 0 0 Q (F0 m 0 ls []) from by rw [hH, hlo]]
  have N67 : ∀ (x3_ : Int32) (x4_ : Int32) (ms : Nat → Int32) (H : Heap) (locs : List Loc) (ls : Array Slot), P_X12_rather_67 ma p1 p2 post  x3_ x4_ ms → va_P D vwCl (List.flatten (wM aM C ms mw ma ml)) H → va_D A (List.flatten (wM aM C ms mw ma ml)) → va_S A s.heap H locs → lv_has ls 5 [(3, .int x3_), (4, .int x4_)] → W p l e rmX12_rather s m args below meth c H locs 0 0 Q (F0 m 67 ls []) := by
    intro x3_ x4_ ms H locs ls h hP hD hS hl
    refine lv_iload hx hb dX12_rather_67 (lv_at hl 1 rfl) ?_
    refine lv_iload_n hx hb dX12_rather_69 rfl (lv_at hl 0 rfl) ?_
    refine lv_icmp_le (tgt := 77) hx hb dX12_rather_70 (by decide) (fun c1 => ?_) (fun c1 => ?_)
    · have h := h.1 c1
      refine lv_iconst (v := 0) hx hb dX12_rather_77 (by decide) ?_
      rw [← hQ]
      exact cRetI (v := 0) (ms) hx hb hr hlocks hS hP hD h dX12_rather_78
    · have h := h.2 c1
      refine lv_iconst (v := 1) hx hb dX12_rather_73 (by decide) ?_
      refine lv_goto (tgt := 78) hx hb dX12_rather_74 (by decide) ?_
      rw [← hQ]
      exact cRetI (v := 1) (ms) hx hb hr hlocks hS hP hD h dX12_rather_78
  refine lv_aload_n hx hb dX12_rather_0 rfl (lv_at hl 0 rfl) ?_
  refine lv_iconst (v := 0) hx hb dX12_rather_1 (by decide) ?_
  refine va_put (D := D) (ci := 12) (v := .int 0) (ty := .int) (C := RX12) (T := TX12) (N := 51) hx hb hw inW_X12 tyX12 tyX12_ok nmX12 hown hK hP hD hS 0 rfl rfl 0 (by decide) (hw _ mw_6_43) (fun _ h9 => h9) rfl (by decide +kernel) rfl rfl (Nat.le_of_ble_eq_true rfl) dX12_rather_2 (fun H locs hP hD hS => ?_)
  refine lv_aload_n hx hb dX12_rather_5 rfl (lv_at hl 0 rfl) ?_
  refine lv_iload_n hx hb dX12_rather_6 rfl (lv_at hl 1 rfl) ?_
  have hP : va_P D vwCl (List.flatten (wM aM C (va_up ms 0 0) mw ma ml)) H := hP
  have hD : va_D A (List.flatten (wM aM C (va_up ms 0 0) mw ma ml)) := hD
  refine cGoAI (cRunAV (As := [.int p1]) (rest := []) ⟨hx, hb, hml, hown, hw⟩ hK hN hP hD (k_X12_isThief l D C _ aM  (va_up ms 0 0) mw ma ml p1 h) (cwV 1 hw (goodV mw_7_155 mw_7_157 mw_s134 mw_1_13 mw_7_158) rfl rfl rfl (by decide +kernel) ⟨Nat.le_of_ble_eq_true rfl, Nat.le_of_ble_eq_true rfl⟩) rfl rfl rfl hl.1 rfl (Nat.le_of_ble_eq_true rfl) dX12_rather_7 ⟨Nat.zero_le _, Nat.zero_le _⟩) hP hD hS hA (fun r2 u H locs h hP hD hS => ?_)
  have hP : va_P D vwCl (List.flatten (wM aM C (va_up ms 0 0) mw ma ml)) H := hP
  have hD : va_D A (List.flatten (wM aM C (va_up ms 0 0) mw ma ml)) := hD
  refine lv_if_eq (tgt := 34) hx hb dX12_rather_10 (by decide) (fun c3 => ?_) (fun c3 => ?_)
  · have h := h.1 c3
    refine lv_bipush (v := (-2)) hx hb dX12_rather_34 (by decide) ?_
    rw [← hQ]
    exact cRetI (v := (-2)) ((va_up ms 0 0)) hx hb hr hlocks hS hP hD h dX12_rather_36
  · have h := h.2 c3
    refine lv_iload_n hx hb dX12_rather_13 rfl (lv_at hl 2 rfl) ?_
    refine lv_i2l hx hb dX12_rather_14 rfl ?_
    refine lv_lconst (v := 0) hx hb dX12_rather_15 (by decide) ?_
    refine lv_ldc2 (v := 2) hx hb hown (hw _ mw_8_1) dX12_rather_16 ?_
    refine cGoEI (cRunES (As := [.long p2.toInt64, .long 0, .long 2]) (rest := []) ⟨hx, hb, hml, hown, hw⟩ hK hN hP hD (k_X12_in l D C _    p2.toInt64 0 2 h) (va_cwS 3 hw (goodS mw_6_205 mw_6_206 mw_1_13 mw_6_207) rfl rfl rfl (by decide +kernel) ⟨Nat.le_of_ble_eq_true rfl, Nat.le_of_ble_eq_true rfl⟩) rfl hl.1 rfl (Nat.le_of_ble_eq_true rfl) dX12_rather_19 ⟨Nat.zero_le _, Nat.zero_le _⟩) hP hD hS hA (fun r4 u H locs h hP hD hS => ?_)
    have hP : va_P D vwCl (List.flatten (wM aM C (va_up ms 0 0) mw ma ml)) H := hP
    have hD : va_D A (List.flatten (wM aM C (va_up ms 0 0) mw ma ml)) := hD
    refine lv_if_eq (tgt := 34) hx hb dX12_rather_22 (by decide) (fun c5 => ?_) (fun c5 => ?_)
    · have h := h.1 c5
      refine lv_bipush (v := (-2)) hx hb dX12_rather_34 (by decide) ?_
      rw [← hQ]
      exact cRetI (v := (-2)) ((va_up ms 0 0)) hx hb hr hlocks hS hP hD h dX12_rather_36
    · have h := h.2 c5
      refine lv_aload_n hx hb dX12_rather_25 rfl (lv_at hl 0 rfl) ?_
      refine va_get (D := D) (ci := 12) (v := .ref (aM 20)) (C := RX12) (T := TX12) (N := 51) hx hb hw inW_X12 hown hK hP 0 rfl rfl 30 (by decide) (hw _ mw_6_73) (fun _ h9 => h9) rfl dX12_rather_26 ?_
      refine lv_iload_n hx hb dX12_rather_29 rfl (lv_at hl 2 rfl) ?_
      refine cZald hx hb hK hP 20 3 rfl rfl p2.toNatClampNeg rfl h.1 dX12_rather_30 ?_
      have h := h.2
      refine lv_if_ne (tgt := 37) hx hb dX12_rather_31 (by decide) (fun c6 => ?_) (fun c6 => ?_)
      · have h := h.1 c6
        refine lv_aload_n hx hb dX12_rather_37 rfl (lv_at hl 0 rfl) ?_
        refine lv_iload_n hx hb dX12_rather_38 rfl (lv_at hl 1 rfl) ?_
        refine lv_iconst (v := 0) hx hb dX12_rather_39 (by decide) ?_
        refine cGoAI (cRunAV (As := [.int p1, .int 0]) (rest := []) ⟨hx, hb, hml, hown, hw⟩ hK hN hP hD (k_X12_netOn l D C _ aM  (va_up ms 0 0) mw ma ml p1 0 h) (cwV 2 hw (goodV mw_9_35 mw_9_37 mw_s178 mw_1_13 mw_9_38) rfl rfl rfl (by decide +kernel) ⟨Nat.le_of_ble_eq_true rfl, Nat.le_of_ble_eq_true rfl⟩) rfl rfl rfl hl.1 rfl (Nat.le_of_ble_eq_true rfl) dX12_rather_40 ⟨Nat.zero_le _, Nat.zero_le _⟩) hP hD hS hA (fun r7 u H locs h hP hD hS => ?_)
        have hP : va_P D vwCl (List.flatten (wM aM C (va_up ms 0 0) mw ma ml)) H := hP
        have hD : va_D A (List.flatten (wM aM C (va_up ms 0 0) mw ma ml)) := hD
        refine lv_istore_n (lv' := [(3, .int r7), (0, .ref (aM 0)), (1, .int p1), (2, .int p2)]) hx hb dX12_rather_43 rfl hl (by decide) rfl (fun ls hl => ?_)
        refine lv_aload_n hx hb dX12_rather_44 rfl (lv_at hl 1 rfl) ?_
        refine lv_iload_n hx hb dX12_rather_45 rfl (lv_at hl 2 rfl) ?_
        refine lv_iconst (v := 1) hx hb dX12_rather_46 (by decide) ?_
        refine lv_iload_n hx hb dX12_rather_47 rfl (lv_at hl 3 rfl) ?_
        refine lv_iadd hx hb dX12_rather_48 ?_
        refine cGoAI (cRunAV (As := [.int p1, .int (1 + p2)]) (rest := []) ⟨hx, hb, hml, hown, hw⟩ hK hN hP hD (k_X12_netOn l D C _ aM  (va_up ms 0 0) mw ma ml p1 (1 + p2) h) (cwV 2 hw (goodV mw_9_35 mw_9_37 mw_s178 mw_1_13 mw_9_38) rfl rfl rfl (by decide +kernel) ⟨Nat.le_of_ble_eq_true rfl, Nat.le_of_ble_eq_true rfl⟩) rfl rfl rfl hl.1 rfl (Nat.le_of_ble_eq_true rfl) dX12_rather_49 ⟨Nat.zero_le _, Nat.zero_le _⟩) hP hD hS hA (fun r8 u H locs h hP hD hS => ?_)
        have hP : va_P D vwCl (List.flatten (wM aM C (va_up ms 0 0) mw ma ml)) H := hP
        have hD : va_D A (List.flatten (wM aM C (va_up ms 0 0) mw ma ml)) := hD
        refine lv_istore (lv' := [(4, .int r8), (3, .int r7), (0, .ref (aM 0)), (1, .int p1), (2, .int p2)]) hx hb dX12_rather_52 hl (by decide) rfl (fun ls hl => ?_)
        refine lv_iload_n hx hb dX12_rather_54 rfl (lv_at hl 1 rfl) ?_
        refine lv_if_ne (tgt := 67) hx hb dX12_rather_55 (by decide) (fun c9 => ?_) (fun c9 => ?_)
        · have h := h.1 c9
          exact N67 r7 r8 (va_up ms 0 0) _ _ _ h hP hD hS (lv_sub hl [1, 0] rfl)
        · have h := h.2 c9
          refine lv_iload hx hb dX12_rather_58 (lv_at hl 0 rfl) ?_
          refine lv_if_ne (tgt := 67) hx hb dX12_rather_60 (by decide) (fun c10 => ?_) (fun c10 => ?_)
          · have h := h.1 c10
            exact N67 r7 r8 (va_up ms 0 0) _ _ _ h hP hD hS (lv_sub hl [1, 0] rfl)
          · have h := h.2 c10
            refine lv_iconst (v := (-1)) hx hb dX12_rather_63 (by decide) ?_
            refine lv_goto (tgt := 78) hx hb dX12_rather_64 (by decide) ?_
            rw [← hQ]
            exact cRetI (v := (-1)) ((va_up ms 0 0)) hx hb hr hlocks hS hP hD h dX12_rather_78
      · have h := h.2 c6
        refine lv_bipush (v := (-2)) hx hb dX12_rather_34 (by decide) ?_
        rw [← hQ]
        exact cRetI (v := (-2)) ((va_up ms 0 0)) hx hb hr hlocks hS hP hD h dX12_rather_36
abbrev vsX12_draw : List Cond := Cond.code yX12_draw cX12_draw 1 (some .int) :: WS
abbrev rmX12_draw : Room := { frames := 0, cells := 0, slots := 0, locals := 0 }
set_option maxHeartbeats 4000000 in
set_option maxRecDepth 100000 in
theorem k_X12_draw (l : Launch) (D : va_G) (C : Nat → ClassId) (sz : Nat) (aM : Nat → Nat)  (ms : Nat → Int32) (mw : Nat → Int64) (ma : Nat → Nat → Int32) (ml : Nat → Nat → Int64)  {post : Int32 → (Nat → Int64) → Prop} (h : P_X12_draw mw post) : Met l yX12_draw vsX12_draw rmX12_draw (cPre D C [.ref (aM 0)] sz (wM aM C ms mw ma ml)) (cQi D (fun (r : Int32) (u : (Nat → Int64)) => post r u) (fun u => wM aM C ms u ma ml) (va_A (List.flatten (wM aM C ms mw ma ml)) sz)) 0 0 (va_A (List.flatten (wM aM C ms mw ma ml)) sz) := by
  refine cStart (QA := fun A => cQi D (fun (r : Int32) (u : (Nat → Int64)) => post r u) (fun u => wM aM C ms u ma ml) A) (cc := cX12_draw) (maxL := 1) (ret := (some .int)) (by decide) (Nat.le_of_ble_eq_true rfl) ?_
  intro p e s m args below meth c A ls hx hb hr hml hown hw hlocks hname hK hN hA hP hD hS hl
  generalize hQ : MQ below _ args s 0 0 A = Q
  have hl : lv_has ls 1 [(0, .ref (aM 0))] := hl
  obtain ⟨H, hH⟩ : ∃ H, H = s.heap := ⟨_, rfl⟩
  obtain ⟨locs, hlo⟩ : ∃ z : List Loc, z = [] := ⟨_, rfl⟩
  have hP : va_P D vwCl (List.flatten (wM aM C ms mw ma ml)) H := by rw [hH]; exact hP
  have hS : va_S A s.heap H locs := by rw [hH, hlo]; exact hS
  rw [show W p l e rmX12_draw s m args below meth c s.heap [] 0 0 Q (F0 m 0 ls []) = W p l e rmX12_draw s m args below meth c H locs 0 0 Q (F0 m 0 ls []) from by rw [hH, hlo]]
  refine lv_aload_n hx hb dX12_draw_0 rfl (lv_at hl 0 rfl) ?_
  refine lv_ldc2 (v := 1103515245) hx hb hown (hw _ mw_9_59) dX12_draw_1 ?_
  refine lv_aload_n hx hb dX12_draw_4 rfl (lv_at hl 0 rfl) ?_
  refine va_get (D := D) (ci := 12) (v := .long (mw 4)) (C := RX12) (T := TX12) (N := 51) hx hb hw inW_X12 hown hK hP 0 rfl rfl 50 (by decide) (hw _ mw_6_93) (fun _ h9 => h9) rfl dX12_draw_5 ?_
  refine lv_lmul hx hb dX12_draw_8 ?_
  refine lv_ldc2 (v := 12345) hx hb hown (hw _ mw_9_60) dX12_draw_9 ?_
  refine lv_ladd hx hb dX12_draw_12 ?_
  refine lv_ldc2 (v := 2147483648) hx hb hown (hw _ mw_9_61) dX12_draw_13 ?_
  refine lv_lrem hx hb dX12_draw_16 (by decide) ?_
  refine lv_topl (fun x1 ex1 => ?_)
  have h := h x1 ex1
  refine va_put (D := D) (ci := 12) (v := .long x1) (ty := .long) (C := RX12) (T := TX12) (N := 51) hx hb hw inW_X12 tyX12 tyX12_ok nmX12 hown hK hP hD hS 0 rfl rfl 50 (by decide) (hw _ mw_6_93) (fun _ h9 => h9) rfl (by decide +kernel) rfl rfl (Nat.le_of_ble_eq_true rfl) dX12_draw_17 (fun H locs hP hD hS => ?_)
  refine lv_aload_n hx hb dX12_draw_20 rfl (lv_at hl 0 rfl) ?_
  refine va_get (D := D) (ci := 12) (v := .long x1) (C := RX12) (T := TX12) (N := 51) hx hb hw inW_X12 hown hK hP 0 rfl rfl 50 (by decide) (hw _ mw_6_93) (fun _ h9 => h9) rfl dX12_draw_21 ?_
  refine lv_ldc2 (v := 65536) hx hb hown (hw _ mw_9_62) dX12_draw_24 ?_
  refine lv_ldiv hx hb dX12_draw_27 (by decide) ?_
  refine lv_ldc2 (v := 100) hx hb hown (hw _ mw_7_163) dX12_draw_28 ?_
  refine lv_lrem hx hb dX12_draw_31 (by decide) ?_
  refine lv_l2i hx hb dX12_draw_32 rfl ?_
  have hP : va_P D vwCl (List.flatten (wM aM C ms (va_up mw 4 x1) ma ml)) H := hP
  have hD : va_D A (List.flatten (wM aM C ms (va_up mw 4 x1) ma ml)) := hD
  rw [← hQ]
  exact cRetI (v := ((x1 / 65536) - (x1 / 65536) / 100 * 100).toInt32) ((va_up mw 4 x1)) hx hb hr hlocks hS hP hD h dX12_draw_33
abbrev vsX12_newYear : List Cond := Cond.code yX12_newYear cX12_newYear 2 none :: WS
abbrev rmX12_newYear : Room := { frames := 4, cells := 0, slots := 0, locals := 95 }
set_option maxHeartbeats 4000000 in
set_option maxRecDepth 100000 in
theorem k_X12_newYear (l : Launch) (D : va_G) (C : Nat → ClassId) (sz : Nat) (aM : Nat → Nat)  (ms : Nat → Int32) (mw : Nat → Int64) (ma : Nat → Nat → Int32) (ml : Nat → Nat → Int64)  {post : (Nat → Int32) → (Nat → Nat → Int32) → Prop} (h : P_X12_newYear ms ma post) : Met l yX12_newYear vsX12_newYear rmX12_newYear (cPre D C [.ref (aM 0)] sz (wM aM C ms mw ma ml)) (cQv D (fun (u : (Nat → Int32) × (Nat → Nat → Int32)) => post u.1 u.2) (fun u => wM aM C u.1 mw u.2 ml) (va_A (List.flatten (wM aM C ms mw ma ml)) sz)) 0 0 (va_A (List.flatten (wM aM C ms mw ma ml)) sz) := by
  refine cStart (QA := fun A => cQv D (fun (u : (Nat → Int32) × (Nat → Nat → Int32)) => post u.1 u.2) (fun u => wM aM C u.1 mw u.2 ml) A) (cc := cX12_newYear) (maxL := 2) (ret := none) (by decide) (Nat.le_of_ble_eq_true rfl) ?_
  intro p e s m args below meth c A ls hx hb hr hml hown hw hlocks hname hK hN hA hP hD hS hl
  generalize hQ : MQ below _ args s 0 0 A = Q
  have hl : lv_has ls 2 [(0, .ref (aM 0))] := hl
  obtain ⟨H, hH⟩ : ∃ H, H = s.heap := ⟨_, rfl⟩
  obtain ⟨locs, hlo⟩ : ∃ z : List Loc, z = [] := ⟨_, rfl⟩
  have hP : va_P D vwCl (List.flatten (wM aM C ms mw ma ml)) H := by rw [hH]; exact hP
  have hS : va_S A s.heap H locs := by rw [hH, hlo]; exact hS
  rw [show W p l e rmX12_newYear s m args below meth c s.heap [] 0 0 Q (F0 m 0 ls []) = W p l e rmX12_newYear s m args below meth c H locs 0 0 Q (F0 m 0 ls []) from by rw [hH, hlo]]
  have N7 : ∀ (ms : Nat → Int32) (n7 : Nat) (x1_ : Int32) (ma : Nat → Nat → Int32) (H : Heap) (locs : List Loc) (ls : Array Slot), P_X12_newYear_7  post  ms n7 x1_ ma → va_P D vwCl (List.flatten (wM aM C ms mw ma ml)) H → va_D A (List.flatten (wM aM C ms mw ma ml)) → va_S A s.heap H locs → lv_has ls 2 [(0, .ref (aM 0)), (1, .int x1_)] → W p l e rmX12_newYear s m args below meth c H locs 0 0 Q (F0 m 7 ls []) := by
    intro ms
    intro n7
    induction n7 with
    | zero => intro x1_ ma H locs ls h hP hD hS hl; exact False.elim h
    | succ n7 ih7 =>
      intro x1_ ma H locs ls h hP hD hS hl
      refine lv_iload_n hx hb dX12_newYear_7 rfl (lv_at hl 1 rfl) ?_
      refine lv_bipush (v := 16) hx hb dX12_newYear_8 (by decide) ?_
      refine lv_icmp_ge (tgt := 26) hx hb dX12_newYear_10 (by decide) (fun c1 => ?_) (fun c1 => ?_)
      · have h := h.1 c1
        rw [← hQ]
        exact cRetV (ms, ma) hx hb hr hlocks hS hP hD h dX12_newYear_26
      · have h := h.2 c1
        refine lv_aload_n hx hb dX12_newYear_13 rfl (lv_at hl 0 rfl) ?_
        refine va_get (D := D) (ci := 12) (v := .ref (aM 32)) (C := RX12) (T := TX12) (N := 51) hx hb hw inW_X12 hown hK hP 0 rfl rfl 49 (by decide) (hw _ mw_6_92) (fun _ h9 => h9) rfl dX12_newYear_14 ?_
        refine lv_iload_n hx hb dX12_newYear_17 rfl (lv_at hl 1 rfl) ?_
        refine lv_iconst (v := 0) hx hb dX12_newYear_18 (by decide) ?_
        refine cIast hx hb hK hP hD hS 32 0 rfl rfl x1_.toNatClampNeg rfl h.1 dX12_newYear_19 (fun H locs hP hD hS => ?_)
        have h := h.2
        refine lv_iinc (v := (x1_ + 1)) (lv' := [(1, .int (x1_ + 1)), (0, .ref (aM 0))]) hx hb dX12_newYear_20 hl (k := 1) rfl rfl (by decide) rfl (fun ls hl => ?_)
        refine lv_goto (tgt := 7) hx hb dX12_newYear_23 (by decide) ?_
        have hP : va_P D vwCl (List.flatten (wM aM C ms mw (va_up ma 21 (upd (ma 21) x1_.toNatClampNeg 0)) ml)) H := hP
        have hD : va_D A (List.flatten (wM aM C ms mw (va_up ma 21 (upd (ma 21) x1_.toNatClampNeg 0)) ml)) := hD
        exact ih7 (x1_ + 1) (va_up ma 21 (upd (ma 21) x1_.toNatClampNeg 0)) _ _ _ h hP hD hS (lv_sub hl [1, 0] rfl)
  refine lv_aload_n hx hb dX12_newYear_0 rfl (lv_at hl 0 rfl) ?_
  refine lv_iconst (v := (-1)) hx hb dX12_newYear_1 (by decide) ?_
  refine cGoAV (cRunAV (As := [.int (-1)]) (rest := []) ⟨hx, hb, hml, hown, hw⟩ hK hN hP hD (k_X12_lays l D C _ aM  ms mw ma ml (-1) h) (cwV 1 hw (goodV mw_7_180 mw_7_182 mw_s138 mw_1_13 mw_7_183) rfl rfl rfl (by decide +kernel) ⟨Nat.le_of_ble_eq_true rfl, Nat.le_of_ble_eq_true rfl⟩) rfl rfl rfl hl.1 rfl (Nat.le_of_ble_eq_true rfl) dX12_newYear_2 ⟨Nat.zero_le _, Nat.zero_le _⟩) hP hD hS hA (fun u H locs h hP hD hS => ?_)
  obtain ⟨ms_2, ma_3⟩ := u
  have hP : va_P D vwCl (List.flatten (wM aM C ms_2 mw ma_3 ml)) H := hP
  have hD : va_D A (List.flatten (wM aM C ms_2 mw ma_3 ml)) := hD
  refine lv_iconst (v := 0) hx hb dX12_newYear_5 (by decide) ?_
  refine lv_istore_n (lv' := [(1, .int 0), (0, .ref (aM 0))]) hx hb dX12_newYear_6 rfl hl (by decide) rfl (fun ls hl => ?_)
  obtain ⟨n, h⟩ := h
  exact N7 ms_2 n 0 ma_3 _ _ _ h hP hD hS (lv_sub hl [1, 0] rfl)
abbrev vsX12_comes : List Cond := Cond.code yX12_comes cX12_comes 4 (some .int) :: WS
abbrev rmX12_comes : Room := { frames := 1, cells := 0, slots := 0, locals := 26 }
set_option maxHeartbeats 4000000 in
set_option maxRecDepth 100000 in
theorem k_X12_comes (l : Launch) (D : va_G) (C : Nat → ClassId) (sz : Nat) (aM : Nat → Nat)  (ms : Nat → Int32) (mw : Nat → Int64) (ma : Nat → Nat → Int32) (ml : Nat → Nat → Int64) (p1 : Int32) (p2 : Int32) {post : Int32 → (Nat → Nat → Int32) → Prop} (h : P_X12_comes ms ma p1 p2 post) : Met l yX12_comes vsX12_comes rmX12_comes (cPre D C [.ref (aM 0), .int p1, .int p2] sz (wM aM C ms mw ma ml)) (cQi D (fun (r : Int32) (u : (Nat → Nat → Int32)) => post r u) (fun u => wM aM C ms mw u ml) (va_A (List.flatten (wM aM C ms mw ma ml)) sz)) 0 0 (va_A (List.flatten (wM aM C ms mw ma ml)) sz) := by
  refine cStart (QA := fun A => cQi D (fun (r : Int32) (u : (Nat → Nat → Int32)) => post r u) (fun u => wM aM C ms mw u ml) A) (cc := cX12_comes) (maxL := 4) (ret := (some .int)) (by decide) (Nat.le_of_ble_eq_true rfl) ?_
  intro p e s m args below meth c A ls hx hb hr hml hown hw hlocks hname hK hN hA hP hD hS hl
  generalize hQ : MQ below _ args s 0 0 A = Q
  have hl : lv_has ls 4 [(0, .ref (aM 0)), (1, .int p1), (2, .int p2)] := hl
  obtain ⟨H, hH⟩ : ∃ H, H = s.heap := ⟨_, rfl⟩
  obtain ⟨locs, hlo⟩ : ∃ z : List Loc, z = [] := ⟨_, rfl⟩
  have hP : va_P D vwCl (List.flatten (wM aM C ms mw ma ml)) H := by rw [hH]; exact hP
  have hS : va_S A s.heap H locs := by rw [hH, hlo]; exact hS
  rw [show W p l e rmX12_comes s m args below meth c s.heap [] 0 0 Q (F0 m 0 ls []) = W p l e rmX12_comes s m args below meth c H locs 0 0 Q (F0 m 0 ls []) from by rw [hH, hlo]]
  unfold P_X12_comes at h
  refine lv_aload_n hx hb dX12_comes_0 rfl (lv_at hl 0 rfl) ?_
  refine lv_iload_n hx hb dX12_comes_1 rfl (lv_at hl 1 rfl) ?_
  refine lv_iload_n hx hb dX12_comes_2 rfl (lv_at hl 2 rfl) ?_
  refine cGoAI (cRunAV (As := [.int p1, .int p2]) (rest := []) ⟨hx, hb, hml, hown, hw⟩ hK hN hP hD (k_X12_takesOf l D C _ aM  ms mw ma ml p1 p2 h) (cwV 2 hw (goodV mw_7_184 mw_7_186 mw_s139 mw_1_13 mw_7_187) rfl rfl rfl (by decide +kernel) ⟨Nat.le_of_ble_eq_true rfl, Nat.le_of_ble_eq_true rfl⟩) rfl rfl rfl hl.1 rfl (Nat.le_of_ble_eq_true rfl) dX12_comes_3 ⟨Nat.zero_le _, Nat.zero_le _⟩) hP hD hS hA (fun r1 u H locs h hP hD hS => ?_)
  have hP : va_P D vwCl (List.flatten (wM aM C ms mw ma ml)) H := hP
  have hD : va_D A (List.flatten (wM aM C ms mw ma ml)) := hD
  refine lv_istore_n (lv' := [(3, .int r1), (0, .ref (aM 0)), (1, .int p1), (2, .int p2)]) hx hb dX12_comes_6 rfl hl (by decide) rfl (fun ls hl => ?_)
  refine lv_iload_n hx hb dX12_comes_7 rfl (lv_at hl 0 rfl) ?_
  refine lv_iconst (v := (-1)) hx hb dX12_comes_8 (by decide) ?_
  refine lv_icmp_ne (tgt := 14) hx hb dX12_comes_9 (by decide) (fun c2 => ?_) (fun c2 => ?_)
  · have h := h.1 c2
    refine lv_aload_n hx hb dX12_comes_14 rfl (lv_at hl 1 rfl) ?_
    refine va_get (D := D) (ci := 12) (v := .ref (aM 32)) (C := RX12) (T := TX12) (N := 51) hx hb hw inW_X12 hown hK hP 0 rfl rfl 49 (by decide) (hw _ mw_6_92) (fun _ h9 => h9) rfl dX12_comes_15 ?_
    refine lv_iload_n hx hb dX12_comes_18 rfl (lv_at hl 0 rfl) ?_
    refine lv_dup2_11 hx hb dX12_comes_19 rfl rfl ?_
    try dsimp only at h
    obtain ⟨kk_3, hkk_3⟩ : ∃ z : Nat, r1.toNatClampNeg = z := ⟨_, rfl⟩
    rw [hkk_3] at h
    refine cIald hx hb hK hP 32 0 rfl rfl kk_3 hkk_3 h.1 dX12_comes_20 ?_
    have h := h.2
    refine lv_iconst (v := 1) hx hb dX12_comes_21 (by decide) ?_
    refine lv_iadd hx hb dX12_comes_22 ?_
    try dsimp only at h
    refine cIast hx hb hK hP hD hS 32 0 rfl rfl kk_3 hkk_3 h.1 dX12_comes_23 (fun H locs hP hD hS => ?_)
    have h := h.2
    refine lv_aload_n hx hb dX12_comes_24 rfl (lv_at hl 1 rfl) ?_
    refine va_get (D := D) (ci := 12) (v := .ref (aM 32)) (C := RX12) (T := TX12) (N := 51) hx hb hw inW_X12 hown hK hP 0 rfl rfl 49 (by decide) (hw _ mw_6_92) (fun _ h9 => h9) rfl dX12_comes_25 ?_
    refine lv_bipush (v := 10) hx hb dX12_comes_28 (by decide) ?_
    refine lv_iload_n hx hb dX12_comes_30 rfl (lv_at hl 2 rfl) ?_
    refine lv_iadd hx hb dX12_comes_31 ?_
    refine lv_dup2_11 hx hb dX12_comes_32 rfl rfl ?_
    try dsimp only at h
    obtain ⟨kk_4, hkk_4⟩ : ∃ z : Nat, (10 + p1).toNatClampNeg = z := ⟨_, rfl⟩
    rw [hkk_4] at h
    refine cIald hx hb hK hP 32 0 rfl rfl kk_4 hkk_4 h.1 dX12_comes_33 ?_
    have h := h.2
    refine lv_iconst (v := 1) hx hb dX12_comes_34 (by decide) ?_
    refine lv_iadd hx hb dX12_comes_35 ?_
    try dsimp only at h
    refine cIast hx hb hK hP hD hS 32 0 rfl rfl kk_4 hkk_4 h.1 dX12_comes_36 (fun H locs hP hD hS => ?_)
    have h := h.2
    refine lv_iload_n hx hb dX12_comes_37 rfl (lv_at hl 3 rfl) ?_
    refine lv_iconst (v := 1) hx hb dX12_comes_38 (by decide) ?_
    refine lv_iload_n hx hb dX12_comes_39 rfl (lv_at hl 0 rfl) ?_
    refine lv_ishl hx hb dX12_comes_40 ?_
    refine lv_ior hx hb dX12_comes_41 ?_
    have hP : va_P D vwCl (List.flatten (wM aM C ms mw (va_up ma 21 (upd (upd (ma 21) kk_3 ((ma 21 kk_3) + 1)) kk_4 (((upd (ma 21) kk_3 ((ma 21 kk_3) + 1)) kk_4) + 1))) ml)) H := hP
    have hD : va_D A (List.flatten (wM aM C ms mw (va_up ma 21 (upd (upd (ma 21) kk_3 ((ma 21 kk_3) + 1)) kk_4 (((upd (ma 21) kk_3 ((ma 21 kk_3) + 1)) kk_4) + 1))) ml)) := hD
    rw [← hQ]
    exact cRetI (v := (p2 ||| ((1 : Int32) <<< (r1 &&& 31)))) ((va_up ma 21 (upd (upd (ma 21) kk_3 ((ma 21 kk_3) + 1)) kk_4 (((upd (ma 21) kk_3 ((ma 21 kk_3) + 1)) kk_4) + 1)))) hx hb hr hlocks hS hP hD h dX12_comes_42
  · have h := h.2 c2
    refine lv_iload_n hx hb dX12_comes_12 rfl (lv_at hl 3 rfl) ?_
    rw [← hQ]
    exact cRetI (v := p2) (ma) hx hb hr hlocks hS hP hD h dX12_comes_13
abbrev vsX12_drawnAll : List Cond := Cond.code yX12_drawnAll cX12_drawnAll 3 (some .int) :: WS
abbrev rmX12_drawnAll : Room := { frames := 0, cells := 0, slots := 0, locals := 0 }
set_option maxHeartbeats 4000000 in
set_option maxRecDepth 100000 in
theorem k_X12_drawnAll (l : Launch) (D : va_G) (C : Nat → ClassId) (sz : Nat) (aM : Nat → Nat)  (ms : Nat → Int32) (mw : Nat → Int64) (ma : Nat → Nat → Int32) (ml : Nat → Nat → Int64)  {post : Int32 → Prop} (h : P_X12_drawnAll ma post) : Met l yX12_drawnAll vsX12_drawnAll rmX12_drawnAll (cPre D C [.ref (aM 0)] sz (wM aM C ms mw ma ml)) (cQi D (fun (r : Int32) (u : Unit) => post r ) (fun u => wM aM C ms mw ma ml) (va_A (List.flatten (wM aM C ms mw ma ml)) sz)) 0 0 (va_A (List.flatten (wM aM C ms mw ma ml)) sz) := by
  refine cStart (QA := fun A => cQi D (fun (r : Int32) (u : Unit) => post r ) (fun u => wM aM C ms mw ma ml) A) (cc := cX12_drawnAll) (maxL := 3) (ret := (some .int)) (by decide) (Nat.le_of_ble_eq_true rfl) ?_
  intro p e s m args below meth c A ls hx hb hr hml hown hw hlocks hname hK hN hA hP hD hS hl
  generalize hQ : MQ below _ args s 0 0 A = Q
  have hl : lv_has ls 3 [(0, .ref (aM 0))] := hl
  obtain ⟨H, hH⟩ : ∃ H, H = s.heap := ⟨_, rfl⟩
  obtain ⟨locs, hlo⟩ : ∃ z : List Loc, z = [] := ⟨_, rfl⟩
  have hP : va_P D vwCl (List.flatten (wM aM C ms mw ma ml)) H := by rw [hH]; exact hP
  have hS : va_S A s.heap H locs := by rw [hH, hlo]; exact hS
  rw [show W p l e rmX12_drawnAll s m args below meth c s.heap [] 0 0 Q (F0 m 0 ls []) = W p l e rmX12_drawnAll s m args below meth c H locs 0 0 Q (F0 m 0 ls []) from by rw [hH, hlo]]
  have N4 : ∀  (n4 : Nat) (x1_ : Int32) (x2_ : Int32) (H : Heap) (locs : List Loc) (ls : Array Slot), P_X12_drawnAll_4 ma post   n4 x1_ x2_ → va_P D vwCl (List.flatten (wM aM C ms mw ma ml)) H → va_D A (List.flatten (wM aM C ms mw ma ml)) → va_S A s.heap H locs → lv_has ls 3 [(0, .ref (aM 0)), (1, .int x1_), (2, .int x2_)] → W p l e rmX12_drawnAll s m args below meth c H locs 0 0 Q (F0 m 4 ls []) := by
    intro n4
    induction n4 with
    | zero => intro x1_ x2_ H locs ls h hP hD hS hl; exact False.elim h
    | succ n4 ih4 =>
      intro x1_ x2_ H locs ls h hP hD hS hl
      refine lv_iload_n hx hb dX12_drawnAll_4 rfl (lv_at hl 2 rfl) ?_
      refine lv_bipush (v := 10) hx hb dX12_drawnAll_5 (by decide) ?_
      refine lv_icmp_ge (tgt := 25) hx hb dX12_drawnAll_7 (by decide) (fun c1 => ?_) (fun c1 => ?_)
      · have h := h.1 c1
        refine lv_iload_n hx hb dX12_drawnAll_25 rfl (lv_at hl 1 rfl) ?_
        rw [← hQ]
        exact cRetI (v := x1_) () hx hb hr hlocks hS hP hD h dX12_drawnAll_26
      · have h := h.2 c1
        refine lv_iload_n hx hb dX12_drawnAll_10 rfl (lv_at hl 1 rfl) ?_
        refine lv_aload_n hx hb dX12_drawnAll_11 rfl (lv_at hl 0 rfl) ?_
        refine va_get (D := D) (ci := 12) (v := .ref (aM 32)) (C := RX12) (T := TX12) (N := 51) hx hb hw inW_X12 hown hK hP 0 rfl rfl 49 (by decide) (hw _ mw_6_92) (fun _ h9 => h9) rfl dX12_drawnAll_12 ?_
        refine lv_iload_n hx hb dX12_drawnAll_15 rfl (lv_at hl 2 rfl) ?_
        refine cIald hx hb hK hP 32 0 rfl rfl x2_.toNatClampNeg rfl h.1 dX12_drawnAll_16 ?_
        have h := h.2
        refine lv_iadd hx hb dX12_drawnAll_17 ?_
        refine lv_topi (fun x2 ex2 => ?_)
        have h := h x2 ex2
        refine lv_istore_n (lv' := [(1, .int x2), (0, .ref (aM 0)), (2, .int x2_)]) hx hb dX12_drawnAll_18 rfl hl (by decide) rfl (fun ls hl => ?_)
        refine lv_iinc (v := (x2_ + 1)) (lv' := [(2, .int (x2_ + 1)), (1, .int x2), (0, .ref (aM 0))]) hx hb dX12_drawnAll_19 hl (k := 2) rfl rfl (by decide) rfl (fun ls hl => ?_)
        refine lv_goto (tgt := 4) hx hb dX12_drawnAll_22 (by decide) ?_
        exact ih4 x2 (x2_ + 1) _ _ _ h hP hD hS (lv_sub hl [2, 1, 0] rfl)
  refine lv_iconst (v := 0) hx hb dX12_drawnAll_0 (by decide) ?_
  refine lv_istore_n (lv' := [(1, .int 0), (0, .ref (aM 0))]) hx hb dX12_drawnAll_1 rfl hl (by decide) rfl (fun ls hl => ?_)
  refine lv_iconst (v := 0) hx hb dX12_drawnAll_2 (by decide) ?_
  refine lv_istore_n (lv' := [(2, .int 0), (1, .int 0), (0, .ref (aM 0))]) hx hb dX12_drawnAll_3 rfl hl (by decide) rfl (fun ls hl => ?_)
  obtain ⟨n, h⟩ := h
  exact N4  n 0 0 _ _ _ h hP hD hS (lv_sub hl [2, 1, 0] rfl)
abbrev vsX12_draws : List Cond := Cond.code yX12_draws cX12_draws 6 none :: WS
abbrev rmX12_draws : Room := { frames := 5, cells := 0, slots := 0, locals := 116 }
set_option maxHeartbeats 4000000 in
set_option maxRecDepth 100000 in
theorem k_X12_draws (l : Launch) (D : va_G) (C : Nat → ClassId) (sz : Nat) (aM : Nat → Nat)  (ms : Nat → Int32) (mw : Nat → Int64) (ma : Nat → Nat → Int32) (ml : Nat → Nat → Int64) (p1 : Int64) {post : (Nat → Int32) → (Nat → Int64) → (Nat → Nat → Int32) → Prop} (h : P_X12_draws ms mw ma p1 post) : Met l yX12_draws vsX12_draws rmX12_draws (cPre D C [.ref (aM 0), .long p1] sz (wM aM C ms mw ma ml)) (cQv D (fun (u : (Nat → Int32) × (Nat → Int64) × (Nat → Nat → Int32)) => post u.1 u.2.1 u.2.2) (fun u => wM aM C u.1 u.2.1 u.2.2 ml) (va_A (List.flatten (wM aM C ms mw ma ml)) sz)) 0 0 (va_A (List.flatten (wM aM C ms mw ma ml)) sz) := by
  refine cStart (QA := fun A => cQv D (fun (u : (Nat → Int32) × (Nat → Int64) × (Nat → Nat → Int32)) => post u.1 u.2.1 u.2.2) (fun u => wM aM C u.1 u.2.1 u.2.2 ml) A) (cc := cX12_draws) (maxL := 6) (ret := none) (by decide) (Nat.le_of_ble_eq_true rfl) ?_
  intro p e s m args below meth c A ls hx hb hr hml hown hw hlocks hname hK hN hA hP hD hS hl
  generalize hQ : MQ below _ args s 0 0 A = Q
  have hl : lv_has ls 6 [(0, .ref (aM 0)), (1, .long p1)] := hl
  obtain ⟨H, hH⟩ : ∃ H, H = s.heap := ⟨_, rfl⟩
  obtain ⟨locs, hlo⟩ : ∃ z : List Loc, z = [] := ⟨_, rfl⟩
  have hP : va_P D vwCl (List.flatten (wM aM C ms mw ma ml)) H := by rw [hH]; exact hP
  have hS : va_S A s.heap H locs := by rw [hH, hlo]; exact hS
  rw [show W p l e rmX12_draws s m args below meth c s.heap [] 0 0 Q (F0 m 0 ls []) = W p l e rmX12_draws s m args below meth c H locs 0 0 Q (F0 m 0 ls []) from by rw [hH, hlo]]
  have N11 : ∀ (ms : Nat → Int32) (n11 : Nat) (x3_ : Int32) (mw : Nat → Int64) (ma : Nat → Nat → Int32) (H : Heap) (locs : List Loc) (ls : Array Slot), P_X12_draws_11 p1 post  ms n11 x3_ mw ma → va_P D vwCl (List.flatten (wM aM C ms mw ma ml)) H → va_D A (List.flatten (wM aM C ms mw ma ml)) → va_S A s.heap H locs → lv_has ls 6 [(0, .ref (aM 0)), (3, .int x3_)] → W p l e rmX12_draws s m args below meth c H locs 0 0 Q (F0 m 11 ls []) := by
    intro ms
    intro n11
    induction n11 with
    | zero => intro x3_ mw ma H locs ls h hP hD hS hl; exact False.elim h
    | succ n11 ih11 =>
      have N27 : ∀ (x3_ : Int32) (n27 : Nat) (x4_ : Int32) (x5_ : Int32) (mw : Nat → Int64) (ma : Nat → Nat → Int32) (H : Heap) (locs : List Loc) (ls : Array Slot), P_X12_draws_27 p1 ms post (P_X12_draws_11 p1 post  ms n11) x3_ n27 x4_ x5_ mw ma → va_P D vwCl (List.flatten (wM aM C ms mw ma ml)) H → va_D A (List.flatten (wM aM C ms mw ma ml)) → va_S A s.heap H locs → lv_has ls 6 [(0, .ref (aM 0)), (3, .int x3_), (4, .int x4_), (5, .int x5_)] → W p l e rmX12_draws s m args below meth c H locs 0 0 Q (F0 m 27 ls []) := by
        intro x3_
        intro n27
        induction n27 with
        | zero => intro x4_ x5_ mw ma H locs ls h hP hD hS hl; exact False.elim h
        | succ n27 ih27 =>
          intro x4_ x5_ mw ma H locs ls h hP hD hS hl
          refine lv_iload hx hb dX12_draws_27 (lv_at hl 3 rfl) ?_
          refine lv_aload_n hx hb dX12_draws_29 rfl (lv_at hl 0 rfl) ?_
          refine va_get (D := D) (ci := 12) (v := .ref (aM 15)) (C := RX12) (T := TX12) (N := 51) hx hb hw inW_X12 hown hK hP 0 rfl rfl 25 (by decide) (hw _ mw_6_68) (fun _ h9 => h9) rfl dX12_draws_30 ?_
          refine lv_iconst (v := 0) hx hb dX12_draws_33 (by decide) ?_
          refine cIald hx hb hK hP 15 0 rfl rfl 0 (by decide +kernel) (cIn (by decide +kernel)) dX12_draws_34 ?_
          refine lv_icmp_ge (tgt := 77) hx hb dX12_draws_35 (by decide) (fun c1 => ?_) (fun c1 => ?_)
          · have h := h.1 c1
            refine lv_iinc (v := (x3_ + 1)) (lv' := [(3, .int (x3_ + 1)), (0, .ref (aM 0)), (4, .int x4_), (5, .int x5_)]) hx hb dX12_draws_77 hl (k := 1) rfl rfl (by decide) rfl (fun ls hl => ?_)
            refine lv_goto (tgt := 11) hx hb dX12_draws_80 (by decide) ?_
            exact ih11 (x3_ + 1) mw ma _ _ _ h hP hD hS (lv_sub hl [1, 0] rfl)
          · have h := h.2 c1
            refine lv_aload_n hx hb dX12_draws_38 rfl (lv_at hl 0 rfl) ?_
            refine cGoAI (cRunAV (As := []) (rest := []) ⟨hx, hb, hml, hown, hw⟩ hK hN hP hD (k_X12_draw l D C _ aM  ms mw ma ml  h) (cwV 0 hw (goodV mw_9_55 mw_9_57 mw_s181 mw_1_13 mw_9_58) rfl rfl rfl (by decide +kernel) ⟨Nat.le_of_ble_eq_true rfl, Nat.le_of_ble_eq_true rfl⟩) rfl rfl rfl hl.1 rfl (Nat.le_of_ble_eq_true rfl) dX12_draws_39 ⟨Nat.zero_le _, Nat.zero_le _⟩) hP hD hS hA (fun r3 mw_2 H locs h hP hD hS => ?_)
            have hP : va_P D vwCl (List.flatten (wM aM C ms mw_2 ma ml)) H := hP
            have hD : va_D A (List.flatten (wM aM C ms mw_2 ma ml)) := hD
            refine lv_aload_n hx hb dX12_draws_42 rfl (lv_at hl 0 rfl) ?_
            refine va_get (D := D) (ci := 12) (v := .ref (aM 16)) (C := RX12) (T := TX12) (N := 51) hx hb hw inW_X12 hown hK hP 0 rfl rfl 26 (by decide) (hw _ mw_6_69) (fun _ h9 => h9) rfl dX12_draws_43 ?_
            refine lv_iconst (v := 5) hx hb dX12_draws_46 (by decide) ?_
            refine lv_iload hx hb dX12_draws_47 (lv_at hl 3 rfl) ?_
            refine lv_imul hx hb dX12_draws_49 ?_
            refine lv_iconst (v := 1) hx hb dX12_draws_50 (by decide) ?_
            refine lv_iadd hx hb dX12_draws_51 ?_
            refine cIald hx hb hK hP 16 0 rfl rfl (((5 * x5_) + 1).toNatClampNeg) rfl h.1 dX12_draws_52 ?_
            have h := h.2
            refine lv_icmp_ge (tgt := 67) hx hb dX12_draws_53 (by decide) (fun c4 => ?_) (fun c4 => ?_)
            · have h := h.1 c4
              refine lv_iload hx hb dX12_draws_67 (lv_at hl 2 rfl) ?_
              refine lv_istore (lv' := [(4, .int x4_), (0, .ref (aM 0)), (3, .int x3_), (5, .int x5_)]) hx hb dX12_draws_69 hl (by decide) rfl (fun ls hl => ?_)
              refine lv_iinc (v := (x5_ + 1)) (lv' := [(5, .int (x5_ + 1)), (4, .int x4_), (0, .ref (aM 0)), (3, .int x3_)]) hx hb dX12_draws_71 hl (k := 3) rfl rfl (by decide) rfl (fun ls hl => ?_)
              refine lv_goto (tgt := 27) hx hb dX12_draws_74 (by decide) ?_
              exact ih27 x4_ (x5_ + 1) mw_2 ma _ _ _ h hP hD hS (lv_sub hl [2, 3, 1, 0] rfl)
            · have h := h.2 c4
              refine lv_aload_n hx hb dX12_draws_56 rfl (lv_at hl 0 rfl) ?_
              refine lv_iload hx hb dX12_draws_57 (lv_at hl 3 rfl) ?_
              refine lv_iload hx hb dX12_draws_59 (lv_at hl 2 rfl) ?_
              refine cGoAI (cRunAV (As := [.int x5_, .int x4_]) (rest := []) ⟨hx, hb, hml, hown, hw⟩ hK hN hP hD (k_X12_comes l D C _ aM  ms mw_2 ma ml x5_ x4_ h) (cwV 2 hw (goodV mw_9_63 mw_9_65 mw_s182 mw_1_13 mw_9_66) rfl rfl rfl (by decide +kernel) ⟨Nat.le_of_ble_eq_true rfl, Nat.le_of_ble_eq_true rfl⟩) rfl rfl rfl hl.1 rfl (Nat.le_of_ble_eq_true rfl) dX12_draws_61 ⟨Nat.zero_le _, Nat.zero_le _⟩) hP hD hS hA (fun r6 ma_5 H locs h hP hD hS => ?_)
              have hP : va_P D vwCl (List.flatten (wM aM C ms mw_2 ma_5 ml)) H := hP
              have hD : va_D A (List.flatten (wM aM C ms mw_2 ma_5 ml)) := hD
              refine lv_goto (tgt := 69) hx hb dX12_draws_64 (by decide) ?_
              refine lv_istore (lv' := [(4, .int r6), (0, .ref (aM 0)), (3, .int x3_), (5, .int x5_)]) hx hb dX12_draws_69 hl (by decide) rfl (fun ls hl => ?_)
              refine lv_iinc (v := (x5_ + 1)) (lv' := [(5, .int (x5_ + 1)), (4, .int r6), (0, .ref (aM 0)), (3, .int x3_)]) hx hb dX12_draws_71 hl (k := 3) rfl rfl (by decide) rfl (fun ls hl => ?_)
              refine lv_goto (tgt := 27) hx hb dX12_draws_74 (by decide) ?_
              exact ih27 r6 (x5_ + 1) mw_2 ma_5 _ _ _ h hP hD hS (lv_sub hl [2, 3, 1, 0] rfl)
      intro x3_ mw ma H locs ls h hP hD hS hl
      refine lv_iload_n hx hb dX12_draws_11 rfl (lv_at hl 1 rfl) ?_
      refine lv_aload_n hx hb dX12_draws_12 rfl (lv_at hl 0 rfl) ?_
      refine va_get (D := D) (ci := 12) (v := .ref (aM 8)) (C := RX12) (T := TX12) (N := 51) hx hb hw inW_X12 hown hK hP 0 rfl rfl 18 (by decide) (hw _ mw_6_61) (fun _ h9 => h9) rfl dX12_draws_13 ?_
      refine lv_iconst (v := 0) hx hb dX12_draws_16 (by decide) ?_
      refine cIald hx hb hK hP 8 0 rfl rfl 0 (by decide +kernel) (cIn (by decide +kernel)) dX12_draws_17 ?_
      refine lv_icmp_ge (tgt := 83) hx hb dX12_draws_18 (by decide) (fun c7 => ?_) (fun c7 => ?_)
      · have h := h.1 c7
        rw [← hQ]
        exact cRetV (ms, mw, ma) hx hb hr hlocks hS hP hD h dX12_draws_83
      · have h := h.2 c7
        refine lv_iconst (v := 0) hx hb dX12_draws_21 (by decide) ?_
        refine lv_istore (lv' := [(4, .int 0), (0, .ref (aM 0)), (3, .int x3_)]) hx hb dX12_draws_22 hl (by decide) rfl (fun ls hl => ?_)
        refine lv_iconst (v := 0) hx hb dX12_draws_24 (by decide) ?_
        refine lv_istore (lv' := [(5, .int 0), (4, .int 0), (0, .ref (aM 0)), (3, .int x3_)]) hx hb dX12_draws_25 hl (by decide) rfl (fun ls hl => ?_)
        obtain ⟨n, h⟩ := h
        exact N27 x3_ n 0 0 mw ma _ _ _ h hP hD hS (lv_sub hl [2, 3, 1, 0] rfl)
  refine lv_aload_n hx hb dX12_draws_0 rfl (lv_at hl 0 rfl) ?_
  refine cGoAV (cRunAV (As := []) (rest := []) ⟨hx, hb, hml, hown, hw⟩ hK hN hP hD (k_X12_newYear l D C _ aM  ms mw ma ml  h) (cwV 0 hw (goodV mw_9_51 mw_9_53 mw_s180 mw_1_13 mw_9_54) rfl rfl rfl (by decide +kernel) ⟨Nat.le_of_ble_eq_true rfl, Nat.le_of_ble_eq_true rfl⟩) rfl rfl rfl hl.1 rfl (Nat.le_of_ble_eq_true rfl) dX12_draws_1 ⟨Nat.zero_le _, Nat.zero_le _⟩) hP hD hS hA (fun u H locs h hP hD hS => ?_)
  obtain ⟨ms_8, ma_9⟩ := u
  have hP : va_P D vwCl (List.flatten (wM aM C ms_8 mw ma_9 ml)) H := hP
  have hD : va_D A (List.flatten (wM aM C ms_8 mw ma_9 ml)) := hD
  refine lv_aload_n hx hb dX12_draws_4 rfl (lv_at hl 0 rfl) ?_
  refine lv_lload_n hx hb dX12_draws_5 rfl (lv_at hl 1 rfl) ?_
  refine va_put (D := D) (ci := 12) (v := .long p1) (ty := .long) (C := RX12) (T := TX12) (N := 51) hx hb hw inW_X12 tyX12 tyX12_ok nmX12 hown hK hP hD hS 0 rfl rfl 50 (by decide) (hw _ mw_6_93) (fun _ h9 => h9) rfl (by decide +kernel) rfl rfl (Nat.le_of_ble_eq_true rfl) dX12_draws_6 (fun H locs hP hD hS => ?_)
  refine lv_iconst (v := 0) hx hb dX12_draws_9 (by decide) ?_
  refine lv_istore_n (lv' := [(3, .int 0), (0, .ref (aM 0)), (1, .long p1)]) hx hb dX12_draws_10 rfl hl (by decide) rfl (fun ls hl => ?_)
  have hP : va_P D vwCl (List.flatten (wM aM C ms_8 (va_up mw 4 p1) ma_9 ml)) H := hP
  have hD : va_D A (List.flatten (wM aM C ms_8 (va_up mw 4 p1) ma_9 ml)) := hD
  obtain ⟨n, h⟩ := h
  exact N11 ms_8 n 0 (va_up mw 4 p1) ma_9 _ _ _ h hP hD hS (lv_sub hl [1, 0] rfl)
abbrev vsX12_tellsYear : List Cond := Cond.code yX12_tellsYear cX12_tellsYear 2 (some .int) :: WS
abbrev rmX12_tellsYear : Room := { frames := 1, cells := 0, slots := 0, locals := 22 }
set_option maxHeartbeats 4000000 in
set_option maxRecDepth 100000 in
theorem k_X12_tellsYear (l : Launch) (D : va_G) (C : Nat → ClassId) (sz : Nat) (aM : Nat → Nat)  (ms : Nat → Int32) (mw : Nat → Int64) (ma : Nat → Nat → Int32) (ml : Nat → Nat → Int64)  {post : Int32 → (Nat → Nat → Int32) → Prop} (h : P_X12_tellsYear ma post) : Met l yX12_tellsYear vsX12_tellsYear rmX12_tellsYear (cPre D C [.ref (aM 0)] sz (wM aM C ms mw ma ml)) (cQi D (fun (r : Int32) (u : (Nat → Nat → Int32)) => post r u) (fun u => wM aM C ms mw u ml) (va_A (List.flatten (wM aM C ms mw ma ml)) sz)) 0 0 (va_A (List.flatten (wM aM C ms mw ma ml)) sz) := by
  refine cStart (QA := fun A => cQi D (fun (r : Int32) (u : (Nat → Nat → Int32)) => post r u) (fun u => wM aM C ms mw u ml) A) (cc := cX12_tellsYear) (maxL := 2) (ret := (some .int)) (by decide) (Nat.le_of_ble_eq_true rfl) ?_
  intro p e s m args below meth c A ls hx hb hr hml hown hw hlocks hname hK hN hA hP hD hS hl
  generalize hQ : MQ below _ args s 0 0 A = Q
  have hl : lv_has ls 2 [(0, .ref (aM 0))] := hl
  obtain ⟨H, hH⟩ : ∃ H, H = s.heap := ⟨_, rfl⟩
  obtain ⟨locs, hlo⟩ : ∃ z : List Loc, z = [] := ⟨_, rfl⟩
  have hP : va_P D vwCl (List.flatten (wM aM C ms mw ma ml)) H := by rw [hH]; exact hP
  have hS : va_S A s.heap H locs := by rw [hH, hlo]; exact hS
  rw [show W p l e rmX12_tellsYear s m args below meth c s.heap [] 0 0 Q (F0 m 0 ls []) = W p l e rmX12_tellsYear s m args below meth c H locs 0 0 Q (F0 m 0 ls []) from by rw [hH, hlo]]
  have N35 : ∀ (ma : Nat → Nat → Int32) (H : Heap) (locs : List Loc) (ls : Array Slot), P_X12_tellsYear_35  post  ma → va_P D vwCl (List.flatten (wM aM C ms mw ma ml)) H → va_D A (List.flatten (wM aM C ms mw ma ml)) → va_S A s.heap H locs → lv_has ls 2 [(0, .ref (aM 0))] → W p l e rmX12_tellsYear s m args below meth c H locs 0 0 Q (F0 m 35 ls []) := by
    intro ma H locs ls h hP hD hS hl
    refine lv_aload_n hx hb dX12_tellsYear_35 rfl (lv_at hl 0 rfl) ?_
    refine cGoAI (cRunAV (As := []) (rest := []) ⟨hx, hb, hml, hown, hw⟩ hK hN hP hD (k_X12_drawnAll l D C _ aM  ms mw ma ml  h) (cwV 0 hw (goodV mw_9_71 mw_9_73 mw_s184 mw_1_13 mw_9_74) rfl rfl rfl (by decide +kernel) ⟨Nat.le_of_ble_eq_true rfl, Nat.le_of_ble_eq_true rfl⟩) rfl rfl rfl hl.1 rfl (Nat.le_of_ble_eq_true rfl) dX12_tellsYear_36 ⟨Nat.zero_le _, Nat.zero_le _⟩) hP hD hS hA (fun r1 u H locs h hP hD hS => ?_)
    have hP : va_P D vwCl (List.flatten (wM aM C ms mw ma ml)) H := hP
    have hD : va_D A (List.flatten (wM aM C ms mw ma ml)) := hD
    rw [← hQ]
    exact cRetI (v := r1) (ma) hx hb hr hlocks hS hP hD h dX12_tellsYear_39
  have N9 : ∀  (n9 : Nat) (x1_ : Int32) (ma : Nat → Nat → Int32) (H : Heap) (locs : List Loc) (ls : Array Slot), P_X12_tellsYear_9  post (fun (ma : Nat → Nat → Int32) => P_X12_tellsYear_35  post  ma)  n9 x1_ ma → va_P D vwCl (List.flatten (wM aM C ms mw ma ml)) H → va_D A (List.flatten (wM aM C ms mw ma ml)) → va_S A s.heap H locs → lv_has ls 2 [(0, .ref (aM 0)), (1, .int x1_)] → W p l e rmX12_tellsYear s m args below meth c H locs 0 0 Q (F0 m 9 ls []) := by
    intro n9
    induction n9 with
    | zero => intro x1_ ma H locs ls h hP hD hS hl; exact False.elim h
    | succ n9 ih9 =>
      intro x1_ ma H locs ls h hP hD hS hl
      refine lv_iload_n hx hb dX12_tellsYear_9 rfl (lv_at hl 1 rfl) ?_
      refine lv_bipush (v := 16) hx hb dX12_tellsYear_10 (by decide) ?_
      refine lv_icmp_ge (tgt := 35) hx hb dX12_tellsYear_12 (by decide) (fun c2 => ?_) (fun c2 => ?_)
      · have h := h.1 c2
        exact N35 ma _ _ _ h hP hD hS (lv_sub hl [0] rfl)
      · have h := h.2 c2
        refine lv_aload_n hx hb dX12_tellsYear_15 rfl (lv_at hl 0 rfl) ?_
        refine va_get (D := D) (ci := 12) (v := .ref (aM 19)) (C := RX12) (T := TX12) (N := 51) hx hb hw inW_X12 hown hK hP 0 rfl rfl 29 (by decide) (hw _ mw_6_72) (fun _ h9 => h9) rfl dX12_tellsYear_16 ?_
        refine lv_iconst (v := 1) hx hb dX12_tellsYear_19 (by decide) ?_
        refine lv_iload_n hx hb dX12_tellsYear_20 rfl (lv_at hl 1 rfl) ?_
        refine lv_iadd hx hb dX12_tellsYear_21 ?_
        refine lv_aload_n hx hb dX12_tellsYear_22 rfl (lv_at hl 0 rfl) ?_
        refine va_get (D := D) (ci := 12) (v := .ref (aM 32)) (C := RX12) (T := TX12) (N := 51) hx hb hw inW_X12 hown hK hP 0 rfl rfl 49 (by decide) (hw _ mw_6_92) (fun _ h9 => h9) rfl dX12_tellsYear_23 ?_
        refine lv_iload_n hx hb dX12_tellsYear_26 rfl (lv_at hl 1 rfl) ?_
        refine cIald hx hb hK hP 32 0 rfl rfl x1_.toNatClampNeg rfl h.1 dX12_tellsYear_27 ?_
        have h := h.2
        refine cIast hx hb hK hP hD hS 19 0 rfl rfl ((1 + x1_).toNatClampNeg) rfl h.1 dX12_tellsYear_28 (fun H locs hP hD hS => ?_)
        have h := h.2
        refine lv_iinc (v := (x1_ + 1)) (lv' := [(1, .int (x1_ + 1)), (0, .ref (aM 0))]) hx hb dX12_tellsYear_29 hl (k := 1) rfl rfl (by decide) rfl (fun ls hl => ?_)
        refine lv_goto (tgt := 9) hx hb dX12_tellsYear_32 (by decide) ?_
        have hP : va_P D vwCl (List.flatten (wM aM C ms mw (va_up ma 16 (upd (ma 16) ((1 + x1_).toNatClampNeg) (ma 21 x1_.toNatClampNeg))) ml)) H := hP
        have hD : va_D A (List.flatten (wM aM C ms mw (va_up ma 16 (upd (ma 16) ((1 + x1_).toNatClampNeg) (ma 21 x1_.toNatClampNeg))) ml)) := hD
        exact ih9 (x1_ + 1) (va_up ma 16 (upd (ma 16) ((1 + x1_).toNatClampNeg) (ma 21 x1_.toNatClampNeg))) _ _ _ h hP hD hS (lv_sub hl [1, 0] rfl)
  refine lv_aload_n hx hb dX12_tellsYear_0 rfl (lv_at hl 0 rfl) ?_
  refine va_get (D := D) (ci := 12) (v := .ref (aM 19)) (C := RX12) (T := TX12) (N := 51) hx hb hw inW_X12 hown hK hP 0 rfl rfl 29 (by decide) (hw _ mw_6_72) (fun _ h9 => h9) rfl dX12_tellsYear_1 ?_
  refine lv_iconst (v := 0) hx hb dX12_tellsYear_4 (by decide) ?_
  refine lv_iconst (v := 1) hx hb dX12_tellsYear_5 (by decide) ?_
  refine cIast hx hb hK hP hD hS 19 0 rfl rfl 0 (by decide +kernel) (cIn (by decide +kernel)) dX12_tellsYear_6 (fun H locs hP hD hS => ?_)
  refine lv_iconst (v := 0) hx hb dX12_tellsYear_7 (by decide) ?_
  refine lv_istore_n (lv' := [(1, .int 0), (0, .ref (aM 0))]) hx hb dX12_tellsYear_8 rfl hl (by decide) rfl (fun ls hl => ?_)
  have hP : va_P D vwCl (List.flatten (wM aM C ms mw (va_up ma 16 (upd (ma 16) 0 1)) ml)) H := hP
  have hD : va_D A (List.flatten (wM aM C ms mw (va_up ma 16 (upd (ma 16) 0 1)) ml)) := hD
  obtain ⟨n, h⟩ := h
  exact N9  n 0 (va_up ma 16 (upd (ma 16) 0 1)) _ _ _ h hP hD hS (lv_sub hl [1, 0] rfl)
abbrev vsX12_isSeed : List Cond := Cond.code yX12_isSeed cX12_isSeed 1 (some .boolean) :: WS
abbrev rmX12_isSeed : Room := { frames := 1, cells := 0, slots := 0, locals := 25 }
set_option maxHeartbeats 4000000 in
set_option maxRecDepth 100000 in
theorem k_X12_isSeed (l : Launch) (D : va_G) (C : Nat → ClassId) (sz : Nat)    (p1 : Int32) {post : Int32 → Prop} (h : P_X12_isSeed p1 post) : Met l yX12_isSeed vsX12_isSeed rmX12_isSeed (cPre D C [.int p1] sz (([] : List va_W))) (cQi D (fun (r : Int32) (u : Unit) => post r ) (fun u => ([] : List va_W)) (va_A (List.flatten (([] : List va_W))) sz)) 0 0 (va_A (List.flatten (([] : List va_W))) sz) := by
  refine cStart (QA := fun A => cQi D (fun (r : Int32) (u : Unit) => post r ) (fun u => ([] : List va_W)) A) (cc := cX12_isSeed) (maxL := 1) (ret := (some .boolean)) (by decide) (Nat.le_of_ble_eq_true rfl) ?_
  intro p e s m args below meth c A ls hx hb hr hml hown hw hlocks hname hK hN hA hP hD hS hl
  generalize hQ : MQ below _ args s 0 0 A = Q
  have hl : lv_has ls 1 [(0, .int p1)] := hl
  obtain ⟨H, hH⟩ : ∃ H, H = s.heap := ⟨_, rfl⟩
  obtain ⟨locs, hlo⟩ : ∃ z : List Loc, z = [] := ⟨_, rfl⟩
  have hP : va_P D vwCl (List.flatten (([] : List va_W))) H := by rw [hH]; exact hP
  have hS : va_S A s.heap H locs := by rw [hH, hlo]; exact hS
  rw [show W p l e rmX12_isSeed s m args below meth c s.heap [] 0 0 Q (F0 m 0 ls []) = W p l e rmX12_isSeed s m args below meth c H locs 0 0 Q (F0 m 0 ls []) from by rw [hH, hlo]]
  refine lv_iload_n hx hb dX12_isSeed_0 rfl (lv_at hl 0 rfl) ?_
  refine lv_i2l hx hb dX12_isSeed_1 rfl ?_
  refine lv_lconst (v := 0) hx hb dX12_isSeed_2 (by decide) ?_
  refine lv_ldc2 (v := 2000000000) hx hb hown (hw _ mw_9_46) dX12_isSeed_3 ?_
  refine cGoI (wo := fun u => ([] : List va_W)) (cRunS (As := [.long p1.toInt64, .long 0, .long 2000000000]) (rest := []) ⟨hx, hb, hml, hown, hw⟩ hK hN hP hD [] rfl rfl (k_X12_in l D C _    p1.toInt64 0 2000000000 h) (va_cwS 3 hw (goodS mw_6_205 mw_6_206 mw_1_13 mw_6_207) rfl rfl rfl (by decide +kernel) ⟨Nat.le_of_ble_eq_true rfl, Nat.le_of_ble_eq_true rfl⟩) rfl hl.1 rfl (Nat.le_of_ble_eq_true rfl) dX12_isSeed_6 ⟨Nat.zero_le _, Nat.zero_le _⟩) hP hD hS hA [] [] [] rfl rfl rfl (by decide) rfl (fun _ => rfl) (fun r1 u H locs h hP hD hS => ?_)
  have hP : va_P D vwCl (List.flatten (([] : List va_W))) H := hP
  have hD : va_D A (List.flatten (([] : List va_W))) := hD
  rw [← hQ]
  exact cRetZ (v := r1) () hx hb hr hlocks hS hP hD h.1 h.2 dX12_isSeed_9
abbrev vsX12_run : List Cond := Cond.code yX12_run cX12_run 2 (some .int) :: WS
abbrev rmX12_run : Room := { frames := 6, cells := 0, slots := 0, locals := 141 }
set_option maxHeartbeats 4000000 in
set_option maxRecDepth 100000 in
theorem k_X12_run (l : Launch) (D : va_G) (C : Nat → ClassId) (sz : Nat) (aM : Nat → Nat)  (ms : Nat → Int32) (mw : Nat → Int64) (ma : Nat → Nat → Int32) (ml : Nat → Nat → Int64) (p1 : Int32) {post : Int32 → (Nat → Int32) → (Nat → Int64) → (Nat → Nat → Int32) → Prop} (h : P_X12_run ms mw ma p1 post) : Met l yX12_run vsX12_run rmX12_run (cPre D C [.ref (aM 0), .int p1] sz (wM aM C ms mw ma ml)) (cQi D (fun (r : Int32) (u : (Nat → Int32) × (Nat → Int64) × (Nat → Nat → Int32)) => post r u.1 u.2.1 u.2.2) (fun u => wM aM C u.1 u.2.1 u.2.2 ml) (va_A (List.flatten (wM aM C ms mw ma ml)) sz)) 0 0 (va_A (List.flatten (wM aM C ms mw ma ml)) sz) := by
  refine cStart (QA := fun A => cQi D (fun (r : Int32) (u : (Nat → Int32) × (Nat → Int64) × (Nat → Nat → Int32)) => post r u.1 u.2.1 u.2.2) (fun u => wM aM C u.1 u.2.1 u.2.2 ml) A) (cc := cX12_run) (maxL := 2) (ret := (some .int)) (by decide) (Nat.le_of_ble_eq_true rfl) ?_
  intro p e s m args below meth c A ls hx hb hr hml hown hw hlocks hname hK hN hA hP hD hS hl
  generalize hQ : MQ below _ args s 0 0 A = Q
  have hl : lv_has ls 2 [(0, .ref (aM 0)), (1, .int p1)] := hl
  obtain ⟨H, hH⟩ : ∃ H, H = s.heap := ⟨_, rfl⟩
  obtain ⟨locs, hlo⟩ : ∃ z : List Loc, z = [] := ⟨_, rfl⟩
  have hP : va_P D vwCl (List.flatten (wM aM C ms mw ma ml)) H := by rw [hH]; exact hP
  have hS : va_S A s.heap H locs := by rw [hH, hlo]; exact hS
  rw [show W p l e rmX12_run s m args below meth c s.heap [] 0 0 Q (F0 m 0 ls []) = W p l e rmX12_run s m args below meth c H locs 0 0 Q (F0 m 0 ls []) from by rw [hH, hlo]]
  refine lv_aload_n hx hb dX12_run_0 rfl (lv_at hl 0 rfl) ?_
  refine lv_iconst (v := 0) hx hb dX12_run_1 (by decide) ?_
  refine va_put (D := D) (ci := 12) (v := .int 0) (ty := .int) (C := RX12) (T := TX12) (N := 51) hx hb hw inW_X12 tyX12 tyX12_ok nmX12 hown hK hP hD hS 0 rfl rfl 0 (by decide) (hw _ mw_6_43) (fun _ h9 => h9) rfl (by decide +kernel) rfl rfl (Nat.le_of_ble_eq_true rfl) dX12_run_2 (fun H locs hP hD hS => ?_)
  refine lv_iload_n hx hb dX12_run_5 rfl (lv_at hl 1 rfl) ?_
  have hP : va_P D vwCl (List.flatten (wM aM C (va_up ms 0 0) mw ma ml)) H := hP
  have hD : va_D A (List.flatten (wM aM C (va_up ms 0 0) mw ma ml)) := hD
  refine cGoEI (cRunES (As := [.int p1]) (rest := []) ⟨hx, hb, hml, hown, hw⟩ hK hN hP hD (k_X12_isSeed l D C _    p1 h) (va_cwS 1 hw (goodS mw_9_43 mw_9_44 mw_1_13 mw_9_45) rfl rfl rfl (by decide +kernel) ⟨Nat.le_of_ble_eq_true rfl, Nat.le_of_ble_eq_true rfl⟩) rfl hl.1 rfl (Nat.le_of_ble_eq_true rfl) dX12_run_6 ⟨Nat.zero_le _, Nat.zero_le _⟩) hP hD hS hA (fun r1 u H locs h hP hD hS => ?_)
  have hP : va_P D vwCl (List.flatten (wM aM C (va_up ms 0 0) mw ma ml)) H := hP
  have hD : va_D A (List.flatten (wM aM C (va_up ms 0 0) mw ma ml)) := hD
  refine lv_if_eq (tgt := 19) hx hb dX12_run_9 (by decide) (fun c2 => ?_) (fun c2 => ?_)
  · have h := h.1 c2
    refine lv_bipush (v := (-2)) hx hb dX12_run_19 (by decide) ?_
    rw [← hQ]
    exact cRetI (v := (-2)) ((va_up ms 0 0), mw, ma) hx hb hr hlocks hS hP hD h dX12_run_21
  · have h := h.2 c2
    refine lv_aload_n hx hb dX12_run_12 rfl (lv_at hl 0 rfl) ?_
    refine cGoAI (cRunAV (As := []) (rest := []) ⟨hx, hb, hml, hown, hw⟩ hK hN hP hD (k_X12_isRail l D C _ aM  (va_up ms 0 0) mw ma ml  h) (cwV 0 hw (goodV mw_7_204 mw_7_206 mw_s142 mw_1_13 mw_7_207) rfl rfl rfl (by decide +kernel) ⟨Nat.le_of_ble_eq_true rfl, Nat.le_of_ble_eq_true rfl⟩) rfl rfl rfl hl.1 rfl (Nat.le_of_ble_eq_true rfl) dX12_run_13 ⟨Nat.zero_le _, Nat.zero_le _⟩) hP hD hS hA (fun r3 u H locs h hP hD hS => ?_)
    have hP : va_P D vwCl (List.flatten (wM aM C (va_up ms 0 0) mw ma ml)) H := hP
    have hD : va_D A (List.flatten (wM aM C (va_up ms 0 0) mw ma ml)) := hD
    refine lv_if_ne (tgt := 22) hx hb dX12_run_16 (by decide) (fun c4 => ?_) (fun c4 => ?_)
    · have h := h.1 c4
      refine lv_aload_n hx hb dX12_run_22 rfl (lv_at hl 0 rfl) ?_
      refine lv_iload_n hx hb dX12_run_23 rfl (lv_at hl 1 rfl) ?_
      refine lv_i2l hx hb dX12_run_24 rfl ?_
      refine cGoAV (cRunAV (As := [.long p1.toInt64]) (rest := []) ⟨hx, hb, hml, hown, hw⟩ hK hN hP hD (k_X12_draws l D C _ aM  (va_up ms 0 0) mw ma ml p1.toInt64 h) (cwV 1 hw (goodV mw_9_47 mw_9_49 mw_s179 mw_1_13 mw_9_50) rfl rfl rfl (by decide +kernel) ⟨Nat.le_of_ble_eq_true rfl, Nat.le_of_ble_eq_true rfl⟩) rfl rfl rfl hl.1 rfl (Nat.le_of_ble_eq_true rfl) dX12_run_25 ⟨Nat.zero_le _, Nat.zero_le _⟩) hP hD hS hA (fun u H locs h hP hD hS => ?_)
      obtain ⟨ms_5, mw_6, ma_7⟩ := u
      have hP : va_P D vwCl (List.flatten (wM aM C ms_5 mw_6 ma_7 ml)) H := hP
      have hD : va_D A (List.flatten (wM aM C ms_5 mw_6 ma_7 ml)) := hD
      refine lv_aload_n hx hb dX12_run_28 rfl (lv_at hl 0 rfl) ?_
      refine cGoAI (cRunAV (As := []) (rest := []) ⟨hx, hb, hml, hown, hw⟩ hK hN hP hD (k_X12_tellsYear l D C _ aM  ms_5 mw_6 ma_7 ml  h) (cwV 0 hw (goodV mw_9_67 mw_9_69 mw_s183 mw_1_13 mw_9_70) rfl rfl rfl (by decide +kernel) ⟨Nat.le_of_ble_eq_true rfl, Nat.le_of_ble_eq_true rfl⟩) rfl rfl rfl hl.1 rfl (Nat.le_of_ble_eq_true rfl) dX12_run_29 ⟨Nat.zero_le _, Nat.zero_le _⟩) hP hD hS hA (fun r9 ma_8 H locs h hP hD hS => ?_)
      have hP : va_P D vwCl (List.flatten (wM aM C ms_5 mw_6 ma_8 ml)) H := hP
      have hD : va_D A (List.flatten (wM aM C ms_5 mw_6 ma_8 ml)) := hD
      rw [← hQ]
      exact cRetI (v := r9) (ms_5, mw_6, ma_8) hx hb hr hlocks hS hP hD h dX12_run_32
    · have h := h.2 c4
      refine lv_bipush (v := (-2)) hx hb dX12_run_19 (by decide) ?_
      rw [← hQ]
      exact cRetI (v := (-2)) ((va_up ms 0 0), mw, ma) hx hb hr hlocks hS hP hD h dX12_run_21
abbrev vsX12_told : List Cond := Cond.code yX12_told cX12_told 5 (some .int) :: WS
abbrev rmX12_told : Room := { frames := 5, cells := 0, slots := 0, locals := 116 }
set_option maxHeartbeats 4000000 in
set_option maxRecDepth 100000 in
theorem k_X12_told (l : Launch) (D : va_G) (C : Nat → ClassId) (sz : Nat) (aM : Nat → Nat)  (ms : Nat → Int32) (mw : Nat → Int64) (ma : Nat → Nat → Int32) (ml : Nat → Nat → Int64) (p1 : Int32) {post : Int32 → (Nat → Int32) → (Nat → Nat → Int32) → Prop} (h : P_X12_told ms ma ml p1 post) : Met l yX12_told vsX12_told rmX12_told (cPre D C [.ref (aM 0), .int p1] sz (wM aM C ms mw ma ml)) (cQi D (fun (r : Int32) (u : (Nat → Int32) × (Nat → Nat → Int32)) => post r u.1 u.2) (fun u => wM aM C u.1 mw u.2 ml) (va_A (List.flatten (wM aM C ms mw ma ml)) sz)) 0 0 (va_A (List.flatten (wM aM C ms mw ma ml)) sz) := by
  refine cStart (QA := fun A => cQi D (fun (r : Int32) (u : (Nat → Int32) × (Nat → Nat → Int32)) => post r u.1 u.2) (fun u => wM aM C u.1 mw u.2 ml) A) (cc := cX12_told) (maxL := 5) (ret := (some .int)) (by decide) (Nat.le_of_ble_eq_true rfl) ?_
  intro p e s m args below meth c A ls hx hb hr hml hown hw hlocks hname hK hN hA hP hD hS hl
  generalize hQ : MQ below _ args s 0 0 A = Q
  have hl : lv_has ls 5 [(0, .ref (aM 0)), (1, .int p1)] := hl
  obtain ⟨H, hH⟩ : ∃ H, H = s.heap := ⟨_, rfl⟩
  obtain ⟨locs, hlo⟩ : ∃ z : List Loc, z = [] := ⟨_, rfl⟩
  have hP : va_P D vwCl (List.flatten (wM aM C ms mw ma ml)) H := by rw [hH]; exact hP
  have hS : va_S A s.heap H locs := by rw [hH, hlo]; exact hS
  rw [show W p l e rmX12_told s m args below meth c s.heap [] 0 0 Q (F0 m 0 ls []) = W p l e rmX12_told s m args below meth c H locs 0 0 Q (F0 m 0 ls []) from by rw [hH, hlo]]
  have N179 : ∀ (ms : Nat → Int32) (ma : Nat → Nat → Int32) (H : Heap) (locs : List Loc) (ls : Array Slot), P_X12_told_179 ml p1 post  ms ma → va_P D vwCl (List.flatten (wM aM C ms mw ma ml)) H → va_D A (List.flatten (wM aM C ms mw ma ml)) → va_S A s.heap H locs → lv_has ls 5 [(0, .ref (aM 0))] → W p l e rmX12_told s m args below meth c H locs 0 0 Q (F0 m 179 ls []) := by
    intro ms ma H locs ls h hP hD hS hl
    refine lv_aload_n hx hb dX12_told_179 rfl (lv_at hl 0 rfl) ?_
    refine cGoAI (cRunAV (As := []) (rest := []) ⟨hx, hb, hml, hown, hw⟩ hK hN hP hD (k_X12_tellsYear l D C _ aM  ms mw ma ml  h) (cwV 0 hw (goodV mw_9_67 mw_9_69 mw_s183 mw_1_13 mw_9_70) rfl rfl rfl (by decide +kernel) ⟨Nat.le_of_ble_eq_true rfl, Nat.le_of_ble_eq_true rfl⟩) rfl rfl rfl hl.1 rfl (Nat.le_of_ble_eq_true rfl) dX12_told_180 ⟨Nat.zero_le _, Nat.zero_le _⟩) hP hD hS hA (fun r6 ma_5 H locs h hP hD hS => ?_)
    have hP : va_P D vwCl (List.flatten (wM aM C ms mw ma_5 ml)) H := hP
    have hD : va_D A (List.flatten (wM aM C ms mw ma_5 ml)) := hD
    rw [← hQ]
    exact cRetI (v := r6) (ms, ma_5) hx hb hr hlocks hS hP hD h dX12_told_183
  have N108 : ∀ (ms : Nat → Int32) (n108 : Nat) (x2_ : Int32) (ma : Nat → Nat → Int32) (H : Heap) (locs : List Loc) (ls : Array Slot), P_X12_told_108 ml p1 post (fun (ms : Nat → Int32) (ma : Nat → Nat → Int32) => P_X12_told_179 ml p1 post  ms ma) ms n108 x2_ ma → va_P D vwCl (List.flatten (wM aM C ms mw ma ml)) H → va_D A (List.flatten (wM aM C ms mw ma ml)) → va_S A s.heap H locs → lv_has ls 5 [(0, .ref (aM 0)), (1, .int p1), (2, .int x2_)] → W p l e rmX12_told s m args below meth c H locs 0 0 Q (F0 m 108 ls []) := by
    intro ms
    intro n108
    induction n108 with
    | zero => intro x2_ ma H locs ls h hP hD hS hl; exact False.elim h
    | succ n108 ih108 =>
      have N123 : ∀ (x2_ : Int32) (n123 : Nat) (x3_ : Int32) (x4_ : Int32) (ma : Nat → Nat → Int32) (H : Heap) (locs : List Loc) (ls : Array Slot), P_X12_told_123 ml p1 ms post (P_X12_told_108 ml p1 post (fun (ms : Nat → Int32) (ma : Nat → Nat → Int32) => P_X12_told_179 ml p1 post  ms ma) ms n108) x2_ n123 x3_ x4_ ma → va_P D vwCl (List.flatten (wM aM C ms mw ma ml)) H → va_D A (List.flatten (wM aM C ms mw ma ml)) → va_S A s.heap H locs → lv_has ls 5 [(0, .ref (aM 0)), (1, .int p1), (2, .int x2_), (3, .int x3_), (4, .int x4_)] → W p l e rmX12_told s m args below meth c H locs 0 0 Q (F0 m 123 ls []) := by
        intro x2_
        intro n123
        induction n123 with
        | zero => intro x3_ x4_ ma H locs ls h hP hD hS hl; exact False.elim h
        | succ n123 ih123 =>
          intro x3_ x4_ ma H locs ls h hP hD hS hl
          refine lv_iload hx hb dX12_told_123 (lv_at hl 4 rfl) ?_
          refine lv_aload_n hx hb dX12_told_125 rfl (lv_at hl 0 rfl) ?_
          refine va_get (D := D) (ci := 12) (v := .ref (aM 15)) (C := RX12) (T := TX12) (N := 51) hx hb hw inW_X12 hown hK hP 0 rfl rfl 25 (by decide) (hw _ mw_6_68) (fun _ h9 => h9) rfl dX12_told_126 ?_
          refine lv_iconst (v := 0) hx hb dX12_told_129 (by decide) ?_
          refine cIald hx hb hK hP 15 0 rfl rfl 0 (by decide +kernel) (cIn (by decide +kernel)) dX12_told_130 ?_
          refine lv_icmp_ge (tgt := 173) hx hb dX12_told_131 (by decide) (fun c1 => ?_) (fun c1 => ?_)
          · have h := h.1 c1
            refine lv_iinc (v := (x2_ + 1)) (lv' := [(2, .int (x2_ + 1)), (0, .ref (aM 0)), (1, .int p1), (3, .int x3_), (4, .int x4_)]) hx hb dX12_told_173 hl (k := 2) rfl rfl (by decide) rfl (fun ls hl => ?_)
            refine lv_goto (tgt := 108) hx hb dX12_told_176 (by decide) ?_
            exact ih108 (x2_ + 1) ma _ _ _ h hP hD hS (lv_sub hl [1, 2, 0] rfl)
          · have h := h.2 c1
            refine lv_aload_n hx hb dX12_told_134 rfl (lv_at hl 0 rfl) ?_
            refine va_get (D := D) (ci := 12) (v := .ref (aM 3)) (C := RX12) (T := TX12) (N := 51) hx hb hw inW_X12 hown hK hP 0 rfl rfl 3 (by decide) (hw _ mw_6_46) (fun _ h9 => h9) rfl dX12_told_135 ?_
            refine lv_bipush (v := 60) hx hb dX12_told_138 (by decide) ?_
            refine lv_iload_n hx hb dX12_told_140 rfl (lv_at hl 1 rfl) ?_
            refine lv_imul hx hb dX12_told_141 ?_
            refine lv_iload_n hx hb dX12_told_142 rfl (lv_at hl 2 rfl) ?_
            refine lv_iadd hx hb dX12_told_143 ?_
            refine cLald hx hb hK hP 3 1 rfl rfl (((60 * p1) + x2_).toNatClampNeg) rfl h.1 dX12_told_144 ?_
            have h := h.2
            refine lv_iload hx hb dX12_told_145 (lv_at hl 4 rfl) ?_
            refine lv_lshr hx hb dX12_told_147 rfl ?_
            refine lv_lconst (v := 1) hx hb dX12_told_148 (by decide) ?_
            refine lv_land hx hb dX12_told_149 ?_
            refine lv_lconst (v := 1) hx hb dX12_told_150 (by decide) ?_
            refine W.lcmp hx hb dX12_told_151 ?_
            refine lv_if_ne (tgt := 165) hx hb dX12_told_152 (by decide) (fun c2 => ?_) (fun c2 => ?_)
            · have c2 : ¬ (((ml 0 (((60 * p1) + x2_).toNatClampNeg)) >>> (x4_.toInt64 &&& 63)) &&& 1) = 1 := fun q => c2 ((lg_cmp_eq _ _).mpr q)
              have h := h.1 c2
              refine lv_iload_n hx hb dX12_told_165 rfl (lv_at hl 3 rfl) ?_
              refine lv_istore_n (lv' := [(3, .int x3_), (0, .ref (aM 0)), (1, .int p1), (2, .int x2_), (4, .int x4_)]) hx hb dX12_told_166 rfl hl (by decide) rfl (fun ls hl => ?_)
              refine lv_iinc (v := (x4_ + 1)) (lv' := [(4, .int (x4_ + 1)), (3, .int x3_), (0, .ref (aM 0)), (1, .int p1), (2, .int x2_)]) hx hb dX12_told_167 hl (k := 4) rfl rfl (by decide) rfl (fun ls hl => ?_)
              refine lv_goto (tgt := 123) hx hb dX12_told_170 (by decide) ?_
              exact ih123 x3_ (x4_ + 1) ma _ _ _ h hP hD hS (lv_sub hl [2, 3, 4, 1, 0] rfl)
            · have c2 : (((ml 0 (((60 * p1) + x2_).toNatClampNeg)) >>> (x4_.toInt64 &&& 63)) &&& 1) = 1 := (lg_cmp_eq _ _).mp c2
              have h := h.2 c2
              refine lv_aload_n hx hb dX12_told_155 rfl (lv_at hl 0 rfl) ?_
              refine lv_iload hx hb dX12_told_156 (lv_at hl 4 rfl) ?_
              refine lv_iload_n hx hb dX12_told_158 rfl (lv_at hl 3 rfl) ?_
              refine cGoAI (cRunAV (As := [.int x4_, .int x3_]) (rest := []) ⟨hx, hb, hml, hown, hw⟩ hK hN hP hD (k_X12_comes l D C _ aM  ms mw ma ml x4_ x3_ h) (cwV 2 hw (goodV mw_9_63 mw_9_65 mw_s182 mw_1_13 mw_9_66) rfl rfl rfl (by decide +kernel) ⟨Nat.le_of_ble_eq_true rfl, Nat.le_of_ble_eq_true rfl⟩) rfl rfl rfl hl.1 rfl (Nat.le_of_ble_eq_true rfl) dX12_told_159 ⟨Nat.zero_le _, Nat.zero_le _⟩) hP hD hS hA (fun r4 ma_3 H locs h hP hD hS => ?_)
              have hP : va_P D vwCl (List.flatten (wM aM C ms mw ma_3 ml)) H := hP
              have hD : va_D A (List.flatten (wM aM C ms mw ma_3 ml)) := hD
              refine lv_goto (tgt := 166) hx hb dX12_told_162 (by decide) ?_
              refine lv_istore_n (lv' := [(3, .int r4), (0, .ref (aM 0)), (1, .int p1), (2, .int x2_), (4, .int x4_)]) hx hb dX12_told_166 rfl hl (by decide) rfl (fun ls hl => ?_)
              refine lv_iinc (v := (x4_ + 1)) (lv' := [(4, .int (x4_ + 1)), (3, .int r4), (0, .ref (aM 0)), (1, .int p1), (2, .int x2_)]) hx hb dX12_told_167 hl (k := 4) rfl rfl (by decide) rfl (fun ls hl => ?_)
              refine lv_goto (tgt := 123) hx hb dX12_told_170 (by decide) ?_
              exact ih123 r4 (x4_ + 1) ma_3 _ _ _ h hP hD hS (lv_sub hl [2, 3, 4, 1, 0] rfl)
      intro x2_ ma H locs ls h hP hD hS hl
      refine lv_iload_n hx hb dX12_told_108 rfl (lv_at hl 2 rfl) ?_
      refine lv_aload_n hx hb dX12_told_109 rfl (lv_at hl 0 rfl) ?_
      refine va_get (D := D) (ci := 12) (v := .ref (aM 2)) (C := RX12) (T := TX12) (N := 51) hx hb hw inW_X12 hown hK hP 0 rfl rfl 2 (by decide) (hw _ mw_6_45) (fun _ h9 => h9) rfl dX12_told_110 ?_
      refine lv_iload_n hx hb dX12_told_113 rfl (lv_at hl 1 rfl) ?_
      refine cIald hx hb hK hP 2 0 rfl rfl p1.toNatClampNeg rfl h.1 dX12_told_114 ?_
      have h := h.2
      refine lv_icmp_ge (tgt := 179) hx hb dX12_told_115 (by decide) (fun c7 => ?_) (fun c7 => ?_)
      · have h := h.1 c7
        exact N179 ms ma _ _ _ h hP hD hS (lv_sub hl [0] rfl)
      · have h := h.2 c7
        refine lv_iconst (v := 0) hx hb dX12_told_118 (by decide) ?_
        refine lv_istore_n (lv' := [(3, .int 0), (0, .ref (aM 0)), (1, .int p1), (2, .int x2_)]) hx hb dX12_told_119 rfl hl (by decide) rfl (fun ls hl => ?_)
        refine lv_iconst (v := 0) hx hb dX12_told_120 (by decide) ?_
        refine lv_istore (lv' := [(4, .int 0), (3, .int 0), (0, .ref (aM 0)), (1, .int p1), (2, .int x2_)]) hx hb dX12_told_121 hl (by decide) rfl (fun ls hl => ?_)
        obtain ⟨n, h⟩ := h
        exact N123 x2_ n 0 0 ma _ _ _ h hP hD hS (lv_sub hl [2, 3, 4, 1, 0] rfl)
  have N102 : ∀ (ms : Nat → Int32) (ma : Nat → Nat → Int32) (H : Heap) (locs : List Loc) (ls : Array Slot), P_X12_told_102 ml p1 post  ms ma → va_P D vwCl (List.flatten (wM aM C ms mw ma ml)) H → va_D A (List.flatten (wM aM C ms mw ma ml)) → va_S A s.heap H locs → lv_has ls 5 [(0, .ref (aM 0)), (1, .int p1)] → W p l e rmX12_told s m args below meth c H locs 0 0 Q (F0 m 102 ls []) := by
    intro ms ma H locs ls h hP hD hS hl
    refine lv_aload_n hx hb dX12_told_102 rfl (lv_at hl 0 rfl) ?_
    refine cGoAV (cRunAV (As := []) (rest := []) ⟨hx, hb, hml, hown, hw⟩ hK hN hP hD (k_X12_newYear l D C _ aM  ms mw ma ml  h) (cwV 0 hw (goodV mw_9_51 mw_9_53 mw_s180 mw_1_13 mw_9_54) rfl rfl rfl (by decide +kernel) ⟨Nat.le_of_ble_eq_true rfl, Nat.le_of_ble_eq_true rfl⟩) rfl rfl rfl hl.1 rfl (Nat.le_of_ble_eq_true rfl) dX12_told_103 ⟨Nat.zero_le _, Nat.zero_le _⟩) hP hD hS hA (fun u H locs h hP hD hS => ?_)
    obtain ⟨ms_8, ma_9⟩ := u
    have hP : va_P D vwCl (List.flatten (wM aM C ms_8 mw ma_9 ml)) H := hP
    have hD : va_D A (List.flatten (wM aM C ms_8 mw ma_9 ml)) := hD
    refine lv_iconst (v := 0) hx hb dX12_told_106 (by decide) ?_
    refine lv_istore_n (lv' := [(2, .int 0), (0, .ref (aM 0)), (1, .int p1)]) hx hb dX12_told_107 rfl hl (by decide) rfl (fun ls hl => ?_)
    obtain ⟨n, h⟩ := h
    exact N108 ms_8 n 0 ma_9 _ _ _ h hP hD hS (lv_sub hl [1, 2, 0] rfl)
  have N55 : ∀ (ms : Nat → Int32) (ma : Nat → Nat → Int32) (n55 : Nat) (x2_ : Int32) (H : Heap) (locs : List Loc) (ls : Array Slot), P_X12_told_55 ml p1 post (fun (ms : Nat → Int32) (ma : Nat → Nat → Int32) => P_X12_told_102 ml p1 post  ms ma) ms ma n55 x2_ → va_P D vwCl (List.flatten (wM aM C ms mw ma ml)) H → va_D A (List.flatten (wM aM C ms mw ma ml)) → va_S A s.heap H locs → lv_has ls 5 [(0, .ref (aM 0)), (1, .int p1), (2, .int x2_)] → W p l e rmX12_told s m args below meth c H locs 0 0 Q (F0 m 55 ls []) := by
    intro ms ma
    intro n55
    induction n55 with
    | zero => intro x2_ H locs ls h hP hD hS hl; exact False.elim h
    | succ n55 ih55 =>
      intro x2_ H locs ls h hP hD hS hl
      refine lv_iload_n hx hb dX12_told_55 rfl (lv_at hl 2 rfl) ?_
      refine lv_aload_n hx hb dX12_told_56 rfl (lv_at hl 0 rfl) ?_
      refine va_get (D := D) (ci := 12) (v := .ref (aM 2)) (C := RX12) (T := TX12) (N := 51) hx hb hw inW_X12 hown hK hP 0 rfl rfl 2 (by decide) (hw _ mw_6_45) (fun _ h9 => h9) rfl dX12_told_57 ?_
      refine lv_iload_n hx hb dX12_told_60 rfl (lv_at hl 1 rfl) ?_
      refine cIald hx hb hK hP 2 0 rfl rfl p1.toNatClampNeg rfl h.1 dX12_told_61 ?_
      have h := h.2
      refine lv_icmp_ge (tgt := 102) hx hb dX12_told_62 (by decide) (fun c10 => ?_) (fun c10 => ?_)
      · have h := h.1 c10
        exact N102 ms ma _ _ _ h hP hD hS (lv_sub hl [0, 1] rfl)
      · have h := h.2 c10
        refine lv_aload_n hx hb dX12_told_65 rfl (lv_at hl 0 rfl) ?_
        refine va_get (D := D) (ci := 12) (v := .ref (aM 3)) (C := RX12) (T := TX12) (N := 51) hx hb hw inW_X12 hown hK hP 0 rfl rfl 3 (by decide) (hw _ mw_6_46) (fun _ h9 => h9) rfl dX12_told_66 ?_
        refine lv_bipush (v := 60) hx hb dX12_told_69 (by decide) ?_
        refine lv_iload_n hx hb dX12_told_71 rfl (lv_at hl 1 rfl) ?_
        refine lv_imul hx hb dX12_told_72 ?_
        refine lv_iload_n hx hb dX12_told_73 rfl (lv_at hl 2 rfl) ?_
        refine lv_iadd hx hb dX12_told_74 ?_
        refine cLald hx hb hK hP 3 1 rfl rfl (((60 * p1) + x2_).toNatClampNeg) rfl h.1 dX12_told_75 ?_
        have h := h.2
        refine lv_lconst (v := 0) hx hb dX12_told_76 (by decide) ?_
        refine lv_lconst (v := 1) hx hb dX12_told_77 (by decide) ?_
        refine lv_aload_n hx hb dX12_told_78 rfl (lv_at hl 0 rfl) ?_
        refine va_get (D := D) (ci := 12) (v := .ref (aM 15)) (C := RX12) (T := TX12) (N := 51) hx hb hw inW_X12 hown hK hP 0 rfl rfl 25 (by decide) (hw _ mw_6_68) (fun _ h9 => h9) rfl dX12_told_79 ?_
        refine lv_iconst (v := 0) hx hb dX12_told_82 (by decide) ?_
        refine cIald hx hb hK hP 15 0 rfl rfl 0 (by decide +kernel) (cIn (by decide +kernel)) dX12_told_83 ?_
        refine lv_lshl hx hb dX12_told_84 rfl ?_
        refine lv_lconst (v := 1) hx hb dX12_told_85 (by decide) ?_
        refine lv_lsub hx hb dX12_told_86 ?_
        refine cGoEI (cRunES (As := [.long (ml 0 (((60 * p1) + x2_).toNatClampNeg)), .long 0, .long (((1 : Int64) <<< ((ma 12 0).toInt64 &&& 63)) - 1)]) (rest := []) ⟨hx, hb, hml, hown, hw⟩ hK hN hP hD (k_X12_in l D C _    (ml 0 (((60 * p1) + x2_).toNatClampNeg)) 0 (((1 : Int64) <<< ((ma 12 0).toInt64 &&& 63)) - 1) h) (va_cwS 3 hw (goodS mw_6_205 mw_6_206 mw_1_13 mw_6_207) rfl rfl rfl (by decide +kernel) ⟨Nat.le_of_ble_eq_true rfl, Nat.le_of_ble_eq_true rfl⟩) rfl hl.1 rfl (Nat.le_of_ble_eq_true rfl) dX12_told_87 ⟨Nat.zero_le _, Nat.zero_le _⟩) hP hD hS hA (fun r11 u H locs h hP hD hS => ?_)
        have hP : va_P D vwCl (List.flatten (wM aM C ms mw ma ml)) H := hP
        have hD : va_D A (List.flatten (wM aM C ms mw ma ml)) := hD
        refine lv_if_ne (tgt := 96) hx hb dX12_told_90 (by decide) (fun c12 => ?_) (fun c12 => ?_)
        · have h := h.1 c12
          refine lv_iinc (v := (x2_ + 1)) (lv' := [(2, .int (x2_ + 1)), (0, .ref (aM 0)), (1, .int p1)]) hx hb dX12_told_96 hl (k := 2) rfl rfl (by decide) rfl (fun ls hl => ?_)
          refine lv_goto (tgt := 55) hx hb dX12_told_99 (by decide) ?_
          exact ih55 (x2_ + 1) _ _ _ h hP hD hS (lv_sub hl [1, 2, 0] rfl)
        · have h := h.2 c12
          refine lv_bipush (v := (-2)) hx hb dX12_told_93 (by decide) ?_
          rw [← hQ]
          exact cRetI (v := (-2)) (ms, ma) hx hb hr hlocks hS hP hD h dX12_told_95
  refine lv_aload_n hx hb dX12_told_0 rfl (lv_at hl 0 rfl) ?_
  refine lv_iconst (v := 0) hx hb dX12_told_1 (by decide) ?_
  refine va_put (D := D) (ci := 12) (v := .int 0) (ty := .int) (C := RX12) (T := TX12) (N := 51) hx hb hw inW_X12 tyX12 tyX12_ok nmX12 hown hK hP hD hS 0 rfl rfl 0 (by decide) (hw _ mw_6_43) (fun _ h9 => h9) rfl (by decide +kernel) rfl rfl (Nat.le_of_ble_eq_true rfl) dX12_told_2 (fun H locs hP hD hS => ?_)
  refine lv_iload_n hx hb dX12_told_5 rfl (lv_at hl 1 rfl) ?_
  have hP : va_P D vwCl (List.flatten (wM aM C (va_up ms 0 0) mw ma ml)) H := hP
  have hD : va_D A (List.flatten (wM aM C (va_up ms 0 0) mw ma ml)) := hD
  refine cGoEI (cRunES (As := [.int p1]) (rest := []) ⟨hx, hb, hml, hown, hw⟩ hK hN hP hD (k_X12_isSlot l D C _    p1 h) (va_cwS 1 hw (goodS mw_6_201 mw_6_202 mw_1_13 mw_6_203) rfl rfl rfl (by decide +kernel) ⟨Nat.le_of_ble_eq_true rfl, Nat.le_of_ble_eq_true rfl⟩) rfl hl.1 rfl (Nat.le_of_ble_eq_true rfl) dX12_told_6 ⟨Nat.zero_le _, Nat.zero_le _⟩) hP hD hS hA (fun r13 u H locs h hP hD hS => ?_)
  have hP : va_P D vwCl (List.flatten (wM aM C (va_up ms 0 0) mw ma ml)) H := hP
  have hD : va_D A (List.flatten (wM aM C (va_up ms 0 0) mw ma ml)) := hD
  refine lv_if_eq (tgt := 19) hx hb dX12_told_9 (by decide) (fun c14 => ?_) (fun c14 => ?_)
  · have h := h.1 c14
    refine lv_bipush (v := (-2)) hx hb dX12_told_19 (by decide) ?_
    rw [← hQ]
    exact cRetI (v := (-2)) ((va_up ms 0 0), ma) hx hb hr hlocks hS hP hD h dX12_told_21
  · have h := h.2 c14
    refine lv_aload_n hx hb dX12_told_12 rfl (lv_at hl 0 rfl) ?_
    refine cGoAI (cRunAV (As := []) (rest := []) ⟨hx, hb, hml, hown, hw⟩ hK hN hP hD (k_X12_isRail l D C _ aM  (va_up ms 0 0) mw ma ml  h) (cwV 0 hw (goodV mw_7_204 mw_7_206 mw_s142 mw_1_13 mw_7_207) rfl rfl rfl (by decide +kernel) ⟨Nat.le_of_ble_eq_true rfl, Nat.le_of_ble_eq_true rfl⟩) rfl rfl rfl hl.1 rfl (Nat.le_of_ble_eq_true rfl) dX12_told_13 ⟨Nat.zero_le _, Nat.zero_le _⟩) hP hD hS hA (fun r15 u H locs h hP hD hS => ?_)
    have hP : va_P D vwCl (List.flatten (wM aM C (va_up ms 0 0) mw ma ml)) H := hP
    have hD : va_D A (List.flatten (wM aM C (va_up ms 0 0) mw ma ml)) := hD
    refine lv_if_ne (tgt := 22) hx hb dX12_told_16 (by decide) (fun c16 => ?_) (fun c16 => ?_)
    · have h := h.1 c16
      refine lv_aload_n hx hb dX12_told_22 rfl (lv_at hl 0 rfl) ?_
      refine va_get (D := D) (ci := 12) (v := .ref (aM 1)) (C := RX12) (T := TX12) (N := 51) hx hb hw inW_X12 hown hK hP 0 rfl rfl 1 (by decide) (hw _ mw_6_44) (fun _ h9 => h9) rfl dX12_told_23 ?_
      refine lv_iload_n hx hb dX12_told_26 rfl (lv_at hl 1 rfl) ?_
      refine cIald hx hb hK hP 1 0 rfl rfl p1.toNatClampNeg rfl h.1 dX12_told_27 ?_
      have h := h.2
      refine lv_iconst (v := (-1)) hx hb dX12_told_28 (by decide) ?_
      refine lv_icmp_ne (tgt := 35) hx hb dX12_told_29 (by decide) (fun c17 => ?_) (fun c17 => ?_)
      · have h := h.1 c17
        refine lv_aload_n hx hb dX12_told_35 rfl (lv_at hl 0 rfl) ?_
        refine va_get (D := D) (ci := 12) (v := .ref (aM 2)) (C := RX12) (T := TX12) (N := 51) hx hb hw inW_X12 hown hK hP 0 rfl rfl 2 (by decide) (hw _ mw_6_45) (fun _ h9 => h9) rfl dX12_told_36 ?_
        refine lv_iload_n hx hb dX12_told_39 rfl (lv_at hl 1 rfl) ?_
        refine cIald hx hb hK hP 2 0 rfl rfl p1.toNatClampNeg rfl h.1 dX12_told_40 ?_
        have h := h.2
        refine lv_aload_n hx hb dX12_told_41 rfl (lv_at hl 0 rfl) ?_
        refine va_get (D := D) (ci := 12) (v := .ref (aM 8)) (C := RX12) (T := TX12) (N := 51) hx hb hw inW_X12 hown hK hP 0 rfl rfl 18 (by decide) (hw _ mw_6_61) (fun _ h9 => h9) rfl dX12_told_42 ?_
        refine lv_iconst (v := 0) hx hb dX12_told_45 (by decide) ?_
        refine cIald hx hb hK hP 8 0 rfl rfl 0 (by decide +kernel) (cIn (by decide +kernel)) dX12_told_46 ?_
        refine lv_icmp_le (tgt := 53) hx hb dX12_told_47 (by decide) (fun c18 => ?_) (fun c18 => ?_)
        · have h := h.1 c18
          refine lv_iconst (v := 0) hx hb dX12_told_53 (by decide) ?_
          refine lv_istore_n (lv' := [(2, .int 0), (0, .ref (aM 0)), (1, .int p1)]) hx hb dX12_told_54 rfl hl (by decide) rfl (fun ls hl => ?_)
          obtain ⟨n, h⟩ := h
          exact N55 (va_up ms 0 0) ma n 0 _ _ _ h hP hD hS (lv_sub hl [1, 2, 0] rfl)
        · have h := h.2 c18
          refine lv_bipush (v := (-2)) hx hb dX12_told_50 (by decide) ?_
          rw [← hQ]
          exact cRetI (v := (-2)) ((va_up ms 0 0), ma) hx hb hr hlocks hS hP hD h dX12_told_52
      · have h := h.2 c17
        refine lv_bipush (v := (-6)) hx hb dX12_told_32 (by decide) ?_
        rw [← hQ]
        exact cRetI (v := (-6)) ((va_up ms 0 0), ma) hx hb hr hlocks hS hP hD h dX12_told_34
    · have h := h.2 c16
      refine lv_bipush (v := (-2)) hx hb dX12_told_19 (by decide) ?_
      rw [← hQ]
      exact cRetI (v := (-2)) ((va_up ms 0 0), ma) hx hb hr hlocks hS hP hD h dX12_told_21
abbrev vsX12_taken : List Cond := Cond.code yX12_taken cX12_taken 2 (some .int) :: WS
abbrev rmX12_taken : Room := { frames := 2, cells := 0, slots := 0, locals := 46 }
set_option maxHeartbeats 4000000 in
set_option maxRecDepth 100000 in
theorem k_X12_taken (l : Launch) (D : va_G) (C : Nat → ClassId) (sz : Nat) (aM : Nat → Nat)  (ms : Nat → Int32) (mw : Nat → Int64) (ma : Nat → Nat → Int32) (ml : Nat → Nat → Int64) (p1 : Int32) {post : Int32 → (Nat → Int32) → Prop} (h : P_X12_taken ms ma p1 post) : Met l yX12_taken vsX12_taken rmX12_taken (cPre D C [.ref (aM 0), .int p1] sz (wM aM C ms mw ma ml)) (cQi D (fun (r : Int32) (u : (Nat → Int32)) => post r u) (fun u => wM aM C u mw ma ml) (va_A (List.flatten (wM aM C ms mw ma ml)) sz)) 0 0 (va_A (List.flatten (wM aM C ms mw ma ml)) sz) := by
  refine cStart (QA := fun A => cQi D (fun (r : Int32) (u : (Nat → Int32)) => post r u) (fun u => wM aM C u mw ma ml) A) (cc := cX12_taken) (maxL := 2) (ret := (some .int)) (by decide) (Nat.le_of_ble_eq_true rfl) ?_
  intro p e s m args below meth c A ls hx hb hr hml hown hw hlocks hname hK hN hA hP hD hS hl
  generalize hQ : MQ below _ args s 0 0 A = Q
  have hl : lv_has ls 2 [(0, .ref (aM 0)), (1, .int p1)] := hl
  obtain ⟨H, hH⟩ : ∃ H, H = s.heap := ⟨_, rfl⟩
  obtain ⟨locs, hlo⟩ : ∃ z : List Loc, z = [] := ⟨_, rfl⟩
  have hP : va_P D vwCl (List.flatten (wM aM C ms mw ma ml)) H := by rw [hH]; exact hP
  have hS : va_S A s.heap H locs := by rw [hH, hlo]; exact hS
  rw [show W p l e rmX12_taken s m args below meth c s.heap [] 0 0 Q (F0 m 0 ls []) = W p l e rmX12_taken s m args below meth c H locs 0 0 Q (F0 m 0 ls []) from by rw [hH, hlo]]
  refine lv_aload_n hx hb dX12_taken_0 rfl (lv_at hl 0 rfl) ?_
  refine lv_iconst (v := 0) hx hb dX12_taken_1 (by decide) ?_
  refine va_put (D := D) (ci := 12) (v := .int 0) (ty := .int) (C := RX12) (T := TX12) (N := 51) hx hb hw inW_X12 tyX12 tyX12_ok nmX12 hown hK hP hD hS 0 rfl rfl 0 (by decide) (hw _ mw_6_43) (fun _ h9 => h9) rfl (by decide +kernel) rfl rfl (Nat.le_of_ble_eq_true rfl) dX12_taken_2 (fun H locs hP hD hS => ?_)
  refine lv_aload_n hx hb dX12_taken_5 rfl (lv_at hl 0 rfl) ?_
  refine lv_iload_n hx hb dX12_taken_6 rfl (lv_at hl 1 rfl) ?_
  have hP : va_P D vwCl (List.flatten (wM aM C (va_up ms 0 0) mw ma ml)) H := hP
  have hD : va_D A (List.flatten (wM aM C (va_up ms 0 0) mw ma ml)) := hD
  refine cGoAI (cRunAV (As := [.int p1]) (rest := []) ⟨hx, hb, hml, hown, hw⟩ hK hN hP hD (k_X12_isBike l D C _ aM  (va_up ms 0 0) mw ma ml p1 h) (cwV 1 hw (goodV mw_7_143 mw_7_145 mw_s133 mw_1_13 mw_7_146) rfl rfl rfl (by decide +kernel) ⟨Nat.le_of_ble_eq_true rfl, Nat.le_of_ble_eq_true rfl⟩) rfl rfl rfl hl.1 rfl (Nat.le_of_ble_eq_true rfl) dX12_taken_7 ⟨Nat.zero_le _, Nat.zero_le _⟩) hP hD hS hA (fun r1 u H locs h hP hD hS => ?_)
  have hP : va_P D vwCl (List.flatten (wM aM C (va_up ms 0 0) mw ma ml)) H := hP
  have hD : va_D A (List.flatten (wM aM C (va_up ms 0 0) mw ma ml)) := hD
  refine lv_if_ne (tgt := 18) hx hb dX12_taken_10 (by decide) (fun c2 => ?_) (fun c2 => ?_)
  · have h := h.1 c2
    refine lv_aload_n hx hb dX12_taken_18 rfl (lv_at hl 0 rfl) ?_
    refine va_get (D := D) (ci := 12) (v := .ref (aM 19)) (C := RX12) (T := TX12) (N := 51) hx hb hw inW_X12 hown hK hP 0 rfl rfl 29 (by decide) (hw _ mw_6_72) (fun _ h9 => h9) rfl dX12_taken_19 ?_
    refine lv_iconst (v := 0) hx hb dX12_taken_22 (by decide) ?_
    refine cIald hx hb hK hP 19 0 rfl rfl 0 (by decide +kernel) (cIn (by decide +kernel)) dX12_taken_23 ?_
    refine lv_if_ne (tgt := 31) hx hb dX12_taken_24 (by decide) (fun c3 => ?_) (fun c3 => ?_)
    · have h := h.1 c3
      refine lv_aload_n hx hb dX12_taken_31 rfl (lv_at hl 0 rfl) ?_
      refine va_get (D := D) (ci := 12) (v := .ref (aM 19)) (C := RX12) (T := TX12) (N := 51) hx hb hw inW_X12 hown hK hP 0 rfl rfl 29 (by decide) (hw _ mw_6_72) (fun _ h9 => h9) rfl dX12_taken_32 ?_
      refine lv_iconst (v := 1) hx hb dX12_taken_35 (by decide) ?_
      refine lv_iload_n hx hb dX12_taken_36 rfl (lv_at hl 1 rfl) ?_
      refine lv_iadd hx hb dX12_taken_37 ?_
      refine cIald hx hb hK hP 19 0 rfl rfl ((1 + p1).toNatClampNeg) rfl h.1 dX12_taken_38 ?_
      have h := h.2
      rw [← hQ]
      exact cRetI (v := (ma 16 ((1 + p1).toNatClampNeg))) ((va_up ms 0 0)) hx hb hr hlocks hS hP hD h dX12_taken_39
    · have h := h.2 c3
      refine lv_iconst (v := (-1)) hx hb dX12_taken_27 (by decide) ?_
      refine lv_goto (tgt := 39) hx hb dX12_taken_28 (by decide) ?_
      rw [← hQ]
      exact cRetI (v := (-1)) ((va_up ms 0 0)) hx hb hr hlocks hS hP hD h dX12_taken_39
  · have h := h.2 c2
    refine lv_bipush (v := (-2)) hx hb dX12_taken_13 (by decide) ?_
    refine lv_goto (tgt := 39) hx hb dX12_taken_15 (by decide) ?_
    rw [← hQ]
    exact cRetI (v := (-2)) ((va_up ms 0 0)) hx hb hr hlocks hS hP hD h dX12_taken_39
abbrev vsX12_took : List Cond := Cond.code yX12_took cX12_took 2 (some .int) :: WS
abbrev rmX12_took : Room := { frames := 2, cells := 0, slots := 0, locals := 46 }
set_option maxHeartbeats 4000000 in
set_option maxRecDepth 100000 in
theorem k_X12_took (l : Launch) (D : va_G) (C : Nat → ClassId) (sz : Nat) (aM : Nat → Nat)  (ms : Nat → Int32) (mw : Nat → Int64) (ma : Nat → Nat → Int32) (ml : Nat → Nat → Int64) (p1 : Int32) {post : Int32 → (Nat → Int32) → Prop} (h : P_X12_took ms ma p1 post) : Met l yX12_took vsX12_took rmX12_took (cPre D C [.ref (aM 0), .int p1] sz (wM aM C ms mw ma ml)) (cQi D (fun (r : Int32) (u : (Nat → Int32)) => post r u) (fun u => wM aM C u mw ma ml) (va_A (List.flatten (wM aM C ms mw ma ml)) sz)) 0 0 (va_A (List.flatten (wM aM C ms mw ma ml)) sz) := by
  refine cStart (QA := fun A => cQi D (fun (r : Int32) (u : (Nat → Int32)) => post r u) (fun u => wM aM C u mw ma ml) A) (cc := cX12_took) (maxL := 2) (ret := (some .int)) (by decide) (Nat.le_of_ble_eq_true rfl) ?_
  intro p e s m args below meth c A ls hx hb hr hml hown hw hlocks hname hK hN hA hP hD hS hl
  generalize hQ : MQ below _ args s 0 0 A = Q
  have hl : lv_has ls 2 [(0, .ref (aM 0)), (1, .int p1)] := hl
  obtain ⟨H, hH⟩ : ∃ H, H = s.heap := ⟨_, rfl⟩
  obtain ⟨locs, hlo⟩ : ∃ z : List Loc, z = [] := ⟨_, rfl⟩
  have hP : va_P D vwCl (List.flatten (wM aM C ms mw ma ml)) H := by rw [hH]; exact hP
  have hS : va_S A s.heap H locs := by rw [hH, hlo]; exact hS
  rw [show W p l e rmX12_took s m args below meth c s.heap [] 0 0 Q (F0 m 0 ls []) = W p l e rmX12_took s m args below meth c H locs 0 0 Q (F0 m 0 ls []) from by rw [hH, hlo]]
  refine lv_aload_n hx hb dX12_took_0 rfl (lv_at hl 0 rfl) ?_
  refine lv_iconst (v := 0) hx hb dX12_took_1 (by decide) ?_
  refine va_put (D := D) (ci := 12) (v := .int 0) (ty := .int) (C := RX12) (T := TX12) (N := 51) hx hb hw inW_X12 tyX12 tyX12_ok nmX12 hown hK hP hD hS 0 rfl rfl 0 (by decide) (hw _ mw_6_43) (fun _ h9 => h9) rfl (by decide +kernel) rfl rfl (Nat.le_of_ble_eq_true rfl) dX12_took_2 (fun H locs hP hD hS => ?_)
  refine lv_aload_n hx hb dX12_took_5 rfl (lv_at hl 0 rfl) ?_
  refine lv_iload_n hx hb dX12_took_6 rfl (lv_at hl 1 rfl) ?_
  have hP : va_P D vwCl (List.flatten (wM aM C (va_up ms 0 0) mw ma ml)) H := hP
  have hD : va_D A (List.flatten (wM aM C (va_up ms 0 0) mw ma ml)) := hD
  refine cGoAI (cRunAV (As := [.int p1]) (rest := []) ⟨hx, hb, hml, hown, hw⟩ hK hN hP hD (k_X12_isThief l D C _ aM  (va_up ms 0 0) mw ma ml p1 h) (cwV 1 hw (goodV mw_7_155 mw_7_157 mw_s134 mw_1_13 mw_7_158) rfl rfl rfl (by decide +kernel) ⟨Nat.le_of_ble_eq_true rfl, Nat.le_of_ble_eq_true rfl⟩) rfl rfl rfl hl.1 rfl (Nat.le_of_ble_eq_true rfl) dX12_took_7 ⟨Nat.zero_le _, Nat.zero_le _⟩) hP hD hS hA (fun r1 u H locs h hP hD hS => ?_)
  have hP : va_P D vwCl (List.flatten (wM aM C (va_up ms 0 0) mw ma ml)) H := hP
  have hD : va_D A (List.flatten (wM aM C (va_up ms 0 0) mw ma ml)) := hD
  refine lv_if_ne (tgt := 18) hx hb dX12_took_10 (by decide) (fun c2 => ?_) (fun c2 => ?_)
  · have h := h.1 c2
    refine lv_aload_n hx hb dX12_took_18 rfl (lv_at hl 0 rfl) ?_
    refine va_get (D := D) (ci := 12) (v := .ref (aM 19)) (C := RX12) (T := TX12) (N := 51) hx hb hw inW_X12 hown hK hP 0 rfl rfl 29 (by decide) (hw _ mw_6_72) (fun _ h9 => h9) rfl dX12_took_19 ?_
    refine lv_iconst (v := 0) hx hb dX12_took_22 (by decide) ?_
    refine cIald hx hb hK hP 19 0 rfl rfl 0 (by decide +kernel) (cIn (by decide +kernel)) dX12_took_23 ?_
    refine lv_if_ne (tgt := 31) hx hb dX12_took_24 (by decide) (fun c3 => ?_) (fun c3 => ?_)
    · have h := h.1 c3
      refine lv_aload_n hx hb dX12_took_31 rfl (lv_at hl 0 rfl) ?_
      refine va_get (D := D) (ci := 12) (v := .ref (aM 19)) (C := RX12) (T := TX12) (N := 51) hx hb hw inW_X12 hown hK hP 0 rfl rfl 29 (by decide) (hw _ mw_6_72) (fun _ h9 => h9) rfl dX12_took_32 ?_
      refine lv_bipush (v := 11) hx hb dX12_took_35 (by decide) ?_
      refine lv_iload_n hx hb dX12_took_37 rfl (lv_at hl 1 rfl) ?_
      refine lv_iadd hx hb dX12_took_38 ?_
      refine cIald hx hb hK hP 19 0 rfl rfl ((11 + p1).toNatClampNeg) rfl h.1 dX12_took_39 ?_
      have h := h.2
      rw [← hQ]
      exact cRetI (v := (ma 16 ((11 + p1).toNatClampNeg))) ((va_up ms 0 0)) hx hb hr hlocks hS hP hD h dX12_took_40
    · have h := h.2 c3
      refine lv_iconst (v := (-1)) hx hb dX12_took_27 (by decide) ?_
      refine lv_goto (tgt := 40) hx hb dX12_took_28 (by decide) ?_
      rw [← hQ]
      exact cRetI (v := (-1)) ((va_up ms 0 0)) hx hb hr hlocks hS hP hD h dX12_took_40
  · have h := h.2 c2
    refine lv_bipush (v := (-2)) hx hb dX12_took_13 (by decide) ?_
    refine lv_goto (tgt := 40) hx hb dX12_took_15 (by decide) ?_
    rw [← hQ]
    exact cRetI (v := (-2)) ((va_up ms 0 0)) hx hb hr hlocks hS hP hD h dX12_took_40
abbrev vsX12_years : List Cond := Cond.code yX12_years cX12_years 9 (some .long) :: WS
abbrev rmX12_years : Room := { frames := 6, cells := 0, slots := 0, locals := 141 }
set_option maxHeartbeats 4000000 in
set_option maxRecDepth 100000 in
theorem k_X12_years (l : Launch) (D : va_G) (C : Nat → ClassId) (sz : Nat) (aM : Nat → Nat)  (ms : Nat → Int32) (mw : Nat → Int64) (ma : Nat → Nat → Int32) (ml : Nat → Nat → Int64) (p1 : Int32) (p2 : Int32) (p3 : Int32) {post : Int64 → (Nat → Int32) → (Nat → Int64) → (Nat → Nat → Int32) → Prop} (h : P_X12_years ms mw ma p1 p2 p3 post) : Met l yX12_years vsX12_years rmX12_years (cPre D C [.ref (aM 0), .int p1, .int p2, .int p3] sz (wM aM C ms mw ma ml)) (cQl D (fun (r : Int64) (u : (Nat → Int32) × (Nat → Int64) × (Nat → Nat → Int32)) => post r u.1 u.2.1 u.2.2) (fun u => wM aM C u.1 u.2.1 u.2.2 ml) (va_A (List.flatten (wM aM C ms mw ma ml)) sz)) 0 0 (va_A (List.flatten (wM aM C ms mw ma ml)) sz) := by
  refine cStart (QA := fun A => cQl D (fun (r : Int64) (u : (Nat → Int32) × (Nat → Int64) × (Nat → Nat → Int32)) => post r u.1 u.2.1 u.2.2) (fun u => wM aM C u.1 u.2.1 u.2.2 ml) A) (cc := cX12_years) (maxL := 9) (ret := (some .long)) (by decide) (Nat.le_of_ble_eq_true rfl) ?_
  intro p e s m args below meth c A ls hx hb hr hml hown hw hlocks hname hK hN hA hP hD hS hl
  generalize hQ : MQ below _ args s 0 0 A = Q
  have hl : lv_has ls 9 [(0, .ref (aM 0)), (1, .int p1), (2, .int p2), (3, .int p3)] := hl
  obtain ⟨H, hH⟩ : ∃ H, H = s.heap := ⟨_, rfl⟩
  obtain ⟨locs, hlo⟩ : ∃ z : List Loc, z = [] := ⟨_, rfl⟩
  have hP : va_P D vwCl (List.flatten (wM aM C ms mw ma ml)) H := by rw [hH]; exact hP
  have hS : va_S A s.heap H locs := by rw [hH, hlo]; exact hS
  rw [show W p l e rmX12_years s m args below meth c s.heap [] 0 0 Q (F0 m 0 ls []) = W p l e rmX12_years s m args below meth c H locs 0 0 Q (F0 m 0 ls []) from by rw [hH, hlo]]
  have N53 : ∀  (n53 : Nat) (x4_ : Int64) (x6_ : Int32) (ms : Nat → Int32) (mw : Nat → Int64) (ma : Nat → Nat → Int32) (H : Heap) (locs : List Loc) (ls : Array Slot), P_X12_years_53 p1 p2 p3 post   n53 x4_ x6_ ms mw ma → va_P D vwCl (List.flatten (wM aM C ms mw ma ml)) H → va_D A (List.flatten (wM aM C ms mw ma ml)) → va_S A s.heap H locs → lv_has ls 9 [(0, .ref (aM 0)), (1, .int p1), (2, .int p2), (3, .int p3), (4, .long x4_), (6, .int x6_)] → W p l e rmX12_years s m args below meth c H locs 0 0 Q (F0 m 53 ls []) := by
    intro n53
    induction n53 with
    | zero => intro x4_ x6_ ms mw ma H locs ls h hP hD hS hl; exact False.elim h
    | succ n53 ih53 =>
      have N120 : ∀ (x6_ : Int32) (ms : Nat → Int32) (mw : Nat → Int64) (ma : Nat → Nat → Int32) (n120 : Nat) (x4_ : Int64) (x8_ : Int32) (H : Heap) (locs : List Loc) (ls : Array Slot), P_X12_years_120 p1 p2 p3 post (P_X12_years_53 p1 p2 p3 post   n53) x6_ ms mw ma n120 x4_ x8_ → va_P D vwCl (List.flatten (wM aM C ms mw ma ml)) H → va_D A (List.flatten (wM aM C ms mw ma ml)) → va_S A s.heap H locs → lv_has ls 9 [(0, .ref (aM 0)), (1, .int p1), (2, .int p2), (3, .int p3), (4, .long x4_), (6, .int x6_), (8, .int x8_)] → W p l e rmX12_years s m args below meth c H locs 0 0 Q (F0 m 120 ls []) := by
        intro x6_ ms mw ma
        intro n120
        induction n120 with
        | zero => intro x4_ x8_ H locs ls h hP hD hS hl; exact False.elim h
        | succ n120 ih120 =>
          intro x4_ x8_ H locs ls h hP hD hS hl
          refine lv_iload hx hb dX12_years_120 (lv_at hl 6 rfl) ?_
          refine lv_aload_n hx hb dX12_years_122 rfl (lv_at hl 0 rfl) ?_
          refine va_get (D := D) (ci := 12) (v := .ref (aM 13)) (C := RX12) (T := TX12) (N := 51) hx hb hw inW_X12 hown hK hP 0 rfl rfl 23 (by decide) (hw _ mw_6_66) (fun _ h9 => h9) rfl dX12_years_123 ?_
          refine lv_iconst (v := 0) hx hb dX12_years_126 (by decide) ?_
          refine cIald hx hb hK hP 13 0 rfl rfl 0 (by decide +kernel) (cIn (by decide +kernel)) dX12_years_127 ?_
          refine lv_icmp_ge (tgt := 163) hx hb dX12_years_128 (by decide) (fun c1 => ?_) (fun c1 => ?_)
          · have h := h.1 c1
            refine lv_iinc (v := (x6_ + 1)) (lv' := [(6, .int (x6_ + 1)), (0, .ref (aM 0)), (1, .int p1), (2, .int p2), (3, .int p3), (4, .long x4_), (8, .int x8_)]) hx hb dX12_years_163 hl (k := 5) rfl rfl (by decide) rfl (fun ls hl => ?_)
            refine lv_goto (tgt := 53) hx hb dX12_years_166 (by decide) ?_
            exact ih53 x4_ (x6_ + 1) ms mw ma _ _ _ h hP hD hS (lv_sub hl [1, 2, 3, 4, 5, 0] rfl)
          · have h := h.2 c1
            refine lv_lload hx hb dX12_years_131 (lv_at hl 4 rfl) ?_
            refine lv_aload_n hx hb dX12_years_133 rfl (lv_at hl 0 rfl) ?_
            refine va_get (D := D) (ci := 12) (v := .ref (aM 32)) (C := RX12) (T := TX12) (N := 51) hx hb hw inW_X12 hown hK hP 0 rfl rfl 49 (by decide) (hw _ mw_6_92) (fun _ h9 => h9) rfl dX12_years_134 ?_
            refine lv_iload hx hb dX12_years_137 (lv_at hl 6 rfl) ?_
            refine cIald hx hb hK hP 32 0 rfl rfl x8_.toNatClampNeg rfl h.1 dX12_years_139 ?_
            have h := h.2
            refine lv_i2l hx hb dX12_years_140 rfl ?_
            refine lv_aload_n hx hb dX12_years_141 rfl (lv_at hl 0 rfl) ?_
            refine va_get (D := D) (ci := 12) (v := .ref (aM 14)) (C := RX12) (T := TX12) (N := 51) hx hb hw inW_X12 hown hK hP 0 rfl rfl 24 (by decide) (hw _ mw_6_67) (fun _ h9 => h9) rfl dX12_years_142 ?_
            refine lv_iconst (v := 0) hx hb dX12_years_145 (by decide) ?_
            refine lv_iload hx hb dX12_years_146 (lv_at hl 6 rfl) ?_
            refine cGoEI (cRunES (As := [.int 0, .int x8_]) (rest := [.ref (aM 14), .long ((ma 21 x8_.toNatClampNeg).toInt64), .long x4_]) ⟨hx, hb, hml, hown, hw⟩ hK hN hP hD (k_X12_at l D C _    0 x8_ h) (va_cwS 2 hw (goodS mw_7_148 mw_7_149 mw_1_13 mw_7_150) rfl rfl rfl (by decide +kernel) ⟨Nat.le_of_ble_eq_true rfl, Nat.le_of_ble_eq_true rfl⟩) rfl hl.1 rfl (Nat.le_of_ble_eq_true rfl) dX12_years_148 ⟨Nat.zero_le _, Nat.zero_le _⟩) hP hD hS hA (fun r2 u H locs h hP hD hS => ?_)
            have hP : va_P D vwCl (List.flatten (wM aM C ms mw ma ml)) H := hP
            have hD : va_D A (List.flatten (wM aM C ms mw ma ml)) := hD
            refine cIald hx hb hK hP 14 0 rfl rfl r2.toNatClampNeg rfl h.1 dX12_years_151 ?_
            have h := h.2
            refine lv_i2l hx hb dX12_years_152 rfl ?_
            refine lv_lmul hx hb dX12_years_153 ?_
            refine lv_ladd hx hb dX12_years_154 ?_
            refine lv_topl (fun x3 ex3 => ?_)
            have h := h x3 ex3
            refine lv_lstore (lv' := [(4, .long x3), (0, .ref (aM 0)), (1, .int p1), (2, .int p2), (3, .int p3), (6, .int x6_), (8, .int x8_)]) hx hb dX12_years_155 hl (by decide) rfl (fun ls hl => ?_)
            refine lv_iinc (v := (x8_ + 1)) (lv' := [(8, .int (x8_ + 1)), (4, .long x3), (0, .ref (aM 0)), (1, .int p1), (2, .int p2), (3, .int p3), (6, .int x6_)]) hx hb dX12_years_157 hl (k := 6) rfl rfl (by decide) rfl (fun ls hl => ?_)
            refine lv_goto (tgt := 120) hx hb dX12_years_160 (by decide) ?_
            exact ih120 x3 (x8_ + 1) _ _ _ h hP hD hS (lv_sub hl [2, 3, 4, 5, 1, 6, 0] rfl)
      intro x4_ x6_ ms mw ma H locs ls h hP hD hS hl
      refine lv_iload hx hb dX12_years_53 (lv_at hl 5 rfl) ?_
      refine lv_iload_n hx hb dX12_years_55 rfl (lv_at hl 2 rfl) ?_
      refine lv_icmp_ge (tgt := 169) hx hb dX12_years_56 (by decide) (fun c4 => ?_) (fun c4 => ?_)
      · have h := h.1 c4
        refine lv_lload hx hb dX12_years_169 (lv_at hl 4 rfl) ?_
        rw [← hQ]
        exact cRetL (v := x4_) (ms, mw, ma) hx hb hr hlocks hS hP hD h dX12_years_171
      · have h := h.2 c4
        refine lv_aload_n hx hb dX12_years_59 rfl (lv_at hl 0 rfl) ?_
        refine lv_iload_n hx hb dX12_years_60 rfl (lv_at hl 1 rfl) ?_
        refine lv_i2l hx hb dX12_years_61 rfl ?_
        refine lv_iload hx hb dX12_years_62 (lv_at hl 5 rfl) ?_
        refine lv_i2l hx hb dX12_years_64 rfl ?_
        refine lv_ladd hx hb dX12_years_65 ?_
        refine cGoAV (cRunAV (As := [.long (p1.toInt64 + x6_.toInt64)]) (rest := []) ⟨hx, hb, hml, hown, hw⟩ hK hN hP hD (k_X12_draws l D C _ aM  ms mw ma ml (p1.toInt64 + x6_.toInt64) h) (cwV 1 hw (goodV mw_9_47 mw_9_49 mw_s179 mw_1_13 mw_9_50) rfl rfl rfl (by decide +kernel) ⟨Nat.le_of_ble_eq_true rfl, Nat.le_of_ble_eq_true rfl⟩) rfl rfl rfl hl.1 rfl (Nat.le_of_ble_eq_true rfl) dX12_years_66 ⟨Nat.zero_le _, Nat.zero_le _⟩) hP hD hS hA (fun u H locs h hP hD hS => ?_)
        obtain ⟨ms_5, mw_6, ma_7⟩ := u
        have hP : va_P D vwCl (List.flatten (wM aM C ms_5 mw_6 ma_7 ml)) H := hP
        have hD : va_D A (List.flatten (wM aM C ms_5 mw_6 ma_7 ml)) := hD
        refine lv_aload_n hx hb dX12_years_69 rfl (lv_at hl 0 rfl) ?_
        refine cGoAI (cRunAV (As := []) (rest := []) ⟨hx, hb, hml, hown, hw⟩ hK hN hP hD (k_X12_drawnAll l D C _ aM  ms_5 mw_6 ma_7 ml  h) (cwV 0 hw (goodV mw_9_71 mw_9_73 mw_s184 mw_1_13 mw_9_74) rfl rfl rfl (by decide +kernel) ⟨Nat.le_of_ble_eq_true rfl, Nat.le_of_ble_eq_true rfl⟩) rfl rfl rfl hl.1 rfl (Nat.le_of_ble_eq_true rfl) dX12_years_70 ⟨Nat.zero_le _, Nat.zero_le _⟩) hP hD hS hA (fun r8 u H locs h hP hD hS => ?_)
        have hP : va_P D vwCl (List.flatten (wM aM C ms_5 mw_6 ma_7 ml)) H := hP
        have hD : va_D A (List.flatten (wM aM C ms_5 mw_6 ma_7 ml)) := hD
        refine lv_istore (lv' := [(7, .int r8), (0, .ref (aM 0)), (1, .int p1), (2, .int p2), (3, .int p3), (4, .long x4_), (6, .int x6_)]) hx hb dX12_years_73 hl (by decide) rfl (fun ls hl => ?_)
        refine lv_iload_n hx hb dX12_years_75 rfl (lv_at hl 4 rfl) ?_
        refine lv_if_ne (tgt := 90) hx hb dX12_years_76 (by decide) (fun c9 => ?_) (fun c9 => ?_)
        · have h := h.1 c9
          refine lv_iload_n hx hb dX12_years_90 rfl (lv_at hl 4 rfl) ?_
          refine lv_iconst (v := 1) hx hb dX12_years_91 (by decide) ?_
          refine lv_icmp_ne (tgt := 117) hx hb dX12_years_92 (by decide) (fun c10 => ?_) (fun c10 => ?_)
          · have h := h.1 c10
            refine lv_iconst (v := 0) hx hb dX12_years_117 (by decide) ?_
            refine lv_istore (lv' := [(8, .int 0), (7, .int r8), (0, .ref (aM 0)), (1, .int p1), (2, .int p2), (3, .int p3), (4, .long x4_), (6, .int x6_)]) hx hb dX12_years_118 hl (by decide) rfl (fun ls hl => ?_)
            obtain ⟨n, h⟩ := h
            exact N120 x6_ ms_5 mw_6 ma_7 n x4_ 0 _ _ _ h hP hD hS (lv_sub hl [2, 3, 4, 5, 6, 7, 0] rfl)
          · have h := h.2 c10
            refine lv_iload hx hb dX12_years_95 (lv_at hl 0 rfl) ?_
            refine lv_i2l hx hb dX12_years_97 rfl ?_
            refine lv_lload hx hb dX12_years_98 (lv_at hl 5 rfl) ?_
            refine W.lcmp hx hb dX12_years_100 ?_
            refine lv_if_le (tgt := 110) hx hb dX12_years_101 (by decide) (fun c11 => ?_) (fun c11 => ?_)
            · have c11 : r8.toInt64 ≤ x4_ := (lg_cmp_le _ _).mp c11
              have h := h.1 c11
              refine lv_lload hx hb dX12_years_110 (lv_at hl 5 rfl) ?_
              refine lv_lstore (lv' := [(4, .long x4_), (7, .int r8), (0, .ref (aM 0)), (1, .int p1), (2, .int p2), (3, .int p3), (6, .int x6_)]) hx hb dX12_years_112 hl (by decide) rfl (fun ls hl => ?_)
              refine lv_goto (tgt := 163) hx hb dX12_years_114 (by decide) ?_
              refine lv_iinc (v := (x6_ + 1)) (lv' := [(6, .int (x6_ + 1)), (4, .long x4_), (7, .int r8), (0, .ref (aM 0)), (1, .int p1), (2, .int p2), (3, .int p3)]) hx hb dX12_years_163 hl (k := 6) rfl rfl (by decide) rfl (fun ls hl => ?_)
              refine lv_goto (tgt := 53) hx hb dX12_years_166 (by decide) ?_
              exact ih53 x4_ (x6_ + 1) ms_5 mw_6 ma_7 _ _ _ h hP hD hS (lv_sub hl [3, 4, 5, 6, 1, 0] rfl)
            · have c11 : ¬ r8.toInt64 ≤ x4_ := fun q => c11 ((lg_cmp_le _ _).mpr q)
              have h := h.2 c11
              refine lv_iload hx hb dX12_years_104 (lv_at hl 0 rfl) ?_
              refine lv_i2l hx hb dX12_years_106 rfl ?_
              refine lv_goto (tgt := 112) hx hb dX12_years_107 (by decide) ?_
              refine lv_topl (fun x12 ex12 => ?_)
              have h := h x12 ex12
              refine lv_lstore (lv' := [(4, .long x12), (7, .int r8), (0, .ref (aM 0)), (1, .int p1), (2, .int p2), (3, .int p3), (6, .int x6_)]) hx hb dX12_years_112 hl (by decide) rfl (fun ls hl => ?_)
              refine lv_goto (tgt := 163) hx hb dX12_years_114 (by decide) ?_
              refine lv_iinc (v := (x6_ + 1)) (lv' := [(6, .int (x6_ + 1)), (4, .long x12), (7, .int r8), (0, .ref (aM 0)), (1, .int p1), (2, .int p2), (3, .int p3)]) hx hb dX12_years_163 hl (k := 6) rfl rfl (by decide) rfl (fun ls hl => ?_)
              refine lv_goto (tgt := 53) hx hb dX12_years_166 (by decide) ?_
              exact ih53 x12 (x6_ + 1) ms_5 mw_6 ma_7 _ _ _ h hP hD hS (lv_sub hl [3, 4, 5, 6, 1, 0] rfl)
        · have h := h.2 c9
          refine lv_lload hx hb dX12_years_79 (lv_at hl 5 rfl) ?_
          refine lv_iload hx hb dX12_years_81 (lv_at hl 0 rfl) ?_
          refine lv_i2l hx hb dX12_years_83 rfl ?_
          refine lv_ladd hx hb dX12_years_84 ?_
          refine lv_topl (fun x13 ex13 => ?_)
          have h := h x13 ex13
          refine lv_lstore (lv' := [(4, .long x13), (7, .int r8), (0, .ref (aM 0)), (1, .int p1), (2, .int p2), (3, .int p3), (6, .int x6_)]) hx hb dX12_years_85 hl (by decide) rfl (fun ls hl => ?_)
          refine lv_goto (tgt := 163) hx hb dX12_years_87 (by decide) ?_
          refine lv_iinc (v := (x6_ + 1)) (lv' := [(6, .int (x6_ + 1)), (4, .long x13), (7, .int r8), (0, .ref (aM 0)), (1, .int p1), (2, .int p2), (3, .int p3)]) hx hb dX12_years_163 hl (k := 6) rfl rfl (by decide) rfl (fun ls hl => ?_)
          refine lv_goto (tgt := 53) hx hb dX12_years_166 (by decide) ?_
          exact ih53 x13 (x6_ + 1) ms_5 mw_6 ma_7 _ _ _ h hP hD hS (lv_sub hl [3, 4, 5, 6, 1, 0] rfl)
  refine lv_aload_n hx hb dX12_years_0 rfl (lv_at hl 0 rfl) ?_
  refine lv_iconst (v := 0) hx hb dX12_years_1 (by decide) ?_
  refine va_put (D := D) (ci := 12) (v := .int 0) (ty := .int) (C := RX12) (T := TX12) (N := 51) hx hb hw inW_X12 tyX12 tyX12_ok nmX12 hown hK hP hD hS 0 rfl rfl 0 (by decide) (hw _ mw_6_43) (fun _ h9 => h9) rfl (by decide +kernel) rfl rfl (Nat.le_of_ble_eq_true rfl) dX12_years_2 (fun H locs hP hD hS => ?_)
  refine lv_iload_n hx hb dX12_years_5 rfl (lv_at hl 1 rfl) ?_
  have hP : va_P D vwCl (List.flatten (wM aM C (va_up ms 0 0) mw ma ml)) H := hP
  have hD : va_D A (List.flatten (wM aM C (va_up ms 0 0) mw ma ml)) := hD
  refine cGoEI (cRunES (As := [.int p1]) (rest := []) ⟨hx, hb, hml, hown, hw⟩ hK hN hP hD (k_X12_isSeed l D C _    p1 h) (va_cwS 1 hw (goodS mw_9_43 mw_9_44 mw_1_13 mw_9_45) rfl rfl rfl (by decide +kernel) ⟨Nat.le_of_ble_eq_true rfl, Nat.le_of_ble_eq_true rfl⟩) rfl hl.1 rfl (Nat.le_of_ble_eq_true rfl) dX12_years_6 ⟨Nat.zero_le _, Nat.zero_le _⟩) hP hD hS hA (fun r14 u H locs h hP hD hS => ?_)
  have hP : va_P D vwCl (List.flatten (wM aM C (va_up ms 0 0) mw ma ml)) H := hP
  have hD : va_D A (List.flatten (wM aM C (va_up ms 0 0) mw ma ml)) := hD
  refine lv_if_eq (tgt := 43) hx hb dX12_years_9 (by decide) (fun c15 => ?_) (fun c15 => ?_)
  · have h := h.1 c15
    refine lv_ldc2 (v := (-2)) hx hb hown (hw _ mw_7_208) dX12_years_43 ?_
    rw [← hQ]
    exact cRetL (v := (-2)) ((va_up ms 0 0), mw, ma) hx hb hr hlocks hS hP hD h dX12_years_46
  · have h := h.2 c15
    refine lv_iload_n hx hb dX12_years_12 rfl (lv_at hl 2 rfl) ?_
    refine lv_i2l hx hb dX12_years_13 rfl ?_
    refine lv_lconst (v := 1) hx hb dX12_years_14 (by decide) ?_
    refine lv_ldc2 (v := 100) hx hb hown (hw _ mw_7_163) dX12_years_15 ?_
    refine cGoEI (cRunES (As := [.long p2.toInt64, .long 1, .long 100]) (rest := []) ⟨hx, hb, hml, hown, hw⟩ hK hN hP hD (k_X12_in l D C _    p2.toInt64 1 100 h) (va_cwS 3 hw (goodS mw_6_205 mw_6_206 mw_1_13 mw_6_207) rfl rfl rfl (by decide +kernel) ⟨Nat.le_of_ble_eq_true rfl, Nat.le_of_ble_eq_true rfl⟩) rfl hl.1 rfl (Nat.le_of_ble_eq_true rfl) dX12_years_18 ⟨Nat.zero_le _, Nat.zero_le _⟩) hP hD hS hA (fun r16 u H locs h hP hD hS => ?_)
    have hP : va_P D vwCl (List.flatten (wM aM C (va_up ms 0 0) mw ma ml)) H := hP
    have hD : va_D A (List.flatten (wM aM C (va_up ms 0 0) mw ma ml)) := hD
    refine lv_if_eq (tgt := 43) hx hb dX12_years_21 (by decide) (fun c17 => ?_) (fun c17 => ?_)
    · have h := h.1 c17
      refine lv_ldc2 (v := (-2)) hx hb hown (hw _ mw_7_208) dX12_years_43 ?_
      rw [← hQ]
      exact cRetL (v := (-2)) ((va_up ms 0 0), mw, ma) hx hb hr hlocks hS hP hD h dX12_years_46
    · have h := h.2 c17
      refine lv_iload_n hx hb dX12_years_24 rfl (lv_at hl 3 rfl) ?_
      refine lv_i2l hx hb dX12_years_25 rfl ?_
      refine lv_lconst (v := 0) hx hb dX12_years_26 (by decide) ?_
      refine lv_ldc2 (v := 2) hx hb hown (hw _ mw_8_1) dX12_years_27 ?_
      refine cGoEI (cRunES (As := [.long p3.toInt64, .long 0, .long 2]) (rest := []) ⟨hx, hb, hml, hown, hw⟩ hK hN hP hD (k_X12_in l D C _    p3.toInt64 0 2 h) (va_cwS 3 hw (goodS mw_6_205 mw_6_206 mw_1_13 mw_6_207) rfl rfl rfl (by decide +kernel) ⟨Nat.le_of_ble_eq_true rfl, Nat.le_of_ble_eq_true rfl⟩) rfl hl.1 rfl (Nat.le_of_ble_eq_true rfl) dX12_years_30 ⟨Nat.zero_le _, Nat.zero_le _⟩) hP hD hS hA (fun r18 u H locs h hP hD hS => ?_)
      have hP : va_P D vwCl (List.flatten (wM aM C (va_up ms 0 0) mw ma ml)) H := hP
      have hD : va_D A (List.flatten (wM aM C (va_up ms 0 0) mw ma ml)) := hD
      refine lv_if_eq (tgt := 43) hx hb dX12_years_33 (by decide) (fun c19 => ?_) (fun c19 => ?_)
      · have h := h.1 c19
        refine lv_ldc2 (v := (-2)) hx hb hown (hw _ mw_7_208) dX12_years_43 ?_
        rw [← hQ]
        exact cRetL (v := (-2)) ((va_up ms 0 0), mw, ma) hx hb hr hlocks hS hP hD h dX12_years_46
      · have h := h.2 c19
        refine lv_aload_n hx hb dX12_years_36 rfl (lv_at hl 0 rfl) ?_
        refine cGoAI (cRunAV (As := []) (rest := []) ⟨hx, hb, hml, hown, hw⟩ hK hN hP hD (k_X12_isRail l D C _ aM  (va_up ms 0 0) mw ma ml  h) (cwV 0 hw (goodV mw_7_204 mw_7_206 mw_s142 mw_1_13 mw_7_207) rfl rfl rfl (by decide +kernel) ⟨Nat.le_of_ble_eq_true rfl, Nat.le_of_ble_eq_true rfl⟩) rfl rfl rfl hl.1 rfl (Nat.le_of_ble_eq_true rfl) dX12_years_37 ⟨Nat.zero_le _, Nat.zero_le _⟩) hP hD hS hA (fun r20 u H locs h hP hD hS => ?_)
        have hP : va_P D vwCl (List.flatten (wM aM C (va_up ms 0 0) mw ma ml)) H := hP
        have hD : va_D A (List.flatten (wM aM C (va_up ms 0 0) mw ma ml)) := hD
        refine lv_if_ne (tgt := 47) hx hb dX12_years_40 (by decide) (fun c21 => ?_) (fun c21 => ?_)
        · have h := h.1 c21
          refine lv_lconst (v := 0) hx hb dX12_years_47 (by decide) ?_
          refine lv_lstore (lv' := [(4, .long 0), (0, .ref (aM 0)), (1, .int p1), (2, .int p2), (3, .int p3)]) hx hb dX12_years_48 hl (by decide) rfl (fun ls hl => ?_)
          refine lv_iconst (v := 0) hx hb dX12_years_50 (by decide) ?_
          refine lv_istore (lv' := [(6, .int 0), (4, .long 0), (0, .ref (aM 0)), (1, .int p1), (2, .int p2), (3, .int p3)]) hx hb dX12_years_51 hl (by decide) rfl (fun ls hl => ?_)
          obtain ⟨n, h⟩ := h
          exact N53  n 0 0 (va_up ms 0 0) mw ma _ _ _ h hP hD hS (lv_sub hl [2, 3, 4, 5, 1, 0] rfl)
        · have h := h.2 c21
          refine lv_ldc2 (v := (-2)) hx hb hown (hw _ mw_7_208) dX12_years_43 ?_
          rw [← hQ]
          exact cRetL (v := (-2)) ((va_up ms 0 0), mw, ma) hx hb hr hlocks hS hP hD h dX12_years_46
abbrev vsX12_count : List Cond := Cond.code yX12_count cX12_count 4 (some .int) :: WS
abbrev rmX12_count : Room := { frames := 2, cells := 0, slots := 0, locals := 44 }
set_option maxHeartbeats 4000000 in
set_option maxRecDepth 100000 in
theorem k_X12_count (l : Launch) (D : va_G) (C : Nat → ClassId) (sz : Nat) (aM : Nat → Nat)  (ms : Nat → Int32) (mw : Nat → Int64) (ma : Nat → Nat → Int32) (ml : Nat → Nat → Int64) (p1 : Int32) {post : Int32 → (Nat → Int32) → Prop} (h : P_X12_count ms ma p1 post) : Met l yX12_count vsX12_count rmX12_count (cPre D C [.ref (aM 0), .int p1] sz (wM aM C ms mw ma ml)) (cQi D (fun (r : Int32) (u : (Nat → Int32)) => post r u) (fun u => wM aM C u mw ma ml) (va_A (List.flatten (wM aM C ms mw ma ml)) sz)) 0 0 (va_A (List.flatten (wM aM C ms mw ma ml)) sz) := by
  refine cStart (QA := fun A => cQi D (fun (r : Int32) (u : (Nat → Int32)) => post r u) (fun u => wM aM C u mw ma ml) A) (cc := cX12_count) (maxL := 4) (ret := (some .int)) (by decide) (Nat.le_of_ble_eq_true rfl) ?_
  intro p e s m args below meth c A ls hx hb hr hml hown hw hlocks hname hK hN hA hP hD hS hl
  generalize hQ : MQ below _ args s 0 0 A = Q
  have hl : lv_has ls 4 [(0, .ref (aM 0)), (1, .int p1)] := hl
  obtain ⟨H, hH⟩ : ∃ H, H = s.heap := ⟨_, rfl⟩
  obtain ⟨locs, hlo⟩ : ∃ z : List Loc, z = [] := ⟨_, rfl⟩
  have hP : va_P D vwCl (List.flatten (wM aM C ms mw ma ml)) H := by rw [hH]; exact hP
  have hS : va_S A s.heap H locs := by rw [hH, hlo]; exact hS
  rw [show W p l e rmX12_count s m args below meth c s.heap [] 0 0 Q (F0 m 0 ls []) = W p l e rmX12_count s m args below meth c H locs 0 0 Q (F0 m 0 ls []) from by rw [hH, hlo]]
  have N169 : ∀ (ms : Nat → Int32) (n169 : Nat) (x2_ : Int32) (x3_ : Int32) (H : Heap) (locs : List Loc) (ls : Array Slot), P_X12_count_169 ma p1 post  ms n169 x2_ x3_ → va_P D vwCl (List.flatten (wM aM C ms mw ma ml)) H → va_D A (List.flatten (wM aM C ms mw ma ml)) → va_S A s.heap H locs → lv_has ls 4 [(0, .ref (aM 0)), (2, .int x2_), (3, .int x3_)] → W p l e rmX12_count s m args below meth c H locs 0 0 Q (F0 m 169 ls []) := by
    intro ms
    intro n169
    induction n169 with
    | zero => intro x2_ x3_ H locs ls h hP hD hS hl; exact False.elim h
    | succ n169 ih169 =>
      intro x2_ x3_ H locs ls h hP hD hS hl
      refine lv_iload_n hx hb dX12_count_169 rfl (lv_at hl 2 rfl) ?_
      refine lv_iconst (v := 4) hx hb dX12_count_170 (by decide) ?_
      refine lv_icmp_ge (tgt := 198) hx hb dX12_count_171 (by decide) (fun c1 => ?_) (fun c1 => ?_)
      · have h := h.1 c1
        refine lv_iload_n hx hb dX12_count_198 rfl (lv_at hl 1 rfl) ?_
        rw [← hQ]
        exact cRetI (v := x2_) (ms) hx hb hr hlocks hS hP hD h dX12_count_199
      · have h := h.2 c1
        refine lv_iload_n hx hb dX12_count_174 rfl (lv_at hl 1 rfl) ?_
        refine lv_aload_n hx hb dX12_count_175 rfl (lv_at hl 0 rfl) ?_
        refine va_get (D := D) (ci := 12) (v := .ref (aM 1)) (C := RX12) (T := TX12) (N := 51) hx hb hw inW_X12 hown hK hP 0 rfl rfl 1 (by decide) (hw _ mw_6_44) (fun _ h9 => h9) rfl dX12_count_176 ?_
        refine lv_iload_n hx hb dX12_count_179 rfl (lv_at hl 2 rfl) ?_
        refine cIald hx hb hK hP 1 0 rfl rfl x3_.toNatClampNeg rfl h.1 dX12_count_180 ?_
        have h := h.2
        refine lv_iconst (v := (-1)) hx hb dX12_count_181 (by decide) ?_
        refine lv_icmp_ne (tgt := 189) hx hb dX12_count_182 (by decide) (fun c2 => ?_) (fun c2 => ?_)
        · have h := h.1 c2
          refine lv_iconst (v := 1) hx hb dX12_count_189 (by decide) ?_
          refine lv_iadd hx hb dX12_count_190 ?_
          refine lv_topi (fun x3 ex3 => ?_)
          have h := h x3 ex3
          refine lv_istore_n (lv' := [(2, .int x3), (0, .ref (aM 0)), (3, .int x3_)]) hx hb dX12_count_191 rfl hl (by decide) rfl (fun ls hl => ?_)
          refine lv_iinc (v := (x3_ + 1)) (lv' := [(3, .int (x3_ + 1)), (2, .int x3), (0, .ref (aM 0))]) hx hb dX12_count_192 hl (k := 2) rfl rfl (by decide) rfl (fun ls hl => ?_)
          refine lv_goto (tgt := 169) hx hb dX12_count_195 (by decide) ?_
          exact ih169 x3 (x3_ + 1) _ _ _ h hP hD hS (lv_sub hl [2, 1, 0] rfl)
        · have h := h.2 c2
          refine lv_iconst (v := 0) hx hb dX12_count_185 (by decide) ?_
          refine lv_goto (tgt := 190) hx hb dX12_count_186 (by decide) ?_
          refine lv_iadd hx hb dX12_count_190 ?_
          refine lv_topi (fun x4 ex4 => ?_)
          have h := h x4 ex4
          refine lv_istore_n (lv' := [(2, .int x4), (0, .ref (aM 0)), (3, .int x3_)]) hx hb dX12_count_191 rfl hl (by decide) rfl (fun ls hl => ?_)
          refine lv_iinc (v := (x3_ + 1)) (lv' := [(3, .int (x3_ + 1)), (2, .int x4), (0, .ref (aM 0))]) hx hb dX12_count_192 hl (k := 2) rfl rfl (by decide) rfl (fun ls hl => ?_)
          refine lv_goto (tgt := 169) hx hb dX12_count_195 (by decide) ?_
          exact ih169 x4 (x3_ + 1) _ _ _ h hP hD hS (lv_sub hl [2, 1, 0] rfl)
  refine lv_aload_n hx hb dX12_count_0 rfl (lv_at hl 0 rfl) ?_
  refine lv_iconst (v := 0) hx hb dX12_count_1 (by decide) ?_
  refine va_put (D := D) (ci := 12) (v := .int 0) (ty := .int) (C := RX12) (T := TX12) (N := 51) hx hb hw inW_X12 tyX12 tyX12_ok nmX12 hown hK hP hD hS 0 rfl rfl 0 (by decide) (hw _ mw_6_43) (fun _ h9 => h9) rfl (by decide +kernel) rfl rfl (Nat.le_of_ble_eq_true rfl) dX12_count_2 (fun H locs hP hD hS => ?_)
  refine lv_iconst (v := 0) hx hb dX12_count_5 (by decide) ?_
  refine lv_istore_n (lv' := [(2, .int 0), (0, .ref (aM 0)), (1, .int p1)]) hx hb dX12_count_6 rfl hl (by decide) rfl (fun ls hl => ?_)
  refine lv_iload_n hx hb dX12_count_7 rfl (lv_at hl 2 rfl) ?_
  by_cases c5_0 : p1 = 0
  · refine lv_tableIn (tgt := 76) hx hb dX12_count_8 (by rw [c5_0] <;> decide) (by rw [c5_0] <;> decide) (by rw [c5_0] <;> rfl) (by decide) ?_
    have h := h.1 c5_0
    refine lv_aload_n hx hb dX12_count_76 rfl (lv_at hl 1 rfl) ?_
    refine va_get (D := D) (ci := 12) (v := .ref (aM 7)) (C := RX12) (T := TX12) (N := 51) hx hb hw inW_X12 hown hK hP 0 rfl rfl 17 (by decide) (hw _ mw_6_60) (fun _ h9 => h9) rfl dX12_count_77 ?_
    refine lv_iconst (v := 0) hx hb dX12_count_80 (by decide) ?_
    refine cIald hx hb hK hP 7 0 rfl rfl 0 (by decide +kernel) (cIn (by decide +kernel)) dX12_count_81 ?_
    have hP : va_P D vwCl (List.flatten (wM aM C (va_up ms 0 0) mw ma ml)) H := hP
    have hD : va_D A (List.flatten (wM aM C (va_up ms 0 0) mw ma ml)) := hD
    rw [← hQ]
    exact cRetI (v := (ma 4 0)) ((va_up ms 0 0)) hx hb hr hlocks hS hP hD h dX12_count_82
  by_cases c5_1 : p1 = 1
  · refine lv_tableIn (tgt := 83) hx hb dX12_count_8 (by rw [c5_1] <;> decide) (by rw [c5_1] <;> decide) (by rw [c5_1] <;> rfl) (by decide) ?_
    have h := h.2.1 c5_1
    refine lv_aload_n hx hb dX12_count_83 rfl (lv_at hl 1 rfl) ?_
    refine va_get (D := D) (ci := 12) (v := .ref (aM 8)) (C := RX12) (T := TX12) (N := 51) hx hb hw inW_X12 hown hK hP 0 rfl rfl 18 (by decide) (hw _ mw_6_61) (fun _ h9 => h9) rfl dX12_count_84 ?_
    refine lv_iconst (v := 0) hx hb dX12_count_87 (by decide) ?_
    refine cIald hx hb hK hP 8 0 rfl rfl 0 (by decide +kernel) (cIn (by decide +kernel)) dX12_count_88 ?_
    have hP : va_P D vwCl (List.flatten (wM aM C (va_up ms 0 0) mw ma ml)) H := hP
    have hD : va_D A (List.flatten (wM aM C (va_up ms 0 0) mw ma ml)) := hD
    rw [← hQ]
    exact cRetI (v := (ma 5 0)) ((va_up ms 0 0)) hx hb hr hlocks hS hP hD h dX12_count_89
  by_cases c5_2 : p1 = 2
  · refine lv_tableIn (tgt := 90) hx hb dX12_count_8 (by rw [c5_2] <;> decide) (by rw [c5_2] <;> decide) (by rw [c5_2] <;> rfl) (by decide) ?_
    have h := h.2.2.1 c5_2
    refine lv_aload_n hx hb dX12_count_90 rfl (lv_at hl 1 rfl) ?_
    refine va_get (D := D) (ci := 12) (v := .ref (aM 9)) (C := RX12) (T := TX12) (N := 51) hx hb hw inW_X12 hown hK hP 0 rfl rfl 19 (by decide) (hw _ mw_6_62) (fun _ h9 => h9) rfl dX12_count_91 ?_
    refine lv_iconst (v := 0) hx hb dX12_count_94 (by decide) ?_
    refine cIald hx hb hK hP 9 0 rfl rfl 0 (by decide +kernel) (cIn (by decide +kernel)) dX12_count_95 ?_
    have hP : va_P D vwCl (List.flatten (wM aM C (va_up ms 0 0) mw ma ml)) H := hP
    have hD : va_D A (List.flatten (wM aM C (va_up ms 0 0) mw ma ml)) := hD
    rw [← hQ]
    exact cRetI (v := (ma 6 0)) ((va_up ms 0 0)) hx hb hr hlocks hS hP hD h dX12_count_96
  by_cases c5_3 : p1 = 3
  · refine lv_tableIn (tgt := 97) hx hb dX12_count_8 (by rw [c5_3] <;> decide) (by rw [c5_3] <;> decide) (by rw [c5_3] <;> rfl) (by decide) ?_
    have h := h.2.2.2.1 c5_3
    refine lv_aload_n hx hb dX12_count_97 rfl (lv_at hl 1 rfl) ?_
    refine va_get (D := D) (ci := 12) (v := .ref (aM 11)) (C := RX12) (T := TX12) (N := 51) hx hb hw inW_X12 hown hK hP 0 rfl rfl 21 (by decide) (hw _ mw_6_64) (fun _ h9 => h9) rfl dX12_count_98 ?_
    refine lv_iconst (v := 0) hx hb dX12_count_101 (by decide) ?_
    refine cIald hx hb hK hP 11 0 rfl rfl 0 (by decide +kernel) (cIn (by decide +kernel)) dX12_count_102 ?_
    have hP : va_P D vwCl (List.flatten (wM aM C (va_up ms 0 0) mw ma ml)) H := hP
    have hD : va_D A (List.flatten (wM aM C (va_up ms 0 0) mw ma ml)) := hD
    rw [← hQ]
    exact cRetI (v := (ma 8 0)) ((va_up ms 0 0)) hx hb hr hlocks hS hP hD h dX12_count_103
  by_cases c5_4 : p1 = 4
  · refine lv_tableIn (tgt := 104) hx hb dX12_count_8 (by rw [c5_4] <;> decide) (by rw [c5_4] <;> decide) (by rw [c5_4] <;> rfl) (by decide) ?_
    have h := h.2.2.2.2.1 c5_4
    refine lv_aload_n hx hb dX12_count_104 rfl (lv_at hl 1 rfl) ?_
    refine va_get (D := D) (ci := 12) (v := .ref (aM 13)) (C := RX12) (T := TX12) (N := 51) hx hb hw inW_X12 hown hK hP 0 rfl rfl 23 (by decide) (hw _ mw_6_66) (fun _ h9 => h9) rfl dX12_count_105 ?_
    refine lv_iconst (v := 0) hx hb dX12_count_108 (by decide) ?_
    refine cIald hx hb hK hP 13 0 rfl rfl 0 (by decide +kernel) (cIn (by decide +kernel)) dX12_count_109 ?_
    have hP : va_P D vwCl (List.flatten (wM aM C (va_up ms 0 0) mw ma ml)) H := hP
    have hD : va_D A (List.flatten (wM aM C (va_up ms 0 0) mw ma ml)) := hD
    rw [← hQ]
    exact cRetI (v := (ma 10 0)) ((va_up ms 0 0)) hx hb hr hlocks hS hP hD h dX12_count_110
  by_cases c5_5 : p1 = 5
  · refine lv_tableIn (tgt := 111) hx hb dX12_count_8 (by rw [c5_5] <;> decide) (by rw [c5_5] <;> decide) (by rw [c5_5] <;> rfl) (by decide) ?_
    have h := h.2.2.2.2.2.1 c5_5
    refine lv_aload_n hx hb dX12_count_111 rfl (lv_at hl 1 rfl) ?_
    refine va_get (D := D) (ci := 12) (v := .ref (aM 15)) (C := RX12) (T := TX12) (N := 51) hx hb hw inW_X12 hown hK hP 0 rfl rfl 25 (by decide) (hw _ mw_6_68) (fun _ h9 => h9) rfl dX12_count_112 ?_
    refine lv_iconst (v := 0) hx hb dX12_count_115 (by decide) ?_
    refine cIald hx hb hK hP 15 0 rfl rfl 0 (by decide +kernel) (cIn (by decide +kernel)) dX12_count_116 ?_
    have hP : va_P D vwCl (List.flatten (wM aM C (va_up ms 0 0) mw ma ml)) H := hP
    have hD : va_D A (List.flatten (wM aM C (va_up ms 0 0) mw ma ml)) := hD
    rw [← hQ]
    exact cRetI (v := (ma 12 0)) ((va_up ms 0 0)) hx hb hr hlocks hS hP hD h dX12_count_117
  by_cases c5_6 : p1 = 6
  · refine lv_tableIn (tgt := 118) hx hb dX12_count_8 (by rw [c5_6] <;> decide) (by rw [c5_6] <;> decide) (by rw [c5_6] <;> rfl) (by decide) ?_
    have h := h.2.2.2.2.2.2.1 c5_6
    refine lv_aload_n hx hb dX12_count_118 rfl (lv_at hl 1 rfl) ?_
    refine va_get (D := D) (ci := 12) (v := .ref (aM 6)) (C := RX12) (T := TX12) (N := 51) hx hb hw inW_X12 hown hK hP 0 rfl rfl 16 (by decide) (hw _ mw_6_59) (fun _ h9 => h9) rfl dX12_count_119 ?_
    refine lv_iconst (v := 0) hx hb dX12_count_122 (by decide) ?_
    refine cIald hx hb hK hP 6 0 rfl rfl 0 (by decide +kernel) (cIn (by decide +kernel)) dX12_count_123 ?_
    have hP : va_P D vwCl (List.flatten (wM aM C (va_up ms 0 0) mw ma ml)) H := hP
    have hD : va_D A (List.flatten (wM aM C (va_up ms 0 0) mw ma ml)) := hD
    rw [← hQ]
    exact cRetI (v := (ma 3 0)) ((va_up ms 0 0)) hx hb hr hlocks hS hP hD h dX12_count_124
  by_cases c5_7 : p1 = 7
  · refine lv_tableIn (tgt := 125) hx hb dX12_count_8 (by rw [c5_7] <;> decide) (by rw [c5_7] <;> decide) (by rw [c5_7] <;> rfl) (by decide) ?_
    have h := h.2.2.2.2.2.2.2.1 c5_7
    refine lv_aload_n hx hb dX12_count_125 rfl (lv_at hl 1 rfl) ?_
    refine va_get (D := D) (ci := 12) (v := .int (ms 1)) (C := RX12) (T := TX12) (N := 51) hx hb hw inW_X12 hown hK hP 0 rfl rfl 6 (by decide) (hw _ mw_6_49) (fun _ h9 => h9) rfl dX12_count_126 ?_
    have hP : va_P D vwCl (List.flatten (wM aM C (va_up ms 0 0) mw ma ml)) H := hP
    have hD : va_D A (List.flatten (wM aM C (va_up ms 0 0) mw ma ml)) := hD
    rw [← hQ]
    exact cRetI (v := (ms 1)) ((va_up ms 0 0)) hx hb hr hlocks hS hP hD h dX12_count_129
  by_cases c5_8 : p1 = 8
  · refine lv_tableIn (tgt := 130) hx hb dX12_count_8 (by rw [c5_8] <;> decide) (by rw [c5_8] <;> decide) (by rw [c5_8] <;> rfl) (by decide) ?_
    have h := h.2.2.2.2.2.2.2.2.1 c5_8
    refine lv_aload_n hx hb dX12_count_130 rfl (lv_at hl 1 rfl) ?_
    refine lv_iconst (v := 0) hx hb dX12_count_131 (by decide) ?_
    have hP : va_P D vwCl (List.flatten (wM aM C (va_up ms 0 0) mw ma ml)) H := hP
    have hD : va_D A (List.flatten (wM aM C (va_up ms 0 0) mw ma ml)) := hD
    refine cGoAI (cRunAV (As := [.int 0]) (rest := []) ⟨hx, hb, hml, hown, hw⟩ hK hN hP hD (k_X12_markedOn l D C _ aM  (va_up ms 0 0) mw ma ml 0 h) (cwV 1 hw (goodV mw_7_172 mw_7_174 mw_s137 mw_1_13 mw_7_175) rfl rfl rfl (by decide +kernel) ⟨Nat.le_of_ble_eq_true rfl, Nat.le_of_ble_eq_true rfl⟩) rfl rfl rfl hl.1 rfl (Nat.le_of_ble_eq_true rfl) dX12_count_132 ⟨Nat.zero_le _, Nat.zero_le _⟩) hP hD hS hA (fun r6 u H locs h hP hD hS => ?_)
    have hP : va_P D vwCl (List.flatten (wM aM C (va_up ms 0 0) mw ma ml)) H := hP
    have hD : va_D A (List.flatten (wM aM C (va_up ms 0 0) mw ma ml)) := hD
    rw [← hQ]
    exact cRetI (v := r6) ((va_up ms 0 0)) hx hb hr hlocks hS hP hD h dX12_count_135
  by_cases c5_9 : p1 = 9
  · refine lv_tableIn (tgt := 136) hx hb dX12_count_8 (by rw [c5_9] <;> decide) (by rw [c5_9] <;> decide) (by rw [c5_9] <;> rfl) (by decide) ?_
    have h := h.2.2.2.2.2.2.2.2.2.1 c5_9
    refine lv_aload_n hx hb dX12_count_136 rfl (lv_at hl 1 rfl) ?_
    refine va_get (D := D) (ci := 12) (v := .ref (aM 17)) (C := RX12) (T := TX12) (N := 51) hx hb hw inW_X12 hown hK hP 0 rfl rfl 27 (by decide) (hw _ mw_6_70) (fun _ h9 => h9) rfl dX12_count_137 ?_
    refine lv_bipush (v := 6) hx hb dX12_count_140 (by decide) ?_
    refine cIald hx hb hK hP 17 0 rfl rfl 6 (by decide +kernel) (cIn (by decide +kernel)) dX12_count_142 ?_
    have hP : va_P D vwCl (List.flatten (wM aM C (va_up ms 0 0) mw ma ml)) H := hP
    have hD : va_D A (List.flatten (wM aM C (va_up ms 0 0) mw ma ml)) := hD
    rw [← hQ]
    exact cRetI (v := (ma 14 6)) ((va_up ms 0 0)) hx hb hr hlocks hS hP hD h dX12_count_143
  by_cases c5_10 : p1 = 10
  · refine lv_tableIn (tgt := 144) hx hb dX12_count_8 (by rw [c5_10] <;> decide) (by rw [c5_10] <;> decide) (by rw [c5_10] <;> rfl) (by decide) ?_
    have h := h.2.2.2.2.2.2.2.2.2.2.1 c5_10
    refine lv_aload_n hx hb dX12_count_144 rfl (lv_at hl 1 rfl) ?_
    have hP : va_P D vwCl (List.flatten (wM aM C (va_up ms 0 0) mw ma ml)) H := hP
    have hD : va_D A (List.flatten (wM aM C (va_up ms 0 0) mw ma ml)) := hD
    refine cGoAI (cRunAV (As := []) (rest := []) ⟨hx, hb, hml, hown, hw⟩ hK hN hP hD (k_X12_isRail l D C _ aM  (va_up ms 0 0) mw ma ml  h) (cwV 0 hw (goodV mw_7_204 mw_7_206 mw_s142 mw_1_13 mw_7_207) rfl rfl rfl (by decide +kernel) ⟨Nat.le_of_ble_eq_true rfl, Nat.le_of_ble_eq_true rfl⟩) rfl rfl rfl hl.1 rfl (Nat.le_of_ble_eq_true rfl) dX12_count_145 ⟨Nat.zero_le _, Nat.zero_le _⟩) hP hD hS hA (fun r7 u H locs h hP hD hS => ?_)
    have hP : va_P D vwCl (List.flatten (wM aM C (va_up ms 0 0) mw ma ml)) H := hP
    have hD : va_D A (List.flatten (wM aM C (va_up ms 0 0) mw ma ml)) := hD
    refine lv_if_eq (tgt := 158) hx hb dX12_count_148 (by decide) (fun c8 => ?_) (fun c8 => ?_)
    · have h := h.1 c8
      refine lv_iconst (v := 0) hx hb dX12_count_158 (by decide) ?_
      rw [← hQ]
      exact cRetI (v := 0) ((va_up ms 0 0)) hx hb hr hlocks hS hP hD h dX12_count_159
    · have h := h.2 c8
      refine lv_aload_n hx hb dX12_count_151 rfl (lv_at hl 1 rfl) ?_
      refine cGoAI (cRunAV (As := []) (rest := []) ⟨hx, hb, hml, hown, hw⟩ hK hN hP hD (k_X12_optionMany l D C _ aM  (va_up ms 0 0) mw ma ml  h) (cwV 0 hw (goodV mw_8_40 mw_8_42 mw_s153 mw_1_13 mw_8_43) rfl rfl rfl (by decide +kernel) ⟨Nat.le_of_ble_eq_true rfl, Nat.le_of_ble_eq_true rfl⟩) rfl rfl rfl hl.1 rfl (Nat.le_of_ble_eq_true rfl) dX12_count_152 ⟨Nat.zero_le _, Nat.zero_le _⟩) hP hD hS hA (fun r9 u H locs h hP hD hS => ?_)
      have hP : va_P D vwCl (List.flatten (wM aM C (va_up ms 0 0) mw ma ml)) H := hP
      have hD : va_D A (List.flatten (wM aM C (va_up ms 0 0) mw ma ml)) := hD
      refine lv_goto (tgt := 159) hx hb dX12_count_155 (by decide) ?_
      rw [← hQ]
      exact cRetI (v := r9) ((va_up ms 0 0)) hx hb hr hlocks hS hP hD h dX12_count_159
  by_cases c5_11 : p1 = 11
  · refine lv_tableIn (tgt := 160) hx hb dX12_count_8 (by rw [c5_11] <;> decide) (by rw [c5_11] <;> decide) (by rw [c5_11] <;> rfl) (by decide) ?_
    have h := h.2.2.2.2.2.2.2.2.2.2.2.1 c5_11
    refine lv_aload_n hx hb dX12_count_160 rfl (lv_at hl 1 rfl) ?_
    refine va_get (D := D) (ci := 12) (v := .ref (aM 19)) (C := RX12) (T := TX12) (N := 51) hx hb hw inW_X12 hown hK hP 0 rfl rfl 29 (by decide) (hw _ mw_6_72) (fun _ h9 => h9) rfl dX12_count_161 ?_
    refine lv_iconst (v := 0) hx hb dX12_count_164 (by decide) ?_
    refine cIald hx hb hK hP 19 0 rfl rfl 0 (by decide +kernel) (cIn (by decide +kernel)) dX12_count_165 ?_
    have hP : va_P D vwCl (List.flatten (wM aM C (va_up ms 0 0) mw ma ml)) H := hP
    have hD : va_D A (List.flatten (wM aM C (va_up ms 0 0) mw ma ml)) := hD
    rw [← hQ]
    exact cRetI (v := (ma 16 0)) ((va_up ms 0 0)) hx hb hr hlocks hS hP hD h dX12_count_166
  by_cases c5_12 : p1 = 12
  · refine lv_tableIn (tgt := 167) hx hb dX12_count_8 (by rw [c5_12] <;> decide) (by rw [c5_12] <;> decide) (by rw [c5_12] <;> rfl) (by decide) ?_
    have h := h.2.2.2.2.2.2.2.2.2.2.2.2.1 c5_12
    refine lv_iconst (v := 0) hx hb dX12_count_167 (by decide) ?_
    refine lv_istore_n (lv' := [(3, .int 0), (2, .int 0), (0, .ref (aM 0)), (1, .int p1)]) hx hb dX12_count_168 rfl hl (by decide) rfl (fun ls hl => ?_)
    have hP : va_P D vwCl (List.flatten (wM aM C (va_up ms 0 0) mw ma ml)) H := hP
    have hD : va_D A (List.flatten (wM aM C (va_up ms 0 0) mw ma ml)) := hD
    obtain ⟨n, h⟩ := h
    exact N169 (va_up ms 0 0) n 0 0 _ _ _ h hP hD hS (lv_sub hl [2, 1, 0] rfl)
  refine lv_tableOut (tgt := 200) hx hb dX12_count_8 (sw_out13 c5_0 c5_1 c5_2 c5_3 c5_4 c5_5 c5_6 c5_7 c5_8 c5_9 c5_10 c5_11 c5_12) (by decide) ?_
  have h := h.2.2.2.2.2.2.2.2.2.2.2.2.2 c5_0 c5_1 c5_2 c5_3 c5_4 c5_5 c5_6 c5_7 c5_8 c5_9 c5_10 c5_11 c5_12
  refine lv_iconst (v := (-1)) hx hb dX12_count_200 (by decide) ?_
  have hP : va_P D vwCl (List.flatten (wM aM C (va_up ms 0 0) mw ma ml)) H := hP
  have hD : va_D A (List.flatten (wM aM C (va_up ms 0 0) mw ma ml)) := hD
  rw [← hQ]
  exact cRetI (v := (-1)) ((va_up ms 0 0)) hx hb hr hlocks hS hP hD h dX12_count_201
abbrev vsX12_keep : List Cond := Cond.code yX12_keep cX12_keep 2 (some .int) :: WS
abbrev rmX12_keep : Room := { frames := 2, cells := 0, slots := 0, locals := 46 }
set_option maxHeartbeats 4000000 in
set_option maxRecDepth 100000 in
theorem k_X12_keep (l : Launch) (D : va_G) (C : Nat → ClassId) (sz : Nat) (aM : Nat → Nat)  (ms : Nat → Int32) (mw : Nat → Int64) (ma : Nat → Nat → Int32) (ml : Nat → Nat → Int64) (p1 : Int32) {post : Int32 → (Nat → Int32) → (Nat → Nat → Int32) → Prop} (h : P_X12_keep ms ma p1 post) : Met l yX12_keep vsX12_keep rmX12_keep (cPre D C [.ref (aM 0), .int p1] sz (wM aM C ms mw ma ml)) (cQi D (fun (r : Int32) (u : (Nat → Int32) × (Nat → Nat → Int32)) => post r u.1 u.2) (fun u => wM aM C u.1 mw u.2 ml) (va_A (List.flatten (wM aM C ms mw ma ml)) sz)) 0 0 (va_A (List.flatten (wM aM C ms mw ma ml)) sz) := by
  refine cStart (QA := fun A => cQi D (fun (r : Int32) (u : (Nat → Int32) × (Nat → Nat → Int32)) => post r u.1 u.2) (fun u => wM aM C u.1 mw u.2 ml) A) (cc := cX12_keep) (maxL := 2) (ret := (some .int)) (by decide) (Nat.le_of_ble_eq_true rfl) ?_
  intro p e s m args below meth c A ls hx hb hr hml hown hw hlocks hname hK hN hA hP hD hS hl
  generalize hQ : MQ below _ args s 0 0 A = Q
  have hl : lv_has ls 2 [(0, .ref (aM 0)), (1, .int p1)] := hl
  obtain ⟨H, hH⟩ : ∃ H, H = s.heap := ⟨_, rfl⟩
  obtain ⟨locs, hlo⟩ : ∃ z : List Loc, z = [] := ⟨_, rfl⟩
  have hP : va_P D vwCl (List.flatten (wM aM C ms mw ma ml)) H := by rw [hH]; exact hP
  have hS : va_S A s.heap H locs := by rw [hH, hlo]; exact hS
  rw [show W p l e rmX12_keep s m args below meth c s.heap [] 0 0 Q (F0 m 0 ls []) = W p l e rmX12_keep s m args below meth c H locs 0 0 Q (F0 m 0 ls []) from by rw [hH, hlo]]
  refine lv_aload_n hx hb dX12_keep_0 rfl (lv_at hl 0 rfl) ?_
  refine lv_iconst (v := 0) hx hb dX12_keep_1 (by decide) ?_
  refine va_put (D := D) (ci := 12) (v := .int 0) (ty := .int) (C := RX12) (T := TX12) (N := 51) hx hb hw inW_X12 tyX12 tyX12_ok nmX12 hown hK hP hD hS 0 rfl rfl 0 (by decide) (hw _ mw_6_43) (fun _ h9 => h9) rfl (by decide +kernel) rfl rfl (Nat.le_of_ble_eq_true rfl) dX12_keep_2 (fun H locs hP hD hS => ?_)
  refine lv_iload_n hx hb dX12_keep_5 rfl (lv_at hl 1 rfl) ?_
  refine lv_i2l hx hb dX12_keep_6 rfl ?_
  refine lv_lconst (v := 0) hx hb dX12_keep_7 (by decide) ?_
  refine lv_ldc2 (v := 2) hx hb hown (hw _ mw_8_1) dX12_keep_8 ?_
  have hP : va_P D vwCl (List.flatten (wM aM C (va_up ms 0 0) mw ma ml)) H := hP
  have hD : va_D A (List.flatten (wM aM C (va_up ms 0 0) mw ma ml)) := hD
  refine cGoEI (cRunES (As := [.long p1.toInt64, .long 0, .long 2]) (rest := []) ⟨hx, hb, hml, hown, hw⟩ hK hN hP hD (k_X12_in l D C _    p1.toInt64 0 2 h) (va_cwS 3 hw (goodS mw_6_205 mw_6_206 mw_1_13 mw_6_207) rfl rfl rfl (by decide +kernel) ⟨Nat.le_of_ble_eq_true rfl, Nat.le_of_ble_eq_true rfl⟩) rfl hl.1 rfl (Nat.le_of_ble_eq_true rfl) dX12_keep_11 ⟨Nat.zero_le _, Nat.zero_le _⟩) hP hD hS hA (fun r1 u H locs h hP hD hS => ?_)
  have hP : va_P D vwCl (List.flatten (wM aM C (va_up ms 0 0) mw ma ml)) H := hP
  have hD : va_D A (List.flatten (wM aM C (va_up ms 0 0) mw ma ml)) := hD
  refine lv_if_ne (tgt := 20) hx hb dX12_keep_14 (by decide) (fun c2 => ?_) (fun c2 => ?_)
  · have h := h.1 c2
    refine lv_aload_n hx hb dX12_keep_20 rfl (lv_at hl 0 rfl) ?_
    refine lv_iconst (v := 0) hx hb dX12_keep_21 (by decide) ?_
    refine lv_iconst (v := 1) hx hb dX12_keep_22 (by decide) ?_
    refine lv_iload_n hx hb dX12_keep_23 rfl (lv_at hl 1 rfl) ?_
    refine lv_iadd hx hb dX12_keep_24 ?_
    refine cGoAV (cRunAV (As := [.int 0, .int (1 + p1)]) (rest := []) ⟨hx, hb, hml, hown, hw⟩ hK hN hP hD (k_X12_copyRail l D C _ aM  (va_up ms 0 0) mw ma ml 0 (1 + p1) h) (cwV 2 hw (goodV mw_7_114 mw_7_116 mw_s130 mw_1_13 mw_7_117) rfl rfl rfl (by decide +kernel) ⟨Nat.le_of_ble_eq_true rfl, Nat.le_of_ble_eq_true rfl⟩) rfl rfl rfl hl.1 rfl (Nat.le_of_ble_eq_true rfl) dX12_keep_25 ⟨Nat.zero_le _, Nat.zero_le _⟩) hP hD hS hA (fun ma_3 H locs h hP hD hS => ?_)
    have hP : va_P D vwCl (List.flatten (wM aM C (va_up ms 0 0) mw ma_3 ml)) H := hP
    have hD : va_D A (List.flatten (wM aM C (va_up ms 0 0) mw ma_3 ml)) := hD
    refine lv_aload_n hx hb dX12_keep_28 rfl (lv_at hl 0 rfl) ?_
    refine va_get (D := D) (ci := 12) (v := .ref (aM 20)) (C := RX12) (T := TX12) (N := 51) hx hb hw inW_X12 hown hK hP 0 rfl rfl 30 (by decide) (hw _ mw_6_73) (fun _ h9 => h9) rfl dX12_keep_29 ?_
    refine lv_iload_n hx hb dX12_keep_32 rfl (lv_at hl 1 rfl) ?_
    refine lv_iconst (v := 1) hx hb dX12_keep_33 (by decide) ?_
    refine cZast hx hb hK hP hD hS 20 3 rfl rfl p1.toNatClampNeg rfl h.1 (Or.inr rfl) dX12_keep_34 (fun H locs hP hD hS => ?_)
    have h := h.2
    refine lv_iconst (v := 0) hx hb dX12_keep_35 (by decide) ?_
    have hP : va_P D vwCl (List.flatten (wM aM C (va_up ms 0 0) mw (va_up ma_3 17 (upd (ma_3 17) p1.toNatClampNeg 1)) ml)) H := hP
    have hD : va_D A (List.flatten (wM aM C (va_up ms 0 0) mw (va_up ma_3 17 (upd (ma_3 17) p1.toNatClampNeg 1)) ml)) := hD
    rw [← hQ]
    exact cRetI (v := 0) ((va_up ms 0 0), (va_up ma_3 17 (upd (ma_3 17) p1.toNatClampNeg 1))) hx hb hr hlocks hS hP hD h dX12_keep_36
  · have h := h.2 c2
    refine lv_bipush (v := (-2)) hx hb dX12_keep_17 (by decide) ?_
    rw [← hQ]
    exact cRetI (v := (-2)) ((va_up ms 0 0), ma) hx hb hr hlocks hS hP hD h dX12_keep_19
