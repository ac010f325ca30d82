abbrev vsX12_takes_ : List Cond := Cond.code yX12_takes_ cX12_takes_ 3 (some .int) :: WS
abbrev rmX12_takes_ : Room := { frames := 4, cells := 0, slots := 0, locals := 95 }
set_option maxHeartbeats 4000000 in
set_option maxRecDepth 100000 in
theorem k_X12_takes_ (l : Launch) (D : va_G) (C : Nat → ClassId) (sz : Nat) (aM : Nat → Nat)  (ms : Nat → Int32) (mw : Nat → Int64) (ma : Nat → Nat → Int32) (ml : Nat → Nat → Int64) (p1 : Int32) (p2 : Int32) {post : Int32 → (Nat → Int32) → (Nat → Nat → Int32) → Prop} (h : P_X12_takes_ ms ma p1 p2 post) : Met l yX12_takes_ vsX12_takes_ rmX12_takes_ (cPre D C [.ref (aM 0), .int p1, .int p2] sz (wM aM C ms mw ma ml)) (cQi D (fun (r : Int32) (u : (Nat → Int32) × (Nat → Nat → Int32)) => post r u.1 u.2) (fun u => wM aM C u.1 mw u.2 ml) (va_A (List.flatten (wM aM C ms mw ma ml)) sz)) 0 0 (va_A (List.flatten (wM aM C ms mw ma ml)) sz) := by
  refine cStart (QA := fun A => cQi D (fun (r : Int32) (u : (Nat → Int32) × (Nat → Nat → Int32)) => post r u.1 u.2) (fun u => wM aM C u.1 mw u.2 ml) A) (cc := cX12_takes_) (maxL := 3) (ret := (some .int)) (by decide) (Nat.le_of_ble_eq_true rfl) ?_
  intro p e s m args below meth c A ls hx hb hr hml hown hw hlocks hname hK hN hA hP hD hS hl
  generalize hQ : MQ below _ args s 0 0 A = Q
  have hl : lv_has ls 3 [(0, .ref (aM 0)), (1, .int p1), (2, .int p2)] := hl
  obtain ⟨H, hH⟩ : ∃ H, H = s.heap := ⟨_, rfl⟩
  obtain ⟨locs, hlo⟩ : ∃ z : List Loc, z = [] := ⟨_, rfl⟩
  have hP : va_P D vwCl (List.flatten (wM aM C ms mw ma ml)) H := by rw [hH]; exact hP
  have hS : va_S A s.heap H locs := by rw [hH, hlo]; exact hS
  rw [show W p l e rmX12_takes_ s m args below meth c s.heap [] 0 0 Q (F0 m 0 ls []) = W p l e rmX12_takes_ s m args below meth c H locs 0 0 Q (F0 m 0 ls []) from by rw [hH, hlo]]
  refine lv_aload_n hx hb dX12_takes__0 rfl (lv_at hl 0 rfl) ?_
  refine lv_iconst (v := 0) hx hb dX12_takes__1 (by decide) ?_
  refine va_put (D := D) (ci := 12) (v := .int 0) (ty := .int) (C := RX12) (T := TX12) (N := 51) hx hb hw inW_X12 tyX12 tyX12_ok nmX12 hown hK hP hD hS 0 rfl rfl 0 (by decide) (hw _ mw_6_43) (fun _ h9 => h9) rfl (by decide +kernel) rfl rfl (Nat.le_of_ble_eq_true rfl) dX12_takes__2 (fun H locs hP hD hS => ?_)
  refine lv_aload_n hx hb dX12_takes__5 rfl (lv_at hl 0 rfl) ?_
  refine lv_iload_n hx hb dX12_takes__6 rfl (lv_at hl 1 rfl) ?_
  have hP : va_P D vwCl (List.flatten (wM aM C (va_up ms 0 0) mw ma ml)) H := hP
  have hD : va_D A (List.flatten (wM aM C (va_up ms 0 0) mw ma ml)) := hD
  refine cGoI (wo := fun u => wM aM C (va_up ms 0 0) mw ma ml) (cRunV (As := [.int p1]) (rest := []) ⟨hx, hb, hml, hown, hw⟩ hK hN hP hD [0, 1, 2, 3, 4, 5, 6, 7, 8, 9, 10, 11, 12, 13, 14, 15, 16, 17, 18, 19, 20, 21, 22, 23, 24, 25, 26, 27, 28, 29, 30, 31, 32] rfl rfl (k_X12_isThief l D C _ aM  (va_up ms 0 0) mw ma ml p1 h) (cwV 1 hw (goodV mw_7_155 mw_7_157 mw_s134 mw_1_13 mw_7_158) rfl rfl rfl (by decide +kernel) ⟨Nat.le_of_ble_eq_true rfl, Nat.le_of_ble_eq_true rfl⟩) rfl rfl rfl hl.1 rfl (Nat.le_of_ble_eq_true rfl) dX12_takes__7 ⟨Nat.zero_le _, Nat.zero_le _⟩) hP hD hS hA [0, 1, 2, 3, 4, 5, 6, 7, 8, 9, 10, 11, 12, 13, 14, 15, 16, 17, 18, 19, 20, 21, 22, 23, 24, 25, 26, 27, 28, 29, 30, 31, 32] [] [0, 1, 2, 3, 4, 5, 6, 7, 8, 9, 10, 11, 12, 13, 14, 15, 16, 17, 18, 19, 20, 21, 22, 23, 24, 25, 26, 27, 28, 29, 30, 31, 32] rfl rfl rfl (by decide) rfl (fun _ => rfl) (fun r1 u H locs h hP hD hS => ?_)
  have hP : va_P D vwCl (List.flatten (wM aM C (va_up ms 0 0) mw ma ml)) H := hP
  have hD : va_D A (List.flatten (wM aM C (va_up ms 0 0) mw ma ml)) := hD
  refine lv_if_eq (tgt := 33) hx hb dX12_takes__10 (by decide) (fun c2 => ?_) (fun c2 => ?_)
  · have h := h.1 c2
    refine lv_bipush (v := (-2)) hx hb dX12_takes__33 (by decide) ?_
    rw [← hQ]
    exact cRetI (v := (-2)) ((va_up ms 0 0), ma) hx hb hr hlocks hS hP hD h dX12_takes__35
  · have h := h.2 c2
    refine lv_iload_n hx hb dX12_takes__13 rfl (lv_at hl 2 rfl) ?_
    refine lv_i2l hx hb dX12_takes__14 rfl ?_
    refine lv_lconst (v := 0) hx hb dX12_takes__15 (by decide) ?_
    refine lv_iconst (v := 1) hx hb dX12_takes__16 (by decide) ?_
    refine lv_aload_n hx hb dX12_takes__17 rfl (lv_at hl 0 rfl) ?_
    refine va_get (D := D) (ci := 12) (v := .ref (aM 13)) (C := RX12) (T := TX12) (N := 51) hx hb hw inW_X12 hown hK hP 0 rfl rfl 23 (by decide) (hw _ mw_6_66) (fun _ h9 => h9) rfl dX12_takes__18 ?_
    refine lv_iconst (v := 0) hx hb dX12_takes__21 (by decide) ?_
    refine cIald hx hb hK hP 13 0 rfl rfl 0 (by decide +kernel) (cIn (by decide +kernel)) dX12_takes__22 ?_
    refine lv_ishl hx hb dX12_takes__23 ?_
    refine lv_iconst (v := 1) hx hb dX12_takes__24 (by decide) ?_
    refine lv_isub hx hb dX12_takes__25 ?_
    refine lv_i2l hx hb dX12_takes__26 rfl ?_
    refine cGoI (wo := fun u => wM aM C (va_up ms 0 0) mw ma ml) (cRunS (As := [.long p2.toInt64, .long 0, .long ((((1 : Int32) <<< ((ma 10 0) &&& 31)) - 1).toInt64)]) (rest := []) ⟨hx, hb, hml, hown, hw⟩ hK hN hP hD [] rfl rfl (k_X12_in l D C _    p2.toInt64 0 ((((1 : Int32) <<< ((ma 10 0) &&& 31)) - 1).toInt64) h) (va_cwS 3 hw (goodS mw_6_205 mw_6_206 mw_1_13 mw_6_207) rfl rfl rfl (by decide +kernel) ⟨Nat.le_of_ble_eq_true rfl, Nat.le_of_ble_eq_true rfl⟩) rfl hl.1 rfl (Nat.le_of_ble_eq_true rfl) dX12_takes__27 ⟨Nat.zero_le _, Nat.zero_le _⟩) hP hD hS hA [] [0, 1, 2, 3, 4, 5, 6, 7, 8, 9, 10, 11, 12, 13, 14, 15, 16, 17, 18, 19, 20, 21, 22, 23, 24, 25, 26, 27, 28, 29, 30, 31, 32] [0, 1, 2, 3, 4, 5, 6, 7, 8, 9, 10, 11, 12, 13, 14, 15, 16, 17, 18, 19, 20, 21, 22, 23, 24, 25, 26, 27, 28, 29, 30, 31, 32] rfl rfl rfl (by decide) rfl (fun _ => rfl) (fun r3 u H locs h hP hD hS => ?_)
    have hP : va_P D vwCl (List.flatten (wM aM C (va_up ms 0 0) mw ma ml)) H := hP
    have hD : va_D A (List.flatten (wM aM C (va_up ms 0 0) mw ma ml)) := hD
    refine lv_if_ne (tgt := 36) hx hb dX12_takes__30 (by decide) (fun c4 => ?_) (fun c4 => ?_)
    · have h := h.1 c4
      refine lv_aload_n hx hb dX12_takes__36 rfl (lv_at hl 0 rfl) ?_
      refine lv_iconst (v := (-1)) hx hb dX12_takes__37 (by decide) ?_
      refine cGoV (wo := fun u => wM aM C u.1 mw u.2 ml) (cRunV (As := [.int (-1)]) (rest := []) ⟨hx, hb, hml, hown, hw⟩ hK hN hP hD [0, 1, 2, 3, 4, 5, 6, 7, 8, 9, 10, 11, 12, 13, 14, 15, 16, 17, 18, 19, 20, 21, 22, 23, 24, 25, 26, 27, 28, 29, 30, 31, 32] rfl rfl (k_X12_lays l D C _ aM  (va_up ms 0 0) mw ma ml (-1) h) (cwV 1 hw (goodV mw_7_180 mw_7_182 mw_s138 mw_1_13 mw_7_183) rfl rfl rfl (by decide +kernel) ⟨Nat.le_of_ble_eq_true rfl, Nat.le_of_ble_eq_true rfl⟩) rfl rfl rfl hl.1 rfl (Nat.le_of_ble_eq_true rfl) dX12_takes__38 ⟨Nat.zero_le _, Nat.zero_le _⟩) hP hD hS hA [0, 1, 2, 3, 4, 5, 6, 7, 8, 9, 10, 11, 12, 13, 14, 15, 16, 17, 18, 19, 20, 21, 22, 23, 24, 25, 26, 27, 28, 29, 30, 31, 32] [] [0, 1, 2, 3, 4, 5, 6, 7, 8, 9, 10, 11, 12, 13, 14, 15, 16, 17, 18, 19, 20, 21, 22, 23, 24, 25, 26, 27, 28, 29, 30, 31, 32] rfl rfl rfl (by decide) rfl (fun _ => rfl) (fun u H locs h hP hD hS => ?_)
      obtain ⟨ms_5, ma_6⟩ := u
      have hP : va_P D vwCl (List.flatten (wM aM C ms_5 mw ma_6 ml)) H := hP
      have hD : va_D A (List.flatten (wM aM C ms_5 mw ma_6 ml)) := hD
      refine lv_aload_n hx hb dX12_takes__41 rfl (lv_at hl 0 rfl) ?_
      refine lv_iload_n hx hb dX12_takes__42 rfl (lv_at hl 1 rfl) ?_
      refine lv_iload_n hx hb dX12_takes__43 rfl (lv_at hl 2 rfl) ?_
      refine cGoI (wo := fun u => wM aM C ms_5 mw ma_6 ml) (cRunV (As := [.int p1, .int p2]) (rest := []) ⟨hx, hb, hml, hown, hw⟩ hK hN hP hD [0, 1, 2, 3, 4, 5, 6, 7, 8, 9, 10, 11, 12, 13, 14, 15, 16, 17, 18, 19, 20, 21, 22, 23, 24, 25, 26, 27, 28, 29, 30, 31, 32] rfl rfl (k_X12_takesOf l D C _ aM  ms_5 mw ma_6 ml p1 p2 h) (cwV 2 hw (goodV mw_7_184 mw_7_186 mw_s139 mw_1_13 mw_7_187) rfl rfl rfl (by decide +kernel) ⟨Nat.le_of_ble_eq_true rfl, Nat.le_of_ble_eq_true rfl⟩) rfl rfl rfl hl.1 rfl (Nat.le_of_ble_eq_true rfl) dX12_takes__44 ⟨Nat.zero_le _, Nat.zero_le _⟩) hP hD hS hA [0, 1, 2, 3, 4, 5, 6, 7, 8, 9, 10, 11, 12, 13, 14, 15, 16, 17, 18, 19, 20, 21, 22, 23, 24, 25, 26, 27, 28, 29, 30, 31, 32] [] [0, 1, 2, 3, 4, 5, 6, 7, 8, 9, 10, 11, 12, 13, 14, 15, 16, 17, 18, 19, 20, 21, 22, 23, 24, 25, 26, 27, 28, 29, 30, 31, 32] rfl rfl rfl (by decide) rfl (fun _ => rfl) (fun r7 u H locs h hP hD hS => ?_)
      have hP : va_P D vwCl (List.flatten (wM aM C ms_5 mw ma_6 ml)) H := hP
      have hD : va_D A (List.flatten (wM aM C ms_5 mw ma_6 ml)) := hD
      rw [← hQ]
      exact cRetI (v := r7) (ms_5, ma_6) hx hb hr hlocks hS hP hD h dX12_takes__47
    · have h := h.2 c4
      refine lv_bipush (v := (-2)) hx hb dX12_takes__33 (by decide) ?_
      rw [← hQ]
      exact cRetI (v := (-2)) ((va_up ms 0 0), ma) hx hb hr hlocks hS hP hD h dX12_takes__35
abbrev vsX12_wantsOf : List Cond := Cond.code yX12_wantsOf cX12_wantsOf 4 (some .int) :: WS
abbrev rmX12_wantsOf : Room := { frames := 0, cells := 0, slots := 0, locals := 0 }
set_option maxHeartbeats 4000000 in
set_option maxRecDepth 100000 in
theorem k_X12_wantsOf (l : Launch) (D : va_G) (C : Nat → ClassId) (sz : Nat) (aM : Nat → Nat)  (ms : Nat → Int32) (mw : Nat → Int64) (ma : Nat → Nat → Int32) (ml : Nat → Nat → Int64) (p1 : Int32) {post : Int32 → Prop} (h : P_X12_wantsOf ma p1 post) : Met l yX12_wantsOf vsX12_wantsOf rmX12_wantsOf (cPre D C [.ref (aM 0), .int p1] sz (wM aM C ms mw ma ml)) (cQi D (fun (r : Int32) (u : Unit) => post r ) (fun u => wM aM C ms mw ma ml) (va_A (List.flatten (wM aM C ms mw ma ml)) sz)) 0 0 (va_A (List.flatten (wM aM C ms mw ma ml)) sz) := by
  refine cStart (QA := fun A => cQi D (fun (r : Int32) (u : Unit) => post r ) (fun u => wM aM C ms mw ma ml) A) (cc := cX12_wantsOf) (maxL := 4) (ret := (some .int)) (by decide) (Nat.le_of_ble_eq_true rfl) ?_
  intro p e s m args below meth c A ls hx hb hr hml hown hw hlocks hname hK hN hA hP hD hS hl
  generalize hQ : MQ below _ args s 0 0 A = Q
  have hl : lv_has ls 4 [(0, .ref (aM 0)), (1, .int p1)] := hl
  obtain ⟨H, hH⟩ : ∃ H, H = s.heap := ⟨_, rfl⟩
  obtain ⟨locs, hlo⟩ : ∃ z : List Loc, z = [] := ⟨_, rfl⟩
  have hP : va_P D vwCl (List.flatten (wM aM C ms mw ma ml)) H := by rw [hH]; exact hP
  have hS : va_S A s.heap H locs := by rw [hH, hlo]; exact hS
  rw [show W p l e rmX12_wantsOf s m args below meth c s.heap [] 0 0 Q (F0 m 0 ls []) = W p l e rmX12_wantsOf s m args below meth c H locs 0 0 Q (F0 m 0 ls []) from by rw [hH, hlo]]
  have N4 : ∀  (n4 : Nat) (x2_ : Int32) (x3_ : Int32) (H : Heap) (locs : List Loc) (ls : Array Slot), P_X12_wantsOf_4 ma p1 post   n4 x2_ x3_ → va_P D vwCl (List.flatten (wM aM C ms mw ma ml)) H → va_D A (List.flatten (wM aM C ms mw ma ml)) → va_S A s.heap H locs → lv_has ls 4 [(0, .ref (aM 0)), (1, .int p1), (2, .int x2_), (3, .int x3_)] → W p l e rmX12_wantsOf s m args below meth c H locs 0 0 Q (F0 m 4 ls []) := by
    intro n4
    induction n4 with
    | zero => intro x2_ x3_ H locs ls h hP hD hS hl; exact False.elim h
    | succ n4 ih4 =>
      intro x2_ x3_ H locs ls h hP hD hS hl
      refine lv_iload_n hx hb dX12_wantsOf_4 rfl (lv_at hl 3 rfl) ?_
      refine lv_aload_n hx hb dX12_wantsOf_5 rfl (lv_at hl 0 rfl) ?_
      refine va_get (D := D) (ci := 12) (v := .ref (aM 13)) (C := RX12) (T := TX12) (N := 51) hx hb hw inW_X12 hown hK hP 0 rfl rfl 23 (by decide) (hw _ mw_6_66) (fun _ h9 => h9) rfl dX12_wantsOf_6 ?_
      refine lv_iconst (v := 0) hx hb dX12_wantsOf_9 (by decide) ?_
      refine cIald hx hb hK hP 13 0 rfl rfl 0 (by decide +kernel) (cIn (by decide +kernel)) dX12_wantsOf_10 ?_
      refine lv_icmp_ge (tgt := 42) hx hb dX12_wantsOf_11 (by decide) (fun c1 => ?_) (fun c1 => ?_)
      · have h := h.1 c1
        refine lv_iload_n hx hb dX12_wantsOf_42 rfl (lv_at hl 2 rfl) ?_
        rw [← hQ]
        exact cRetI (v := x2_) () hx hb hr hlocks hS hP hD h dX12_wantsOf_43
      · have h := h.2 c1
        refine lv_iload_n hx hb dX12_wantsOf_14 rfl (lv_at hl 2 rfl) ?_
        refine lv_aload_n hx hb dX12_wantsOf_15 rfl (lv_at hl 0 rfl) ?_
        refine va_get (D := D) (ci := 12) (v := .ref (aM 22)) (C := RX12) (T := TX12) (N := 51) hx hb hw inW_X12 hown hK hP 0 rfl rfl 34 (by decide) (hw _ mw_6_77) (fun _ h9 => h9) rfl dX12_wantsOf_16 ?_
        refine lv_bipush (v := 11) hx hb dX12_wantsOf_19 (by decide) ?_
        refine lv_iload_n hx hb dX12_wantsOf_21 rfl (lv_at hl 1 rfl) ?_
        refine lv_imul hx hb dX12_wantsOf_22 ?_
        refine lv_iload_n hx hb dX12_wantsOf_23 rfl (lv_at hl 3 rfl) ?_
        refine lv_iadd hx hb dX12_wantsOf_24 ?_
        refine cIald hx hb hK hP 22 0 rfl rfl (((11 * p1) + x3_).toNatClampNeg) rfl h.1 dX12_wantsOf_25 ?_
        have h := h.2
        refine lv_if_le (tgt := 33) hx hb dX12_wantsOf_26 (by decide) (fun c2 => ?_) (fun c2 => ?_)
        · have h := h.1 c2
          refine lv_iconst (v := 0) hx hb dX12_wantsOf_33 (by decide) ?_
          refine lv_iadd hx hb dX12_wantsOf_34 ?_
          refine lv_topi (fun x3 ex3 => ?_)
          have h := h x3 ex3
          refine lv_istore_n (lv' := [(2, .int x3), (0, .ref (aM 0)), (1, .int p1), (3, .int x3_)]) hx hb dX12_wantsOf_35 rfl hl (by decide) rfl (fun ls hl => ?_)
          refine lv_iinc (v := (x3_ + 1)) (lv' := [(3, .int (x3_ + 1)), (2, .int x3), (0, .ref (aM 0)), (1, .int p1)]) hx hb dX12_wantsOf_36 hl (k := 3) rfl rfl (by decide) rfl (fun ls hl => ?_)
          refine lv_goto (tgt := 4) hx hb dX12_wantsOf_39 (by decide) ?_
          exact ih4 x3 (x3_ + 1) _ _ _ h hP hD hS (lv_sub hl [2, 3, 1, 0] rfl)
        · have h := h.2 c2
          refine lv_iconst (v := 1) hx hb dX12_wantsOf_29 (by decide) ?_
          refine lv_goto (tgt := 34) hx hb dX12_wantsOf_30 (by decide) ?_
          refine lv_iadd hx hb dX12_wantsOf_34 ?_
          refine lv_topi (fun x4 ex4 => ?_)
          have h := h x4 ex4
          refine lv_istore_n (lv' := [(2, .int x4), (0, .ref (aM 0)), (1, .int p1), (3, .int x3_)]) hx hb dX12_wantsOf_35 rfl hl (by decide) rfl (fun ls hl => ?_)
          refine lv_iinc (v := (x3_ + 1)) (lv' := [(3, .int (x3_ + 1)), (2, .int x4), (0, .ref (aM 0)), (1, .int p1)]) hx hb dX12_wantsOf_36 hl (k := 3) rfl rfl (by decide) rfl (fun ls hl => ?_)
          refine lv_goto (tgt := 4) hx hb dX12_wantsOf_39 (by decide) ?_
          exact ih4 x4 (x3_ + 1) _ _ _ h hP hD hS (lv_sub hl [2, 3, 1, 0] rfl)
  refine lv_iconst (v := 0) hx hb dX12_wantsOf_0 (by decide) ?_
  refine lv_istore_n (lv' := [(2, .int 0), (0, .ref (aM 0)), (1, .int p1)]) hx hb dX12_wantsOf_1 rfl hl (by decide) rfl (fun ls hl => ?_)
  refine lv_iconst (v := 0) hx hb dX12_wantsOf_2 (by decide) ?_
  refine lv_istore_n (lv' := [(3, .int 0), (2, .int 0), (0, .ref (aM 0)), (1, .int p1)]) hx hb dX12_wantsOf_3 rfl hl (by decide) rfl (fun ls hl => ?_)
  obtain ⟨n, h⟩ := h
  exact N4  n 0 0 _ _ _ h hP hD hS (lv_sub hl [2, 3, 1, 0] rfl)
abbrev vsX12_wants : List Cond := Cond.code yX12_wants cX12_wants 2 (some .int) :: WS
abbrev rmX12_wants : Room := { frames := 4, cells := 0, slots := 0, locals := 95 }
set_option maxHeartbeats 4000000 in
set_option maxRecDepth 100000 in
theorem k_X12_wants (l : Launch) (D : va_G) (C : Nat → ClassId) (sz : Nat) (aM : Nat → Nat)  (ms : Nat → Int32) (mw : Nat → Int64) (ma : Nat → Nat → Int32) (ml : Nat → Nat → Int64) (p1 : Int32) {post : Int32 → (Nat → Int32) → (Nat → Nat → Int32) → Prop} (h : P_X12_wants ms ma p1 post) : Met l yX12_wants vsX12_wants rmX12_wants (cPre D C [.ref (aM 0), .int p1] sz (wM aM C ms mw ma ml)) (cQi D (fun (r : Int32) (u : (Nat → Int32) × (Nat → Nat → Int32)) => post r u.1 u.2) (fun u => wM aM C u.1 mw u.2 ml) (va_A (List.flatten (wM aM C ms mw ma ml)) sz)) 0 0 (va_A (List.flatten (wM aM C ms mw ma ml)) sz) := by
  refine cStart (QA := fun A => cQi D (fun (r : Int32) (u : (Nat → Int32) × (Nat → Nat → Int32)) => post r u.1 u.2) (fun u => wM aM C u.1 mw u.2 ml) A) (cc := cX12_wants) (maxL := 2) (ret := (some .int)) (by decide) (Nat.le_of_ble_eq_true rfl) ?_
  intro p e s m args below meth c A ls hx hb hr hml hown hw hlocks hname hK hN hA hP hD hS hl
  generalize hQ : MQ below _ args s 0 0 A = Q
  have hl : lv_has ls 2 [(0, .ref (aM 0)), (1, .int p1)] := hl
  obtain ⟨H, hH⟩ : ∃ H, H = s.heap := ⟨_, rfl⟩
  obtain ⟨locs, hlo⟩ : ∃ z : List Loc, z = [] := ⟨_, rfl⟩
  have hP : va_P D vwCl (List.flatten (wM aM C ms mw ma ml)) H := by rw [hH]; exact hP
  have hS : va_S A s.heap H locs := by rw [hH, hlo]; exact hS
  rw [show W p l e rmX12_wants s m args below meth c s.heap [] 0 0 Q (F0 m 0 ls []) = W p l e rmX12_wants s m args below meth c H locs 0 0 Q (F0 m 0 ls []) from by rw [hH, hlo]]
  refine lv_aload_n hx hb dX12_wants_0 rfl (lv_at hl 0 rfl) ?_
  refine lv_iconst (v := 0) hx hb dX12_wants_1 (by decide) ?_
  refine va_put (D := D) (ci := 12) (v := .int 0) (ty := .int) (C := RX12) (T := TX12) (N := 51) hx hb hw inW_X12 tyX12 tyX12_ok nmX12 hown hK hP hD hS 0 rfl rfl 0 (by decide) (hw _ mw_6_43) (fun _ h9 => h9) rfl (by decide +kernel) rfl rfl (Nat.le_of_ble_eq_true rfl) dX12_wants_2 (fun H locs hP hD hS => ?_)
  refine lv_aload_n hx hb dX12_wants_5 rfl (lv_at hl 0 rfl) ?_
  refine lv_iload_n hx hb dX12_wants_6 rfl (lv_at hl 1 rfl) ?_
  have hP : va_P D vwCl (List.flatten (wM aM C (va_up ms 0 0) mw ma ml)) H := hP
  have hD : va_D A (List.flatten (wM aM C (va_up ms 0 0) mw ma ml)) := hD
  refine cGoI (wo := fun u => wM aM C (va_up ms 0 0) mw ma ml) (cRunV (As := [.int p1]) (rest := []) ⟨hx, hb, hml, hown, hw⟩ hK hN hP hD [0, 1, 2, 3, 4, 5, 6, 7, 8, 9, 10, 11, 12, 13, 14, 15, 16, 17, 18, 19, 20, 21, 22, 23, 24, 25, 26, 27, 28, 29, 30, 31, 32] rfl rfl (k_X12_isThief l D C _ aM  (va_up ms 0 0) mw ma ml p1 h) (cwV 1 hw (goodV mw_7_155 mw_7_157 mw_s134 mw_1_13 mw_7_158) rfl rfl rfl (by decide +kernel) ⟨Nat.le_of_ble_eq_true rfl, Nat.le_of_ble_eq_true rfl⟩) rfl rfl rfl hl.1 rfl (Nat.le_of_ble_eq_true rfl) dX12_wants_7 ⟨Nat.zero_le _, Nat.zero_le _⟩) hP hD hS hA [0, 1, 2, 3, 4, 5, 6, 7, 8, 9, 10, 11, 12, 13, 14, 15, 16, 17, 18, 19, 20, 21, 22, 23, 24, 25, 26, 27, 28, 29, 30, 31, 32] [] [0, 1, 2, 3, 4, 5, 6, 7, 8, 9, 10, 11, 12, 13, 14, 15, 16, 17, 18, 19, 20, 21, 22, 23, 24, 25, 26, 27, 28, 29, 30, 31, 32] rfl rfl rfl (by decide) rfl (fun _ => rfl) (fun r1 u H locs h hP hD hS => ?_)
  have hP : va_P D vwCl (List.flatten (wM aM C (va_up ms 0 0) mw ma ml)) H := hP
  have hD : va_D A (List.flatten (wM aM C (va_up ms 0 0) mw ma ml)) := hD
  refine lv_if_ne (tgt := 16) hx hb dX12_wants_10 (by decide) (fun c2 => ?_) (fun c2 => ?_)
  · have h := h.1 c2
    refine lv_aload_n hx hb dX12_wants_16 rfl (lv_at hl 0 rfl) ?_
    refine lv_iconst (v := (-1)) hx hb dX12_wants_17 (by decide) ?_
    refine cGoV (wo := fun u => wM aM C u.1 mw u.2 ml) (cRunV (As := [.int (-1)]) (rest := []) ⟨hx, hb, hml, hown, hw⟩ hK hN hP hD [0, 1, 2, 3, 4, 5, 6, 7, 8, 9, 10, 11, 12, 13, 14, 15, 16, 17, 18, 19, 20, 21, 22, 23, 24, 25, 26, 27, 28, 29, 30, 31, 32] rfl rfl (k_X12_lays l D C _ aM  (va_up ms 0 0) mw ma ml (-1) h) (cwV 1 hw (goodV mw_7_180 mw_7_182 mw_s138 mw_1_13 mw_7_183) rfl rfl rfl (by decide +kernel) ⟨Nat.le_of_ble_eq_true rfl, Nat.le_of_ble_eq_true rfl⟩) rfl rfl rfl hl.1 rfl (Nat.le_of_ble_eq_true rfl) dX12_wants_18 ⟨Nat.zero_le _, Nat.zero_le _⟩) hP hD hS hA [0, 1, 2, 3, 4, 5, 6, 7, 8, 9, 10, 11, 12, 13, 14, 15, 16, 17, 18, 19, 20, 21, 22, 23, 24, 25, 26, 27, 28, 29, 30, 31, 32] [] [0, 1, 2, 3, 4, 5, 6, 7, 8, 9, 10, 11, 12, 13, 14, 15, 16, 17, 18, 19, 20, 21, 22, 23, 24, 25, 26, 27, 28, 29, 30, 31, 32] rfl rfl rfl (by decide) rfl (fun _ => rfl) (fun u H locs h hP hD hS => ?_)
    obtain ⟨ms_3, ma_4⟩ := u
    have hP : va_P D vwCl (List.flatten (wM aM C ms_3 mw ma_4 ml)) H := hP
    have hD : va_D A (List.flatten (wM aM C ms_3 mw ma_4 ml)) := hD
    refine lv_aload_n hx hb dX12_wants_21 rfl (lv_at hl 0 rfl) ?_
    refine lv_iload_n hx hb dX12_wants_22 rfl (lv_at hl 1 rfl) ?_
    refine cGoI (wo := fun u => wM aM C ms_3 mw ma_4 ml) (cRunV (As := [.int p1]) (rest := []) ⟨hx, hb, hml, hown, hw⟩ hK hN hP hD [0, 1, 2, 3, 4, 5, 6, 7, 8, 9, 10, 11, 12, 13, 14, 15, 16, 17, 18, 19, 20, 21, 22, 23, 24, 25, 26, 27, 28, 29, 30, 31, 32] rfl rfl (k_X12_wantsOf l D C _ aM  ms_3 mw ma_4 ml p1 h) (cwV 1 hw (goodV mw_7_192 mw_7_194 mw_s140 mw_1_13 mw_7_195) rfl rfl rfl (by decide +kernel) ⟨Nat.le_of_ble_eq_true rfl, Nat.le_of_ble_eq_true rfl⟩) rfl rfl rfl hl.1 rfl (Nat.le_of_ble_eq_true rfl) dX12_wants_23 ⟨Nat.zero_le _, Nat.zero_le _⟩) hP hD hS hA [0, 1, 2, 3, 4, 5, 6, 7, 8, 9, 10, 11, 12, 13, 14, 15, 16, 17, 18, 19, 20, 21, 22, 23, 24, 25, 26, 27, 28, 29, 30, 31, 32] [] [0, 1, 2, 3, 4, 5, 6, 7, 8, 9, 10, 11, 12, 13, 14, 15, 16, 17, 18, 19, 20, 21, 22, 23, 24, 25, 26, 27, 28, 29, 30, 31, 32] rfl rfl rfl (by decide) rfl (fun _ => rfl) (fun r5 u H locs h hP hD hS => ?_)
    have hP : va_P D vwCl (List.flatten (wM aM C ms_3 mw ma_4 ml)) H := hP
    have hD : va_D A (List.flatten (wM aM C ms_3 mw ma_4 ml)) := hD
    rw [← hQ]
    exact cRetI (v := r5) (ms_3, ma_4) hx hb hr hlocks hS hP hD h dX12_wants_26
  · have h := h.2 c2
    refine lv_bipush (v := (-2)) hx hb dX12_wants_13 (by decide) ?_
    rw [← hQ]
    exact cRetI (v := (-2)) ((va_up ms 0 0), ma) hx hb hr hlocks hS hP hD h dX12_wants_15
abbrev vsX12_night : List Cond := Cond.code yX12_night cX12_night 5 none :: WS
abbrev rmX12_night : Room := { frames := 4, cells := 0, slots := 0, locals := 95 }
set_option maxHeartbeats 4000000 in
set_option maxRecDepth 100000 in
theorem k_X12_night (l : Launch) (D : va_G) (C : Nat → ClassId) (sz : Nat) (aM : Nat → Nat)  (ms : Nat → Int32) (mw : Nat → Int64) (ma : Nat → Nat → Int32) (ml : Nat → Nat → Int64)  {post : (Nat → Int32) → (Nat → Nat → Int32) → (Nat → Nat → Int64) → Prop} (h : P_X12_night ms ma ml post) : Met l yX12_night vsX12_night rmX12_night (cPre D C [.ref (aM 0)] sz (wM aM C ms mw ma ml)) (cQv D (fun (u : (Nat → Int32) × (Nat → Nat → Int32) × (Nat → Nat → Int64)) => post u.1 u.2.1 u.2.2) (fun u => wM aM C u.1 mw u.2.1 u.2.2) (va_A (List.flatten (wM aM C ms mw ma ml)) sz)) 0 0 (va_A (List.flatten (wM aM C ms mw ma ml)) sz) := by
  refine cStart (QA := fun A => cQv D (fun (u : (Nat → Int32) × (Nat → Nat → Int32) × (Nat → Nat → Int64)) => post u.1 u.2.1 u.2.2) (fun u => wM aM C u.1 mw u.2.1 u.2.2) A) (cc := cX12_night) (maxL := 5) (ret := none) (by decide) (Nat.le_of_ble_eq_true rfl) ?_
  intro p e s m args below meth c A ls hx hb hr hml hown hw hlocks hname hK hN hA hP hD hS hl
  generalize hQ : MQ below _ args s 0 0 A = Q
  have hl : lv_has ls 5 [(0, .ref (aM 0))] := hl
  obtain ⟨H, hH⟩ : ∃ H, H = s.heap := ⟨_, rfl⟩
  obtain ⟨locs, hlo⟩ : ∃ z : List Loc, z = [] := ⟨_, rfl⟩
  have hP : va_P D vwCl (List.flatten (wM aM C ms mw ma ml)) H := by rw [hH]; exact hP
  have hS : va_S A s.heap H locs := by rw [hH, hlo]; exact hS
  rw [show W p l e rmX12_night s m args below meth c s.heap [] 0 0 Q (F0 m 0 ls []) = W p l e rmX12_night s m args below meth c H locs 0 0 Q (F0 m 0 ls []) from by rw [hH, hlo]]
  have N67 : ∀ (x1_ : Int32) (ms : Nat → Int32) (ma : Nat → Nat → Int32) (n67 : Nat) (x2_ : Int32) (ml : Nat → Nat → Int64) (H : Heap) (locs : List Loc) (ls : Array Slot), P_X12_night_67  post  x1_ ms ma n67 x2_ ml → va_P D vwCl (List.flatten (wM aM C ms mw ma ml)) H → va_D A (List.flatten (wM aM C ms mw ma ml)) → va_S A s.heap H locs → lv_has ls 5 [(0, .ref (aM 0)), (1, .int x1_), (2, .int x2_)] → W p l e rmX12_night s m args below meth c H locs 0 0 Q (F0 m 67 ls []) := by
    intro x1_ ms ma
    intro n67
    induction n67 with
    | zero => intro x2_ ml H locs ls h hP hD hS hl; exact False.elim h
    | succ n67 ih67 =>
      have N120 : ∀ (x2_ : Int32) (n120 : Nat) (x3_ : Int32) (ml : Nat → Nat → Int64) (H : Heap) (locs : List Loc) (ls : Array Slot), P_X12_night_120 x1_ ms ma post (P_X12_night_67  post  x1_ ms ma n67) x2_ n120 x3_ ml → va_P D vwCl (List.flatten (wM aM C ms mw ma ml)) H → va_D A (List.flatten (wM aM C ms mw ma ml)) → va_S A s.heap H locs → lv_has ls 5 [(0, .ref (aM 0)), (1, .int x1_), (2, .int x2_), (3, .int x3_)] → W p l e rmX12_night s m args below meth c H locs 0 0 Q (F0 m 120 ls []) := by
        intro x2_
        intro n120
        induction n120 with
        | zero => intro x3_ ml H locs ls h hP hD hS hl; exact False.elim h
        | succ n120 ih120 =>
          intro x3_ ml H locs ls h hP hD hS hl
          refine lv_iload_n hx hb dX12_night_120 rfl (lv_at hl 3 rfl) ?_
          refine lv_iload_n hx hb dX12_night_121 rfl (lv_at hl 1 rfl) ?_
          refine lv_icmp_ge (tgt := 218) hx hb dX12_night_122 (by decide) (fun c1 => ?_) (fun c1 => ?_)
          · have h := h.1 c1
            refine lv_iinc (v := (x2_ + 1)) (lv' := [(2, .int (x2_ + 1)), (0, .ref (aM 0)), (1, .int x1_), (3, .int x3_)]) hx hb dX12_night_218 hl (k := 2) rfl rfl (by decide) rfl (fun ls hl => ?_)
            refine lv_goto (tgt := 67) hx hb dX12_night_221 (by decide) ?_
            exact ih67 (x2_ + 1) ml _ _ _ h hP hD hS (lv_sub hl [1, 2, 0] rfl)
          · have h := h.2 c1
            refine lv_aload_n hx hb dX12_night_125 rfl (lv_at hl 0 rfl) ?_
            refine va_get (D := D) (ci := 12) (v := .ref (aM 24)) (C := RX12) (T := TX12) (N := 51) hx hb hw inW_X12 hown hK hP 0 rfl rfl 37 (by decide) (hw _ mw_6_80) (fun _ h9 => h9) rfl dX12_night_126 ?_
            refine lv_iload_n hx hb dX12_night_129 rfl (lv_at hl 3 rfl) ?_
            refine cLald hx hb hK hP 24 1 rfl rfl x3_.toNatClampNeg rfl h.1 dX12_night_130 ?_
            have h := h.2
            refine lv_lconst (v := 0) hx hb dX12_night_131 (by decide) ?_
            refine W.lcmp hx hb dX12_night_132 ?_
            refine lv_if_ne (tgt := 139) hx hb dX12_night_133 (by decide) (fun c2 => ?_) (fun c2 => ?_)
            · have c2 : ¬ (ml 3 x3_.toNatClampNeg) = 0 := fun q => c2 ((lg_cmp_eq _ _).mpr q)
              have h := h.1 c2
              refine lv_aload_n hx hb dX12_night_139 rfl (lv_at hl 0 rfl) ?_
              refine lv_iload_n hx hb dX12_night_140 rfl (lv_at hl 2 rfl) ?_
              refine lv_iload_n hx hb dX12_night_141 rfl (lv_at hl 3 rfl) ?_
              refine cGoI (wo := fun u => wM aM C ms mw ma ml) (cRunV (As := [.int x2_, .int x3_]) (rest := []) ⟨hx, hb, hml, hown, hw⟩ hK hN hP hD [0, 1, 2, 3, 4, 5, 6, 7, 8, 9, 10, 11, 12, 13, 14, 15, 16, 17, 18, 19, 20, 21, 22, 23, 24, 25, 26, 27, 28, 29, 30, 31, 32] rfl rfl (k_X12_takesOf l D C _ aM  ms mw ma ml x2_ x3_ h) (cwV 2 hw (goodV mw_7_184 mw_7_186 mw_s139 mw_1_13 mw_7_187) rfl rfl rfl (by decide +kernel) ⟨Nat.le_of_ble_eq_true rfl, Nat.le_of_ble_eq_true rfl⟩) rfl rfl rfl hl.1 rfl (Nat.le_of_ble_eq_true rfl) dX12_night_142 ⟨Nat.zero_le _, Nat.zero_le _⟩) hP hD hS hA [0, 1, 2, 3, 4, 5, 6, 7, 8, 9, 10, 11, 12, 13, 14, 15, 16, 17, 18, 19, 20, 21, 22, 23, 24, 25, 26, 27, 28, 29, 30, 31, 32] [] [0, 1, 2, 3, 4, 5, 6, 7, 8, 9, 10, 11, 12, 13, 14, 15, 16, 17, 18, 19, 20, 21, 22, 23, 24, 25, 26, 27, 28, 29, 30, 31, 32] rfl rfl rfl (by decide) rfl (fun _ => rfl) (fun r3 u H locs h hP hD hS => ?_)
              have hP : va_P D vwCl (List.flatten (wM aM C ms mw ma ml)) H := hP
              have hD : va_D A (List.flatten (wM aM C ms mw ma ml)) := hD
              refine lv_istore (lv' := [(4, .int r3), (0, .ref (aM 0)), (1, .int x1_), (2, .int x2_), (3, .int x3_)]) hx hb dX12_night_145 hl (by decide) rfl (fun ls hl => ?_)
              refine lv_iload hx hb dX12_night_147 (lv_at hl 0 rfl) ?_
              refine lv_iconst (v := (-1)) hx hb dX12_night_149 (by decide) ?_
              refine lv_icmp_ne (tgt := 156) hx hb dX12_night_150 (by decide) (fun c4 => ?_) (fun c4 => ?_)
              · have h := h.1 c4
                refine lv_aload_n hx hb dX12_night_156 rfl (lv_at hl 1 rfl) ?_
                refine va_get (D := D) (ci := 12) (v := .ref (aM 23)) (C := RX12) (T := TX12) (N := 51) hx hb hw inW_X12 hown hK hP 0 rfl rfl 36 (by decide) (hw _ mw_6_79) (fun _ h9 => h9) rfl dX12_night_157 ?_
                refine lv_iload_n hx hb dX12_night_160 rfl (lv_at hl 4 rfl) ?_
                refine lv_dup2_11 hx hb dX12_night_161 rfl rfl ?_
                refine cLald hx hb hK hP 23 1 rfl rfl x3_.toNatClampNeg rfl h.1 dX12_night_162 ?_
                have h := h.2
                refine lv_aload_n hx hb dX12_night_163 rfl (lv_at hl 1 rfl) ?_
                refine va_get (D := D) (ci := 12) (v := .ref (aM 24)) (C := RX12) (T := TX12) (N := 51) hx hb hw inW_X12 hown hK hP 0 rfl rfl 37 (by decide) (hw _ mw_6_80) (fun _ h9 => h9) rfl dX12_night_164 ?_
                refine lv_iload_n hx hb dX12_night_167 rfl (lv_at hl 4 rfl) ?_
                refine cLald hx hb hK hP 24 1 rfl rfl x3_.toNatClampNeg rfl h.1 dX12_night_168 ?_
                have h := h.2
                refine lv_lsub hx hb dX12_night_169 ?_
                refine cLast hx hb hK hP hD hS 23 1 rfl rfl x3_.toNatClampNeg rfl h.1 dX12_night_170 (fun H locs hP hD hS => ?_)
                have h := h.2
                refine lv_aload_n hx hb dX12_night_171 rfl (lv_at hl 1 rfl) ?_
                refine va_get (D := D) (ci := 12) (v := .ref (aM 23)) (C := RX12) (T := TX12) (N := 51) hx hb hw inW_X12 hown hK hP 0 rfl rfl 36 (by decide) (hw _ mw_6_79) (fun _ h9 => h9) rfl dX12_night_172 ?_
                refine lv_iload_n hx hb dX12_night_175 rfl (lv_at hl 4 rfl) ?_
                refine lv_iconst (v := 1) hx hb dX12_night_176 (by decide) ?_
                refine lv_iload hx hb dX12_night_177 (lv_at hl 0 rfl) ?_
                refine lv_ishl hx hb dX12_night_179 ?_
                refine lv_ior hx hb dX12_night_180 ?_
                refine lv_dup2_11 hx hb dX12_night_181 rfl rfl ?_
                refine cLald hx hb hK hP 23 1 rfl rfl ((x3_ ||| ((1 : Int32) <<< (r3 &&& 31))).toNatClampNeg) rfl h.1 dX12_night_182 ?_
                have h := h.2
                refine lv_aload_n hx hb dX12_night_183 rfl (lv_at hl 1 rfl) ?_
                refine va_get (D := D) (ci := 12) (v := .ref (aM 24)) (C := RX12) (T := TX12) (N := 51) hx hb hw inW_X12 hown hK hP 0 rfl rfl 37 (by decide) (hw _ mw_6_80) (fun _ h9 => h9) rfl dX12_night_184 ?_
                refine lv_iload_n hx hb dX12_night_187 rfl (lv_at hl 4 rfl) ?_
                refine cLald hx hb hK hP 24 1 rfl rfl x3_.toNatClampNeg rfl h.1 dX12_night_188 ?_
                have h := h.2
                refine lv_ladd hx hb dX12_night_189 ?_
                refine cLast hx hb hK hP hD hS 23 1 rfl rfl ((x3_ ||| ((1 : Int32) <<< (r3 &&& 31))).toNatClampNeg) rfl h.1 dX12_night_190 (fun H locs hP hD hS => ?_)
                have h := h.2
                refine lv_aload_n hx hb dX12_night_191 rfl (lv_at hl 1 rfl) ?_
                refine va_get (D := D) (ci := 12) (v := .ref (aM 25)) (C := RX12) (T := TX12) (N := 51) hx hb hw inW_X12 hown hK hP 0 rfl rfl 38 (by decide) (hw _ mw_6_81) (fun _ h9 => h9) rfl dX12_night_192 ?_
                refine lv_bipush (v := 10) hx hb dX12_night_195 (by decide) ?_
                refine lv_iload_n hx hb dX12_night_197 rfl (lv_at hl 3 rfl) ?_
                refine lv_imul hx hb dX12_night_198 ?_
                refine lv_iload hx hb dX12_night_199 (lv_at hl 0 rfl) ?_
                refine lv_iadd hx hb dX12_night_201 ?_
                refine lv_dup2_11 hx hb dX12_night_202 rfl rfl ?_
                refine cLald hx hb hK hP 25 1 rfl rfl (((10 * x2_) + r3).toNatClampNeg) rfl h.1 dX12_night_203 ?_
                have h := h.2
                refine lv_aload_n hx hb dX12_night_204 rfl (lv_at hl 1 rfl) ?_
                refine va_get (D := D) (ci := 12) (v := .ref (aM 24)) (C := RX12) (T := TX12) (N := 51) hx hb hw inW_X12 hown hK hP 0 rfl rfl 37 (by decide) (hw _ mw_6_80) (fun _ h9 => h9) rfl dX12_night_205 ?_
                refine lv_iload_n hx hb dX12_night_208 rfl (lv_at hl 4 rfl) ?_
                refine cLald hx hb hK hP 24 1 rfl rfl x3_.toNatClampNeg rfl h.1 dX12_night_209 ?_
                have h := h.2
                refine lv_ladd hx hb dX12_night_210 ?_
                refine cLast hx hb hK hP hD hS 25 1 rfl rfl (((10 * x2_) + r3).toNatClampNeg) rfl h.1 dX12_night_211 (fun H locs hP hD hS => ?_)
                have h := h.2
                refine lv_iinc (v := (x3_ + 1)) (lv' := [(3, .int (x3_ + 1)), (4, .int r3), (0, .ref (aM 0)), (1, .int x1_), (2, .int x2_)]) hx hb dX12_night_212 hl (k := 4) rfl rfl (by decide) rfl (fun ls hl => ?_)
                refine lv_goto (tgt := 120) hx hb dX12_night_215 (by decide) ?_
                have hP : va_P D vwCl (List.flatten (wM aM C ms mw ma (va_up (va_up ml 2 (vp_updL (vp_updL (ml 2) x3_.toNatClampNeg ((ml 2 x3_.toNatClampNeg) - (ml 3 x3_.toNatClampNeg))) ((x3_ ||| ((1 : Int32) <<< (r3 &&& 31))).toNatClampNeg) (((vp_updL (ml 2) x3_.toNatClampNeg ((ml 2 x3_.toNatClampNeg) - (ml 3 x3_.toNatClampNeg))) ((x3_ ||| ((1 : Int32) <<< (r3 &&& 31))).toNatClampNeg)) + (ml 3 x3_.toNatClampNeg)))) 4 (vp_updL (ml 4) (((10 * x2_) + r3).toNatClampNeg) ((ml 4 (((10 * x2_) + r3).toNatClampNeg)) + (ml 3 x3_.toNatClampNeg)))))) H := hP
                have hD : va_D A (List.flatten (wM aM C ms mw ma (va_up (va_up ml 2 (vp_updL (vp_updL (ml 2) x3_.toNatClampNeg ((ml 2 x3_.toNatClampNeg) - (ml 3 x3_.toNatClampNeg))) ((x3_ ||| ((1 : Int32) <<< (r3 &&& 31))).toNatClampNeg) (((vp_updL (ml 2) x3_.toNatClampNeg ((ml 2 x3_.toNatClampNeg) - (ml 3 x3_.toNatClampNeg))) ((x3_ ||| ((1 : Int32) <<< (r3 &&& 31))).toNatClampNeg)) + (ml 3 x3_.toNatClampNeg)))) 4 (vp_updL (ml 4) (((10 * x2_) + r3).toNatClampNeg) ((ml 4 (((10 * x2_) + r3).toNatClampNeg)) + (ml 3 x3_.toNatClampNeg)))))) := hD
                exact ih120 (x3_ + 1) (va_up (va_up ml 2 (vp_updL (vp_updL (ml 2) x3_.toNatClampNeg ((ml 2 x3_.toNatClampNeg) - (ml 3 x3_.toNatClampNeg))) ((x3_ ||| ((1 : Int32) <<< (r3 &&& 31))).toNatClampNeg) (((vp_updL (ml 2) x3_.toNatClampNeg ((ml 2 x3_.toNatClampNeg) - (ml 3 x3_.toNatClampNeg))) ((x3_ ||| ((1 : Int32) <<< (r3 &&& 31))).toNatClampNeg)) + (ml 3 x3_.toNatClampNeg)))) 4 (vp_updL (ml 4) (((10 * x2_) + r3).toNatClampNeg) ((ml 4 (((10 * x2_) + r3).toNatClampNeg)) + (ml 3 x3_.toNatClampNeg)))) _ _ _ h hP hD hS (lv_sub hl [2, 3, 4, 0] rfl)
              · have h := h.2 c4
                refine lv_goto (tgt := 212) hx hb dX12_night_153 (by decide) ?_
                refine lv_iinc (v := (x3_ + 1)) (lv' := [(3, .int (x3_ + 1)), (4, .int r3), (0, .ref (aM 0)), (1, .int x1_), (2, .int x2_)]) hx hb dX12_night_212 hl (k := 4) rfl rfl (by decide) rfl (fun ls hl => ?_)
                refine lv_goto (tgt := 120) hx hb dX12_night_215 (by decide) ?_
                exact ih120 (x3_ + 1) ml _ _ _ h hP hD hS (lv_sub hl [2, 3, 4, 0] rfl)
            · have c2 : (ml 3 x3_.toNatClampNeg) = 0 := (lg_cmp_eq _ _).mp c2
              have h := h.2 c2
              refine lv_goto (tgt := 212) hx hb dX12_night_136 (by decide) ?_
              refine lv_iinc (v := (x3_ + 1)) (lv' := [(3, .int (x3_ + 1)), (0, .ref (aM 0)), (1, .int x1_), (2, .int x2_)]) hx hb dX12_night_212 hl (k := 3) rfl rfl (by decide) rfl (fun ls hl => ?_)
              refine lv_goto (tgt := 120) hx hb dX12_night_215 (by decide) ?_
              exact ih120 (x3_ + 1) ml _ _ _ h hP hD hS (lv_sub hl [1, 2, 3, 0] rfl)
      have N79 : ∀ (x2_ : Int32) (n79 : Nat) (x3_ : Int32) (ml : Nat → Nat → Int64) (H : Heap) (locs : List Loc) (ls : Array Slot), P_X12_night_79 x1_ ms ma post (fun (x2_ : Int32) (x3_ : Int32) (ml : Nat → Nat → Int64) => ∃ n : Nat, P_X12_night_120 x1_ ms ma post (P_X12_night_67  post  x1_ ms ma n67) x2_ n x3_ ml) x2_ n79 x3_ ml → va_P D vwCl (List.flatten (wM aM C ms mw ma ml)) H → va_D A (List.flatten (wM aM C ms mw ma ml)) → va_S A s.heap H locs → lv_has ls 5 [(0, .ref (aM 0)), (1, .int x1_), (2, .int x2_), (3, .int x3_)] → W p l e rmX12_night s m args below meth c H locs 0 0 Q (F0 m 79 ls []) := by
        intro x2_
        intro n79
        induction n79 with
        | zero => intro x3_ ml H locs ls h hP hD hS hl; exact False.elim h
        | succ n79 ih79 =>
          intro x3_ ml H locs ls h hP hD hS hl
          refine lv_iload_n hx hb dX12_night_79 rfl (lv_at hl 3 rfl) ?_
          refine lv_iload_n hx hb dX12_night_80 rfl (lv_at hl 1 rfl) ?_
          refine lv_icmp_ge (tgt := 118) hx hb dX12_night_81 (by decide) (fun c5 => ?_) (fun c5 => ?_)
          · have h := h.1 c5
            refine lv_iconst (v := 0) hx hb dX12_night_118 (by decide) ?_
            refine lv_istore_n (lv' := [(3, .int 0), (0, .ref (aM 0)), (1, .int x1_), (2, .int x2_)]) hx hb dX12_night_119 rfl hl (by decide) rfl (fun ls hl => ?_)
            obtain ⟨n, h⟩ := h
            exact N120 x2_ n 0 ml _ _ _ h hP hD hS (lv_sub hl [1, 2, 3, 0] rfl)
          · have h := h.2 c5
            refine lv_aload_n hx hb dX12_night_84 rfl (lv_at hl 0 rfl) ?_
            refine va_get (D := D) (ci := 12) (v := .ref (aM 24)) (C := RX12) (T := TX12) (N := 51) hx hb hw inW_X12 hown hK hP 0 rfl rfl 37 (by decide) (hw _ mw_6_80) (fun _ h9 => h9) rfl dX12_night_85 ?_
            refine lv_iload_n hx hb dX12_night_88 rfl (lv_at hl 3 rfl) ?_
            refine lv_aload_n hx hb dX12_night_89 rfl (lv_at hl 0 rfl) ?_
            refine va_get (D := D) (ci := 12) (v := .ref (aM 23)) (C := RX12) (T := TX12) (N := 51) hx hb hw inW_X12 hown hK hP 0 rfl rfl 36 (by decide) (hw _ mw_6_79) (fun _ h9 => h9) rfl dX12_night_90 ?_
            refine lv_iload_n hx hb dX12_night_93 rfl (lv_at hl 3 rfl) ?_
            refine cLald hx hb hK hP 23 1 rfl rfl x3_.toNatClampNeg rfl h.1 dX12_night_94 ?_
            have h := h.2
            refine lv_aload_n hx hb dX12_night_95 rfl (lv_at hl 0 rfl) ?_
            refine va_get (D := D) (ci := 12) (v := .ref (aM 16)) (C := RX12) (T := TX12) (N := 51) hx hb hw inW_X12 hown hK hP 0 rfl rfl 26 (by decide) (hw _ mw_6_69) (fun _ h9 => h9) rfl dX12_night_96 ?_
            refine lv_iconst (v := 5) hx hb dX12_night_99 (by decide) ?_
            refine lv_iload_n hx hb dX12_night_100 rfl (lv_at hl 2 rfl) ?_
            refine lv_imul hx hb dX12_night_101 ?_
            refine lv_iconst (v := 1) hx hb dX12_night_102 (by decide) ?_
            refine lv_iadd hx hb dX12_night_103 ?_
            refine cIald hx hb hK hP 16 0 rfl rfl (((5 * x2_) + 1).toNatClampNeg) rfl h.1 dX12_night_104 ?_
            have h := h.2
            refine lv_i2l hx hb dX12_night_105 rfl ?_
            refine lv_lmul hx hb dX12_night_106 ?_
            refine lv_ldc2 (v := 100) hx hb hown (hw _ mw_7_163) dX12_night_107 ?_
            refine lv_ldiv hx hb dX12_night_110 (by decide) ?_
            refine cLast hx hb hK hP hD hS 24 1 rfl rfl x3_.toNatClampNeg rfl h.1 dX12_night_111 (fun H locs hP hD hS => ?_)
            have h := h.2
            refine lv_iinc (v := (x3_ + 1)) (lv' := [(3, .int (x3_ + 1)), (0, .ref (aM 0)), (1, .int x1_), (2, .int x2_)]) hx hb dX12_night_112 hl (k := 3) rfl rfl (by decide) rfl (fun ls hl => ?_)
            refine lv_goto (tgt := 79) hx hb dX12_night_115 (by decide) ?_
            have hP : va_P D vwCl (List.flatten (wM aM C ms mw ma (va_up ml 3 (vp_updL (ml 3) x3_.toNatClampNeg (((ml 2 x3_.toNatClampNeg) * (ma 13 (((5 * x2_) + 1).toNatClampNeg)).toInt64) / 100))))) H := hP
            have hD : va_D A (List.flatten (wM aM C ms mw ma (va_up ml 3 (vp_updL (ml 3) x3_.toNatClampNeg (((ml 2 x3_.toNatClampNeg) * (ma 13 (((5 * x2_) + 1).toNatClampNeg)).toInt64) / 100))))) := hD
            exact ih79 (x3_ + 1) (va_up ml 3 (vp_updL (ml 3) x3_.toNatClampNeg (((ml 2 x3_.toNatClampNeg) * (ma 13 (((5 * x2_) + 1).toNatClampNeg)).toInt64) / 100))) _ _ _ h hP hD hS (lv_sub hl [1, 2, 3, 0] rfl)
      intro x2_ ml H locs ls h hP hD hS hl
      refine lv_iload_n hx hb dX12_night_67 rfl (lv_at hl 2 rfl) ?_
      refine lv_aload_n hx hb dX12_night_68 rfl (lv_at hl 0 rfl) ?_
      refine va_get (D := D) (ci := 12) (v := .ref (aM 15)) (C := RX12) (T := TX12) (N := 51) hx hb hw inW_X12 hown hK hP 0 rfl rfl 25 (by decide) (hw _ mw_6_68) (fun _ h9 => h9) rfl dX12_night_69 ?_
      refine lv_iconst (v := 0) hx hb dX12_night_72 (by decide) ?_
      refine cIald hx hb hK hP 15 0 rfl rfl 0 (by decide +kernel) (cIn (by decide +kernel)) dX12_night_73 ?_
      refine lv_icmp_ge (tgt := 224) hx hb dX12_night_74 (by decide) (fun c6 => ?_) (fun c6 => ?_)
      · have h := h.1 c6
        rw [← hQ]
        exact cRetV (ms, ma, ml) hx hb hr hlocks hS hP hD h dX12_night_224
      · have h := h.2 c6
        refine lv_iconst (v := 0) hx hb dX12_night_77 (by decide) ?_
        refine lv_istore_n (lv' := [(3, .int 0), (0, .ref (aM 0)), (1, .int x1_), (2, .int x2_)]) hx hb dX12_night_78 rfl hl (by decide) rfl (fun ls hl => ?_)
        obtain ⟨n, h⟩ := h
        exact N79 x2_ n 0 ml _ _ _ h hP hD hS (lv_sub hl [1, 2, 3, 0] rfl)
  have N46 : ∀ (x1_ : Int32) (ms : Nat → Int32) (ma : Nat → Nat → Int32) (n46 : Nat) (x2_ : Int32) (ml : Nat → Nat → Int64) (H : Heap) (locs : List Loc) (ls : Array Slot), P_X12_night_46  post (fun (x1_ : Int32) (ms : Nat → Int32) (ma : Nat → Nat → Int32) (x2_ : Int32) (ml : Nat → Nat → Int64) => ∃ n : Nat, P_X12_night_67  post  x1_ ms ma n x2_ ml) x1_ ms ma n46 x2_ ml → va_P D vwCl (List.flatten (wM aM C ms mw ma ml)) H → va_D A (List.flatten (wM aM C ms mw ma ml)) → va_S A s.heap H locs → lv_has ls 5 [(0, .ref (aM 0)), (1, .int x1_), (2, .int x2_)] → W p l e rmX12_night s m args below meth c H locs 0 0 Q (F0 m 46 ls []) := by
    intro x1_ ms ma
    intro n46
    induction n46 with
    | zero => intro x2_ ml H locs ls h hP hD hS hl; exact False.elim h
    | succ n46 ih46 =>
      intro x2_ ml H locs ls h hP hD hS hl
      refine lv_iload_n hx hb dX12_night_46 rfl (lv_at hl 2 rfl) ?_
      refine lv_bipush (v := 60) hx hb dX12_night_47 (by decide) ?_
      refine lv_icmp_ge (tgt := 65) hx hb dX12_night_49 (by decide) (fun c7 => ?_) (fun c7 => ?_)
      · have h := h.1 c7
        refine lv_iconst (v := 0) hx hb dX12_night_65 (by decide) ?_
        refine lv_istore_n (lv' := [(2, .int 0), (0, .ref (aM 0)), (1, .int x1_)]) hx hb dX12_night_66 rfl hl (by decide) rfl (fun ls hl => ?_)
        obtain ⟨n, h⟩ := h
        exact N67 x1_ ms ma n 0 ml _ _ _ h hP hD hS (lv_sub hl [1, 2, 0] rfl)
      · have h := h.2 c7
        refine lv_aload_n hx hb dX12_night_52 rfl (lv_at hl 0 rfl) ?_
        refine va_get (D := D) (ci := 12) (v := .ref (aM 25)) (C := RX12) (T := TX12) (N := 51) hx hb hw inW_X12 hown hK hP 0 rfl rfl 38 (by decide) (hw _ mw_6_81) (fun _ h9 => h9) rfl dX12_night_53 ?_
        refine lv_iload_n hx hb dX12_night_56 rfl (lv_at hl 2 rfl) ?_
        refine lv_lconst (v := 0) hx hb dX12_night_57 (by decide) ?_
        refine cLast hx hb hK hP hD hS 25 1 rfl rfl x2_.toNatClampNeg rfl h.1 dX12_night_58 (fun H locs hP hD hS => ?_)
        have h := h.2
        refine lv_iinc (v := (x2_ + 1)) (lv' := [(2, .int (x2_ + 1)), (0, .ref (aM 0)), (1, .int x1_)]) hx hb dX12_night_59 hl (k := 2) rfl rfl (by decide) rfl (fun ls hl => ?_)
        refine lv_goto (tgt := 46) hx hb dX12_night_62 (by decide) ?_
        have hP : va_P D vwCl (List.flatten (wM aM C ms mw ma (va_up ml 4 (vp_updL (ml 4) x2_.toNatClampNeg 0)))) H := hP
        have hD : va_D A (List.flatten (wM aM C ms mw ma (va_up ml 4 (vp_updL (ml 4) x2_.toNatClampNeg 0)))) := hD
        exact ih46 (x2_ + 1) (va_up ml 4 (vp_updL (ml 4) x2_.toNatClampNeg 0)) _ _ _ h hP hD hS (lv_sub hl [1, 2, 0] rfl)
  have N16 : ∀ (x1_ : Int32) (ms : Nat → Int32) (ma : Nat → Nat → Int32) (n16 : Nat) (x2_ : Int32) (ml : Nat → Nat → Int64) (H : Heap) (locs : List Loc) (ls : Array Slot), P_X12_night_16  post (fun (x1_ : Int32) (ms : Nat → Int32) (ma : Nat → Nat → Int32) (x2_ : Int32) (ml : Nat → Nat → Int64) => ∃ n : Nat, P_X12_night_46  post (fun (x1_ : Int32) (ms : Nat → Int32) (ma : Nat → Nat → Int32) (x2_ : Int32) (ml : Nat → Nat → Int64) => ∃ n : Nat, P_X12_night_67  post  x1_ ms ma n x2_ ml) x1_ ms ma n x2_ ml) x1_ ms ma n16 x2_ ml → va_P D vwCl (List.flatten (wM aM C ms mw ma ml)) H → va_D A (List.flatten (wM aM C ms mw ma ml)) → va_S A s.heap H locs → lv_has ls 5 [(0, .ref (aM 0)), (1, .int x1_), (2, .int x2_)] → W p l e rmX12_night s m args below meth c H locs 0 0 Q (F0 m 16 ls []) := by
    intro x1_ ms ma
    intro n16
    induction n16 with
    | zero => intro x2_ ml H locs ls h hP hD hS hl; exact False.elim h
    | succ n16 ih16 =>
      intro x2_ ml H locs ls h hP hD hS hl
      refine lv_iload_n hx hb dX12_night_16 rfl (lv_at hl 2 rfl) ?_
      refine lv_iload_n hx hb dX12_night_17 rfl (lv_at hl 1 rfl) ?_
      refine lv_icmp_ge (tgt := 44) hx hb dX12_night_18 (by decide) (fun c8 => ?_) (fun c8 => ?_)
      · have h := h.1 c8
        refine lv_iconst (v := 0) hx hb dX12_night_44 (by decide) ?_
        refine lv_istore_n (lv' := [(2, .int 0), (0, .ref (aM 0)), (1, .int x1_)]) hx hb dX12_night_45 rfl hl (by decide) rfl (fun ls hl => ?_)
        obtain ⟨n, h⟩ := h
        exact N46 x1_ ms ma n 0 ml _ _ _ h hP hD hS (lv_sub hl [1, 2, 0] rfl)
      · have h := h.2 c8
        refine lv_aload_n hx hb dX12_night_21 rfl (lv_at hl 0 rfl) ?_
        refine va_get (D := D) (ci := 12) (v := .ref (aM 23)) (C := RX12) (T := TX12) (N := 51) hx hb hw inW_X12 hown hK hP 0 rfl rfl 36 (by decide) (hw _ mw_6_79) (fun _ h9 => h9) rfl dX12_night_22 ?_
        refine lv_iload_n hx hb dX12_night_25 rfl (lv_at hl 2 rfl) ?_
        refine lv_iload_n hx hb dX12_night_26 rfl (lv_at hl 2 rfl) ?_
        refine lv_if_ne (tgt := 36) hx hb dX12_night_27 (by decide) (fun c9 => ?_) (fun c9 => ?_)
        · have h := h.1 c9
          refine lv_lconst (v := 0) hx hb dX12_night_36 (by decide) ?_
          refine cLast hx hb hK hP hD hS 23 1 rfl rfl x2_.toNatClampNeg rfl h.1 dX12_night_37 (fun H locs hP hD hS => ?_)
          have h := h.2
          refine lv_iinc (v := (x2_ + 1)) (lv' := [(2, .int (x2_ + 1)), (0, .ref (aM 0)), (1, .int x1_)]) hx hb dX12_night_38 hl (k := 2) rfl rfl (by decide) rfl (fun ls hl => ?_)
          refine lv_goto (tgt := 16) hx hb dX12_night_41 (by decide) ?_
          have hP : va_P D vwCl (List.flatten (wM aM C ms mw ma (va_up ml 2 (vp_updL (ml 2) x2_.toNatClampNeg 0)))) H := hP
          have hD : va_D A (List.flatten (wM aM C ms mw ma (va_up ml 2 (vp_updL (ml 2) x2_.toNatClampNeg 0)))) := hD
          exact ih16 (x2_ + 1) (va_up ml 2 (vp_updL (ml 2) x2_.toNatClampNeg 0)) _ _ _ h hP hD hS (lv_sub hl [1, 2, 0] rfl)
        · have h := h.2 c9
          refine lv_ldc2 (v := 1000000000000) hx hb hown (hw _ mw_7_213) dX12_night_30 ?_
          refine lv_goto (tgt := 37) hx hb dX12_night_33 (by decide) ?_
          refine cLast hx hb hK hP hD hS 23 1 rfl rfl x2_.toNatClampNeg rfl h.1 dX12_night_37 (fun H locs hP hD hS => ?_)
          have h := h.2
          refine lv_iinc (v := (x2_ + 1)) (lv' := [(2, .int (x2_ + 1)), (0, .ref (aM 0)), (1, .int x1_)]) hx hb dX12_night_38 hl (k := 2) rfl rfl (by decide) rfl (fun ls hl => ?_)
          refine lv_goto (tgt := 16) hx hb dX12_night_41 (by decide) ?_
          have hP : va_P D vwCl (List.flatten (wM aM C ms mw ma (va_up ml 2 (vp_updL (ml 2) x2_.toNatClampNeg 1000000000000)))) H := hP
          have hD : va_D A (List.flatten (wM aM C ms mw ma (va_up ml 2 (vp_updL (ml 2) x2_.toNatClampNeg 1000000000000)))) := hD
          exact ih16 (x2_ + 1) (va_up ml 2 (vp_updL (ml 2) x2_.toNatClampNeg 1000000000000)) _ _ _ h hP hD hS (lv_sub hl [1, 2, 0] rfl)
  refine lv_aload_n hx hb dX12_night_0 rfl (lv_at hl 0 rfl) ?_
  refine lv_iconst (v := (-1)) hx hb dX12_night_1 (by decide) ?_
  refine cGoV (wo := fun u => wM aM C u.1 mw u.2 ml) (cRunV (As := [.int (-1)]) (rest := []) ⟨hx, hb, hml, hown, hw⟩ hK hN hP hD [0, 1, 2, 3, 4, 5, 6, 7, 8, 9, 10, 11, 12, 13, 14, 15, 16, 17, 18, 19, 20, 21, 22, 23, 24, 25, 26, 27, 28, 29, 30, 31, 32] rfl rfl (k_X12_lays l D C _ aM  ms mw ma ml (-1) h) (cwV 1 hw (goodV mw_7_180 mw_7_182 mw_s138 mw_1_13 mw_7_183) rfl rfl rfl (by decide +kernel) ⟨Nat.le_of_ble_eq_true rfl, Nat.le_of_ble_eq_true rfl⟩) rfl rfl rfl hl.1 rfl (Nat.le_of_ble_eq_true rfl) dX12_night_2 ⟨Nat.zero_le _, Nat.zero_le _⟩) hP hD hS hA [0, 1, 2, 3, 4, 5, 6, 7, 8, 9, 10, 11, 12, 13, 14, 15, 16, 17, 18, 19, 20, 21, 22, 23, 24, 25, 26, 27, 28, 29, 30, 31, 32] [] [0, 1, 2, 3, 4, 5, 6, 7, 8, 9, 10, 11, 12, 13, 14, 15, 16, 17, 18, 19, 20, 21, 22, 23, 24, 25, 26, 27, 28, 29, 30, 31, 32] rfl rfl rfl (by decide) rfl (fun _ => rfl) (fun u H locs h hP hD hS => ?_)
  obtain ⟨ms_10, ma_11⟩ := u
  have hP : va_P D vwCl (List.flatten (wM aM C ms_10 mw ma_11 ml)) H := hP
  have hD : va_D A (List.flatten (wM aM C ms_10 mw ma_11 ml)) := hD
  refine lv_iconst (v := 1) hx hb dX12_night_5 (by decide) ?_
  refine lv_aload_n hx hb dX12_night_6 rfl (lv_at hl 0 rfl) ?_
  refine va_get (D := D) (ci := 12) (v := .ref (aM 13)) (C := RX12) (T := TX12) (N := 51) hx hb hw inW_X12 hown hK hP 0 rfl rfl 23 (by decide) (hw _ mw_6_66) (fun _ h9 => h9) rfl dX12_night_7 ?_
  refine lv_iconst (v := 0) hx hb dX12_night_10 (by decide) ?_
  refine cIald hx hb hK hP 13 0 rfl rfl 0 (by decide +kernel) (cIn (by decide +kernel)) dX12_night_11 ?_
  refine lv_ishl hx hb dX12_night_12 ?_
  refine lv_topi (fun x12 ex12 => ?_)
  have h := h x12 ex12
  refine lv_istore_n (lv' := [(1, .int x12), (0, .ref (aM 0))]) hx hb dX12_night_13 rfl hl (by decide) rfl (fun ls hl => ?_)
  refine lv_iconst (v := 0) hx hb dX12_night_14 (by decide) ?_
  refine lv_istore_n (lv' := [(2, .int 0), (1, .int x12), (0, .ref (aM 0))]) hx hb dX12_night_15 rfl hl (by decide) rfl (fun ls hl => ?_)
  obtain ⟨n, h⟩ := h
  exact N16 x12 ms_10 ma_11 n 0 ml _ _ _ h hP hD hS (lv_sub hl [2, 1, 0] rfl)
abbrev vsX12_isSet : List Cond := Cond.code yX12_isSet cX12_isSet 2 (some .boolean) :: WS
abbrev rmX12_isSet : Room := { frames := 1, cells := 0, slots := 0, locals := 25 }
set_option maxHeartbeats 4000000 in
set_option maxRecDepth 100000 in
theorem k_X12_isSet (l : Launch) (D : va_G) (C : Nat → ClassId) (sz : Nat) (aM : Nat → Nat)  (ms : Nat → Int32) (mw : Nat → Int64) (ma : Nat → Nat → Int32) (ml : Nat → Nat → Int64) (p1 : Int32) {post : Int32 → Prop} (h : P_X12_isSet ma p1 post) : Met l yX12_isSet vsX12_isSet rmX12_isSet (cPre D C [.ref (aM 0), .int p1] sz (wM aM C ms mw ma ml)) (cQi D (fun (r : Int32) (u : Unit) => post r ) (fun u => wM aM C ms mw ma ml) (va_A (List.flatten (wM aM C ms mw ma ml)) sz)) 0 0 (va_A (List.flatten (wM aM C ms mw ma ml)) sz) := by
  refine cStart (QA := fun A => cQi D (fun (r : Int32) (u : Unit) => post r ) (fun u => wM aM C ms mw ma ml) A) (cc := cX12_isSet) (maxL := 2) (ret := (some .boolean)) (by decide) (Nat.le_of_ble_eq_true rfl) ?_
  intro p e s m args below meth c A ls hx hb hr hml hown hw hlocks hname hK hN hA hP hD hS hl
  generalize hQ : MQ below _ args s 0 0 A = Q
  have hl : lv_has ls 2 [(0, .ref (aM 0)), (1, .int p1)] := hl
  obtain ⟨H, hH⟩ : ∃ H, H = s.heap := ⟨_, rfl⟩
  obtain ⟨locs, hlo⟩ : ∃ z : List Loc, z = [] := ⟨_, rfl⟩
  have hP : va_P D vwCl (List.flatten (wM aM C ms mw ma ml)) H := by rw [hH]; exact hP
  have hS : va_S A s.heap H locs := by rw [hH, hlo]; exact hS
  rw [show W p l e rmX12_isSet s m args below meth c s.heap [] 0 0 Q (F0 m 0 ls []) = W p l e rmX12_isSet s m args below meth c H locs 0 0 Q (F0 m 0 ls []) from by rw [hH, hlo]]
  refine lv_aload_n hx hb dX12_isSet_0 rfl (lv_at hl 0 rfl) ?_
  refine cGoI (wo := fun u => wM aM C ms mw ma ml) (cRunV (As := []) (rest := []) ⟨hx, hb, hml, hown, hw⟩ hK hN hP hD [0, 1, 2, 3, 4, 5, 6, 7, 8, 9, 10, 11, 12, 13, 14, 15, 16, 17, 18, 19, 20, 21, 22, 23, 24, 25, 26, 27, 28, 29, 30, 31, 32] rfl rfl (k_X12_isRail l D C _ aM  ms mw ma ml  h) (cwV 0 hw (goodV mw_7_204 mw_7_206 mw_s142 mw_1_13 mw_7_207) rfl rfl rfl (by decide +kernel) ⟨Nat.le_of_ble_eq_true rfl, Nat.le_of_ble_eq_true rfl⟩) rfl rfl rfl hl.1 rfl (Nat.le_of_ble_eq_true rfl) dX12_isSet_1 ⟨Nat.zero_le _, Nat.zero_le _⟩) hP hD hS hA [0, 1, 2, 3, 4, 5, 6, 7, 8, 9, 10, 11, 12, 13, 14, 15, 16, 17, 18, 19, 20, 21, 22, 23, 24, 25, 26, 27, 28, 29, 30, 31, 32] [] [0, 1, 2, 3, 4, 5, 6, 7, 8, 9, 10, 11, 12, 13, 14, 15, 16, 17, 18, 19, 20, 21, 22, 23, 24, 25, 26, 27, 28, 29, 30, 31, 32] rfl rfl rfl (by decide) rfl (fun _ => rfl) (fun r1 u H locs h hP hD hS => ?_)
  have hP : va_P D vwCl (List.flatten (wM aM C ms mw ma ml)) H := hP
  have hD : va_D A (List.flatten (wM aM C ms mw ma ml)) := hD
  refine lv_if_eq (tgt := 31) hx hb dX12_isSet_4 (by decide) (fun c2 => ?_) (fun c2 => ?_)
  · have h := h.1 c2
    refine lv_iconst (v := 0) hx hb dX12_isSet_31 (by decide) ?_
    rw [← hQ]
    exact cRetZ (v := 0) () hx hb hr hlocks hS hP hD (Or.inl rfl) h dX12_isSet_32
  · have h := h.2 c2
    refine lv_iload_n hx hb dX12_isSet_7 rfl (lv_at hl 1 rfl) ?_
    refine lv_i2l hx hb dX12_isSet_8 rfl ?_
    refine lv_lconst (v := 0) hx hb dX12_isSet_9 (by decide) ?_
    refine lv_iconst (v := 1) hx hb dX12_isSet_10 (by decide) ?_
    refine lv_aload_n hx hb dX12_isSet_11 rfl (lv_at hl 0 rfl) ?_
    refine va_get (D := D) (ci := 12) (v := .ref (aM 13)) (C := RX12) (T := TX12) (N := 51) hx hb hw inW_X12 hown hK hP 0 rfl rfl 23 (by decide) (hw _ mw_6_66) (fun _ h9 => h9) rfl dX12_isSet_12 ?_
    refine lv_iconst (v := 0) hx hb dX12_isSet_15 (by decide) ?_
    refine cIald hx hb hK hP 13 0 rfl rfl 0 (by decide +kernel) (cIn (by decide +kernel)) dX12_isSet_16 ?_
    refine lv_ishl hx hb dX12_isSet_17 ?_
    refine lv_iconst (v := 1) hx hb dX12_isSet_18 (by decide) ?_
    refine lv_isub hx hb dX12_isSet_19 ?_
    refine lv_i2l hx hb dX12_isSet_20 rfl ?_
    refine cGoI (wo := fun u => wM aM C ms mw ma ml) (cRunS (As := [.long p1.toInt64, .long 0, .long ((((1 : Int32) <<< ((ma 10 0) &&& 31)) - 1).toInt64)]) (rest := []) ⟨hx, hb, hml, hown, hw⟩ hK hN hP hD [] rfl rfl (k_X12_in l D C _    p1.toInt64 0 ((((1 : Int32) <<< ((ma 10 0) &&& 31)) - 1).toInt64) h) (va_cwS 3 hw (goodS mw_6_205 mw_6_206 mw_1_13 mw_6_207) rfl rfl rfl (by decide +kernel) ⟨Nat.le_of_ble_eq_true rfl, Nat.le_of_ble_eq_true rfl⟩) rfl hl.1 rfl (Nat.le_of_ble_eq_true rfl) dX12_isSet_21 ⟨Nat.zero_le _, Nat.zero_le _⟩) hP hD hS hA [] [0, 1, 2, 3, 4, 5, 6, 7, 8, 9, 10, 11, 12, 13, 14, 15, 16, 17, 18, 19, 20, 21, 22, 23, 24, 25, 26, 27, 28, 29, 30, 31, 32] [0, 1, 2, 3, 4, 5, 6, 7, 8, 9, 10, 11, 12, 13, 14, 15, 16, 17, 18, 19, 20, 21, 22, 23, 24, 25, 26, 27, 28, 29, 30, 31, 32] rfl rfl rfl (by decide) rfl (fun _ => rfl) (fun r3 u H locs h hP hD hS => ?_)
    have hP : va_P D vwCl (List.flatten (wM aM C ms mw ma ml)) H := hP
    have hD : va_D A (List.flatten (wM aM C ms mw ma ml)) := hD
    refine lv_if_eq (tgt := 31) hx hb dX12_isSet_24 (by decide) (fun c4 => ?_) (fun c4 => ?_)
    · have h := h.1 c4
      refine lv_iconst (v := 0) hx hb dX12_isSet_31 (by decide) ?_
      rw [← hQ]
      exact cRetZ (v := 0) () hx hb hr hlocks hS hP hD (Or.inl rfl) h dX12_isSet_32
    · have h := h.2 c4
      refine lv_iconst (v := 1) hx hb dX12_isSet_27 (by decide) ?_
      refine lv_goto (tgt := 32) hx hb dX12_isSet_28 (by decide) ?_
      rw [← hQ]
      exact cRetZ (v := 1) () hx hb hr hlocks hS hP hD (Or.inr rfl) h dX12_isSet_32
