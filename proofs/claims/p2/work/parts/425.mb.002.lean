abbrev vsX12_lightOf : List Cond := Cond.code yX12_lightOf cX12_lightOf 6 (some .int) :: WS
abbrev rmX12_lightOf : Room := { frames := 1, cells := 0, slots := 0, locals := 21 }
set_option maxHeartbeats 4000000 in
set_option maxRecDepth 100000 in
theorem k_X12_lightOf (l : Launch) (D : va_G) (C : Nat → ClassId) (sz : Nat) (aM : Nat → Nat)  (ms : Nat → Int32) (mw : Nat → Int64) (ma : Nat → Nat → Int32) (ml : Nat → Nat → Int64) (p1 : Int32) (p2 : Int32) {post : Int32 → Prop} (h : P_X12_lightOf ms ma p1 p2 post) : Met l yX12_lightOf vsX12_lightOf rmX12_lightOf (cPre D C [.ref (aM 0), .int p1, .int p2] sz (wM aM C ms mw ma ml)) (cQi D (fun (r : Int32) (u : Unit) => post r ) (fun u => wM aM C ms mw ma ml) (va_A (List.flatten (wM aM C ms mw ma ml)) sz)) 0 0 (va_A (List.flatten (wM aM C ms mw ma ml)) sz) := by
  refine cStart (QA := fun A => cQi D (fun (r : Int32) (u : Unit) => post r ) (fun u => wM aM C ms mw ma ml) A) (cc := cX12_lightOf) (maxL := 6) (ret := (some .int)) (by decide) (Nat.le_of_ble_eq_true rfl) ?_
  intro p e s m args below meth c A ls hx hb hr hml hown hw hlocks hname hK hN hA hP hD hS hl
  generalize hQ : MQ below _ args s 0 0 A = Q
  have hl : lv_has ls 6 [(0, .ref (aM 0)), (1, .int p1), (2, .int p2)] := hl
  obtain ⟨H, hH⟩ : ∃ H, H = s.heap := ⟨_, rfl⟩
  obtain ⟨locs, hlo⟩ : ∃ z : List Loc, z = [] := ⟨_, rfl⟩
  have hP : va_P D vwCl (List.flatten (wM aM C ms mw ma ml)) H := by rw [hH]; exact hP
  have hS : va_S A s.heap H locs := by rw [hH, hlo]; exact hS
  rw [show W p l e rmX12_lightOf s m args below meth c s.heap [] 0 0 Q (F0 m 0 ls []) = W p l e rmX12_lightOf s m args below meth c H locs 0 0 Q (F0 m 0 ls []) from by rw [hH, hlo]]
  have N89 : ∀ (x3_ : Int32) (H : Heap) (locs : List Loc) (ls : Array Slot), P_X12_lightOf_89 ms ma p1 p2 post  x3_ → va_P D vwCl (List.flatten (wM aM C ms mw ma ml)) H → va_D A (List.flatten (wM aM C ms mw ma ml)) → va_S A s.heap H locs → lv_has ls 6 [(0, .ref (aM 0)), (2, .int p2), (3, .int x3_)] → W p l e rmX12_lightOf s m args below meth c H locs 0 0 Q (F0 m 89 ls []) := by
    intro x3_ H locs ls h hP hD hS hl
    refine lv_iload_n hx hb dX12_lightOf_89 rfl (lv_at hl 2 rfl) ?_
    refine lv_aload_n hx hb dX12_lightOf_90 rfl (lv_at hl 0 rfl) ?_
    refine va_get (D := D) (ci := 12) (v := .int (ms 11)) (C := RX12) (T := TX12) (N := 51) hx hb hw inW_X12 hown hK hP 0 rfl rfl 32 (by decide) (hw _ mw_6_75) (fun _ h9 => h9) rfl dX12_lightOf_91 ?_
    refine lv_aload_n hx hb dX12_lightOf_94 rfl (lv_at hl 0 rfl) ?_
    refine va_get (D := D) (ci := 12) (v := .int (ms 10)) (C := RX12) (T := TX12) (N := 51) hx hb hw inW_X12 hown hK hP 0 rfl rfl 31 (by decide) (hw _ mw_6_74) (fun _ h9 => h9) rfl dX12_lightOf_95 ?_
    refine lv_iload_n hx hb dX12_lightOf_98 rfl (lv_at hl 1 rfl) ?_
    refine cGoI (wo := fun u => wM aM C ms mw ma ml) (cRunS (As := [.int (ms 10), .int p2]) (rest := [.int (ms 11), .int x3_]) ⟨hx, hb, hml, hown, hw⟩ hK hN hP hD [] rfl rfl (k_X12_apart l D C _    (ms 10) p2 h) (va_cwS 2 hw (goodS mw_7_133 mw_7_134 mw_1_13 mw_7_135) rfl rfl rfl (by decide +kernel) ⟨Nat.le_of_ble_eq_true rfl, Nat.le_of_ble_eq_true rfl⟩) rfl hl.1 rfl (Nat.le_of_ble_eq_true rfl) dX12_lightOf_99 ⟨Nat.zero_le _, Nat.zero_le _⟩) hP hD hS hA [] [0, 1, 2, 3, 4, 5, 6, 7, 8, 9, 10, 11, 12, 13, 14, 15, 16, 17, 18, 19, 20, 21, 22, 23, 24, 25, 26, 27, 28, 29, 30, 31, 32] [0, 1, 2, 3, 4, 5, 6, 7, 8, 9, 10, 11, 12, 13, 14, 15, 16, 17, 18, 19, 20, 21, 22, 23, 24, 25, 26, 27, 28, 29, 30, 31, 32] rfl rfl rfl (by decide) rfl (fun _ => rfl) (fun r1 u H locs h hP hD hS => ?_)
    have hP : va_P D vwCl (List.flatten (wM aM C ms mw ma ml)) H := hP
    have hD : va_D A (List.flatten (wM aM C ms mw ma ml)) := hD
    refine lv_isub hx hb dX12_lightOf_102 ?_
    refine cGoI (wo := fun u => wM aM C ms mw ma ml) (cRunS (As := [.int ((ms 11) - r1)]) (rest := [.int x3_]) ⟨hx, hb, hml, hown, hw⟩ hK hN hP hD [] rfl rfl (k_X12_above l D C _    ((ms 11) - r1) h) (va_cwS 1 hw (goodS mw_7_136 mw_7_137 mw_1_13 mw_7_138) rfl rfl rfl (by decide +kernel) ⟨Nat.le_of_ble_eq_true rfl, Nat.le_of_ble_eq_true rfl⟩) rfl hl.1 rfl (Nat.le_of_ble_eq_true rfl) dX12_lightOf_103 ⟨Nat.zero_le _, Nat.zero_le _⟩) hP hD hS hA [] [0, 1, 2, 3, 4, 5, 6, 7, 8, 9, 10, 11, 12, 13, 14, 15, 16, 17, 18, 19, 20, 21, 22, 23, 24, 25, 26, 27, 28, 29, 30, 31, 32] [0, 1, 2, 3, 4, 5, 6, 7, 8, 9, 10, 11, 12, 13, 14, 15, 16, 17, 18, 19, 20, 21, 22, 23, 24, 25, 26, 27, 28, 29, 30, 31, 32] rfl rfl rfl (by decide) rfl (fun _ => rfl) (fun r2 u H locs h hP hD hS => ?_)
    have hP : va_P D vwCl (List.flatten (wM aM C ms mw ma ml)) H := hP
    have hD : va_D A (List.flatten (wM aM C ms mw ma ml)) := hD
    refine lv_iadd hx hb dX12_lightOf_106 ?_
    rw [← hQ]
    exact cRetI (v := (x3_ + r2)) () hx hb hr hlocks hS hP hD h dX12_lightOf_107
  have N35 : ∀  (n35 : Nat) (x3_ : Int32) (x4_ : Int32) (H : Heap) (locs : List Loc) (ls : Array Slot), P_X12_lightOf_35 ms ma p1 p2 post (fun (x3_ : Int32) => P_X12_lightOf_89 ms ma p1 p2 post  x3_)  n35 x3_ x4_ → va_P D vwCl (List.flatten (wM aM C ms mw ma ml)) H → va_D A (List.flatten (wM aM C ms mw ma ml)) → va_S A s.heap H locs → lv_has ls 6 [(0, .ref (aM 0)), (1, .int p1), (2, .int p2), (3, .int x3_), (4, .int x4_)] → W p l e rmX12_lightOf s m args below meth c H locs 0 0 Q (F0 m 35 ls []) := by
    intro n35
    induction n35 with
    | zero => intro x3_ x4_ H locs ls h hP hD hS hl; exact False.elim h
    | succ n35 ih35 =>
      intro x3_ x4_ H locs ls h hP hD hS hl
      refine lv_iload hx hb dX12_lightOf_35 (lv_at hl 4 rfl) ?_
      refine lv_aload_n hx hb dX12_lightOf_37 rfl (lv_at hl 0 rfl) ?_
      refine va_get (D := D) (ci := 12) (v := .ref (aM 9)) (C := RX12) (T := TX12) (N := 51) hx hb hw inW_X12 hown hK hP 0 rfl rfl 19 (by decide) (hw _ mw_6_62) (fun _ h9 => h9) rfl dX12_lightOf_38 ?_
      refine lv_iload_n hx hb dX12_lightOf_41 rfl (lv_at hl 1 rfl) ?_
      refine cIald hx hb hK hP 9 0 rfl rfl p1.toNatClampNeg rfl h.1 dX12_lightOf_42 ?_
      have h := h.2
      refine lv_icmp_ge (tgt := 89) hx hb dX12_lightOf_43 (by decide) (fun c3 => ?_) (fun c3 => ?_)
      · have h := h.1 c3
        exact N89 x3_ _ _ _ h hP hD hS (lv_sub hl [0, 2, 3] rfl)
      · have h := h.2 c3
        refine lv_iconst (v := 2) hx hb dX12_lightOf_46 (by decide) ?_
        refine lv_iconst (v := 4) hx hb dX12_lightOf_47 (by decide) ?_
        refine lv_iload_n hx hb dX12_lightOf_48 rfl (lv_at hl 1 rfl) ?_
        refine lv_imul hx hb dX12_lightOf_49 ?_
        refine lv_iload hx hb dX12_lightOf_50 (lv_at hl 4 rfl) ?_
        refine lv_iadd hx hb dX12_lightOf_52 ?_
        refine lv_imul hx hb dX12_lightOf_53 ?_
        refine lv_topi (fun x4 ex4 => ?_)
        have h := h x4 ex4
        refine lv_istore (lv' := [(5, .int x4), (0, .ref (aM 0)), (1, .int p1), (2, .int p2), (3, .int x3_), (4, .int x4_)]) hx hb dX12_lightOf_54 hl (by decide) rfl (fun ls hl => ?_)
        refine lv_iload_n hx hb dX12_lightOf_56 rfl (lv_at hl 4 rfl) ?_
        refine lv_aload_n hx hb dX12_lightOf_57 rfl (lv_at hl 1 rfl) ?_
        refine va_get (D := D) (ci := 12) (v := .ref (aM 10)) (C := RX12) (T := TX12) (N := 51) hx hb hw inW_X12 hown hK hP 0 rfl rfl 20 (by decide) (hw _ mw_6_63) (fun _ h9 => h9) rfl dX12_lightOf_58 ?_
        refine lv_iload hx hb dX12_lightOf_61 (lv_at hl 0 rfl) ?_
        refine lv_iconst (v := 1) hx hb dX12_lightOf_63 (by decide) ?_
        refine lv_iadd hx hb dX12_lightOf_64 ?_
        refine cIald hx hb hK hP 10 0 rfl rfl ((x4 + 1).toNatClampNeg) rfl h.1 dX12_lightOf_65 ?_
        have h := h.2
        refine lv_aload_n hx hb dX12_lightOf_66 rfl (lv_at hl 1 rfl) ?_
        refine va_get (D := D) (ci := 12) (v := .ref (aM 10)) (C := RX12) (T := TX12) (N := 51) hx hb hw inW_X12 hown hK hP 0 rfl rfl 20 (by decide) (hw _ mw_6_63) (fun _ h9 => h9) rfl dX12_lightOf_67 ?_
        refine lv_iload hx hb dX12_lightOf_70 (lv_at hl 0 rfl) ?_
        refine cIald hx hb hK hP 10 0 rfl rfl x4.toNatClampNeg rfl h.1 dX12_lightOf_72 ?_
        have h := h.2
        refine lv_iload_n hx hb dX12_lightOf_73 rfl (lv_at hl 3 rfl) ?_
        refine cGoI (wo := fun u => wM aM C ms mw ma ml) (cRunS (As := [.int (ma 7 x4.toNatClampNeg), .int p2]) (rest := [.int (ma 7 ((x4 + 1).toNatClampNeg)), .int x3_]) ⟨hx, hb, hml, hown, hw⟩ hK hN hP hD [] rfl rfl (k_X12_apart l D C _    (ma 7 x4.toNatClampNeg) p2 h) (va_cwS 2 hw (goodS mw_7_133 mw_7_134 mw_1_13 mw_7_135) rfl rfl rfl (by decide +kernel) ⟨Nat.le_of_ble_eq_true rfl, Nat.le_of_ble_eq_true rfl⟩) rfl hl.1 rfl (Nat.le_of_ble_eq_true rfl) dX12_lightOf_74 ⟨Nat.zero_le _, Nat.zero_le _⟩) hP hD hS hA [] [0, 1, 2, 3, 4, 5, 6, 7, 8, 9, 10, 11, 12, 13, 14, 15, 16, 17, 18, 19, 20, 21, 22, 23, 24, 25, 26, 27, 28, 29, 30, 31, 32] [0, 1, 2, 3, 4, 5, 6, 7, 8, 9, 10, 11, 12, 13, 14, 15, 16, 17, 18, 19, 20, 21, 22, 23, 24, 25, 26, 27, 28, 29, 30, 31, 32] rfl rfl rfl (by decide) rfl (fun _ => rfl) (fun r5 u H locs h hP hD hS => ?_)
        have hP : va_P D vwCl (List.flatten (wM aM C ms mw ma ml)) H := hP
        have hD : va_D A (List.flatten (wM aM C ms mw ma ml)) := hD
        refine lv_isub hx hb dX12_lightOf_77 ?_
        refine cGoI (wo := fun u => wM aM C ms mw ma ml) (cRunS (As := [.int ((ma 7 ((x4 + 1).toNatClampNeg)) - r5)]) (rest := [.int x3_]) ⟨hx, hb, hml, hown, hw⟩ hK hN hP hD [] rfl rfl (k_X12_above l D C _    ((ma 7 ((x4 + 1).toNatClampNeg)) - r5) h) (va_cwS 1 hw (goodS mw_7_136 mw_7_137 mw_1_13 mw_7_138) rfl rfl rfl (by decide +kernel) ⟨Nat.le_of_ble_eq_true rfl, Nat.le_of_ble_eq_true rfl⟩) rfl hl.1 rfl (Nat.le_of_ble_eq_true rfl) dX12_lightOf_78 ⟨Nat.zero_le _, Nat.zero_le _⟩) hP hD hS hA [] [0, 1, 2, 3, 4, 5, 6, 7, 8, 9, 10, 11, 12, 13, 14, 15, 16, 17, 18, 19, 20, 21, 22, 23, 24, 25, 26, 27, 28, 29, 30, 31, 32] [0, 1, 2, 3, 4, 5, 6, 7, 8, 9, 10, 11, 12, 13, 14, 15, 16, 17, 18, 19, 20, 21, 22, 23, 24, 25, 26, 27, 28, 29, 30, 31, 32] rfl rfl rfl (by decide) rfl (fun _ => rfl) (fun r6 u H locs h hP hD hS => ?_)
        have hP : va_P D vwCl (List.flatten (wM aM C ms mw ma ml)) H := hP
        have hD : va_D A (List.flatten (wM aM C ms mw ma ml)) := hD
        refine lv_iadd hx hb dX12_lightOf_81 ?_
        refine lv_topi (fun x7 ex7 => ?_)
        have h := h x7 ex7
        refine lv_istore_n (lv' := [(3, .int x7), (5, .int x4), (0, .ref (aM 0)), (1, .int p1), (2, .int p2), (4, .int x4_)]) hx hb dX12_lightOf_82 rfl hl (by decide) rfl (fun ls hl => ?_)
        refine lv_iinc (v := (x4_ + 1)) (lv' := [(4, .int (x4_ + 1)), (3, .int x7), (5, .int x4), (0, .ref (aM 0)), (1, .int p1), (2, .int p2)]) hx hb dX12_lightOf_83 hl (k := 5) rfl rfl (by decide) rfl (fun ls hl => ?_)
        refine lv_goto (tgt := 35) hx hb dX12_lightOf_86 (by decide) ?_
        exact ih35 x7 (x4_ + 1) _ _ _ h hP hD hS (lv_sub hl [3, 4, 5, 1, 0] rfl)
  refine lv_aload_n hx hb dX12_lightOf_0 rfl (lv_at hl 0 rfl) ?_
  refine va_get (D := D) (ci := 12) (v := .ref (aM 17)) (C := RX12) (T := TX12) (N := 51) hx hb hw inW_X12 hown hK hP 0 rfl rfl 27 (by decide) (hw _ mw_6_70) (fun _ h9 => h9) rfl dX12_lightOf_1 ?_
  refine lv_bipush (v := 7) hx hb dX12_lightOf_4 (by decide) ?_
  refine lv_iload_n hx hb dX12_lightOf_6 rfl (lv_at hl 1 rfl) ?_
  refine lv_imul hx hb dX12_lightOf_7 ?_
  refine lv_bipush (v := 6) hx hb dX12_lightOf_8 (by decide) ?_
  refine lv_iadd hx hb dX12_lightOf_10 ?_
  refine cIald hx hb hK hP 17 0 rfl rfl (((7 * p1) + 6).toNatClampNeg) rfl h.1 dX12_lightOf_11 ?_
  have h := h.2
  refine lv_iconst (v := 1) hx hb dX12_lightOf_12 (by decide) ?_
  refine lv_icmp_ne (tgt := 30) hx hb dX12_lightOf_13 (by decide) (fun c8 => ?_) (fun c8 => ?_)
  · have h := h.1 c8
    refine lv_iconst (v := 0) hx hb dX12_lightOf_30 (by decide) ?_
    refine lv_istore_n (lv' := [(3, .int 0), (0, .ref (aM 0)), (1, .int p1), (2, .int p2)]) hx hb dX12_lightOf_31 rfl hl (by decide) rfl (fun ls hl => ?_)
    refine lv_iconst (v := 0) hx hb dX12_lightOf_32 (by decide) ?_
    refine lv_istore (lv' := [(4, .int 0), (3, .int 0), (0, .ref (aM 0)), (1, .int p1), (2, .int p2)]) hx hb dX12_lightOf_33 hl (by decide) rfl (fun ls hl => ?_)
    obtain ⟨n, h⟩ := h
    exact N35  n 0 0 _ _ _ h hP hD hS (lv_sub hl [2, 3, 4, 1, 0] rfl)
  · have h := h.2 c8
    refine lv_aload_n hx hb dX12_lightOf_16 rfl (lv_at hl 0 rfl) ?_
    refine va_get (D := D) (ci := 12) (v := .ref (aM 17)) (C := RX12) (T := TX12) (N := 51) hx hb hw inW_X12 hown hK hP 0 rfl rfl 27 (by decide) (hw _ mw_6_70) (fun _ h9 => h9) rfl dX12_lightOf_17 ?_
    refine lv_bipush (v := 7) hx hb dX12_lightOf_20 (by decide) ?_
    refine lv_iload_n hx hb dX12_lightOf_22 rfl (lv_at hl 1 rfl) ?_
    refine lv_imul hx hb dX12_lightOf_23 ?_
    refine lv_iconst (v := 5) hx hb dX12_lightOf_24 (by decide) ?_
    refine lv_iadd hx hb dX12_lightOf_25 ?_
    refine cIald hx hb hK hP 17 0 rfl rfl (((7 * p1) + 5).toNatClampNeg) rfl h.1 dX12_lightOf_26 ?_
    have h := h.2
    refine lv_goto (tgt := 31) hx hb dX12_lightOf_27 (by decide) ?_
    refine lv_topi (fun x9 ex9 => ?_)
    have h := h x9 ex9
    refine lv_istore_n (lv' := [(3, .int x9), (0, .ref (aM 0)), (1, .int p1), (2, .int p2)]) hx hb dX12_lightOf_31 rfl hl (by decide) rfl (fun ls hl => ?_)
    refine lv_iconst (v := 0) hx hb dX12_lightOf_32 (by decide) ?_
    refine lv_istore (lv' := [(4, .int 0), (3, .int x9), (0, .ref (aM 0)), (1, .int p1), (2, .int p2)]) hx hb dX12_lightOf_33 hl (by decide) rfl (fun ls hl => ?_)
    obtain ⟨n, h⟩ := h
    exact N35  n x9 0 _ _ _ h hP hD hS (lv_sub hl [2, 3, 4, 1, 0] rfl)
abbrev vsX12_isRail : List Cond := Cond.code yX12_isRail cX12_isRail 1 (some .boolean) :: WS
abbrev rmX12_isRail : Room := { frames := 0, cells := 0, slots := 0, locals := 0 }
set_option maxHeartbeats 4000000 in
set_option maxRecDepth 100000 in
theorem k_X12_isRail (l : Launch) (D : va_G) (C : Nat → ClassId) (sz : Nat) (aM : Nat → Nat)  (ms : Nat → Int32) (mw : Nat → Int64) (ma : Nat → Nat → Int32) (ml : Nat → Nat → Int64)  {post : Int32 → Prop} (h : P_X12_isRail ma post) : Met l yX12_isRail vsX12_isRail rmX12_isRail (cPre D C [.ref (aM 0)] sz (wM aM C ms mw ma ml)) (cQi D (fun (r : Int32) (u : Unit) => post r ) (fun u => wM aM C ms mw ma ml) (va_A (List.flatten (wM aM C ms mw ma ml)) sz)) 0 0 (va_A (List.flatten (wM aM C ms mw ma ml)) sz) := by
  refine cStart (QA := fun A => cQi D (fun (r : Int32) (u : Unit) => post r ) (fun u => wM aM C ms mw ma ml) A) (cc := cX12_isRail) (maxL := 1) (ret := (some .boolean)) (by decide) (Nat.le_of_ble_eq_true rfl) ?_
  intro p e s m args below meth c A ls hx hb hr hml hown hw hlocks hname hK hN hA hP hD hS hl
  generalize hQ : MQ below _ args s 0 0 A = Q
  have hl : lv_has ls 1 [(0, .ref (aM 0))] := hl
  obtain ⟨H, hH⟩ : ∃ H, H = s.heap := ⟨_, rfl⟩
  obtain ⟨locs, hlo⟩ : ∃ z : List Loc, z = [] := ⟨_, rfl⟩
  have hP : va_P D vwCl (List.flatten (wM aM C ms mw ma ml)) H := by rw [hH]; exact hP
  have hS : va_S A s.heap H locs := by rw [hH, hlo]; exact hS
  rw [show W p l e rmX12_isRail s m args below meth c s.heap [] 0 0 Q (F0 m 0 ls []) = W p l e rmX12_isRail s m args below meth c H locs 0 0 Q (F0 m 0 ls []) from by rw [hH, hlo]]
  refine lv_aload_n hx hb dX12_isRail_0 rfl (lv_at hl 0 rfl) ?_
  refine va_get (D := D) (ci := 12) (v := .ref (aM 7)) (C := RX12) (T := TX12) (N := 51) hx hb hw inW_X12 hown hK hP 0 rfl rfl 17 (by decide) (hw _ mw_6_60) (fun _ h9 => h9) rfl dX12_isRail_1 ?_
  refine lv_iconst (v := 0) hx hb dX12_isRail_4 (by decide) ?_
  refine cIald hx hb hK hP 7 0 rfl rfl 0 (by decide +kernel) (cIn (by decide +kernel)) dX12_isRail_5 ?_
  refine lv_if_le (tgt := 13) hx hb dX12_isRail_6 (by decide) (fun c1 => ?_) (fun c1 => ?_)
  · have h := h.1 c1
    refine lv_iconst (v := 0) hx hb dX12_isRail_13 (by decide) ?_
    rw [← hQ]
    exact cRetZ (v := 0) () hx hb hr hlocks hS hP hD (Or.inl rfl) h dX12_isRail_14
  · have h := h.2 c1
    refine lv_iconst (v := 1) hx hb dX12_isRail_9 (by decide) ?_
    refine lv_goto (tgt := 14) hx hb dX12_isRail_10 (by decide) ?_
    rw [← hQ]
    exact cRetZ (v := 1) () hx hb hr hlocks hS hP hD (Or.inr rfl) h dX12_isRail_14
abbrev vsX12_isPlace : List Cond := Cond.code yX12_isPlace cX12_isPlace 2 (some .boolean) :: WS
abbrev rmX12_isPlace : Room := { frames := 1, cells := 0, slots := 0, locals := 25 }
set_option maxHeartbeats 4000000 in
set_option maxRecDepth 100000 in
theorem k_X12_isPlace (l : Launch) (D : va_G) (C : Nat → ClassId) (sz : Nat) (aM : Nat → Nat)  (ms : Nat → Int32) (mw : Nat → Int64) (ma : Nat → Nat → Int32) (ml : Nat → Nat → Int64) (p1 : Int32) {post : Int32 → Prop} (h : P_X12_isPlace ma p1 post) : Met l yX12_isPlace vsX12_isPlace rmX12_isPlace (cPre D C [.ref (aM 0), .int p1] sz (wM aM C ms mw ma ml)) (cQi D (fun (r : Int32) (u : Unit) => post r ) (fun u => wM aM C ms mw ma ml) (va_A (List.flatten (wM aM C ms mw ma ml)) sz)) 0 0 (va_A (List.flatten (wM aM C ms mw ma ml)) sz) := by
  refine cStart (QA := fun A => cQi D (fun (r : Int32) (u : Unit) => post r ) (fun u => wM aM C ms mw ma ml) A) (cc := cX12_isPlace) (maxL := 2) (ret := (some .boolean)) (by decide) (Nat.le_of_ble_eq_true rfl) ?_
  intro p e s m args below meth c A ls hx hb hr hml hown hw hlocks hname hK hN hA hP hD hS hl
  generalize hQ : MQ below _ args s 0 0 A = Q
  have hl : lv_has ls 2 [(0, .ref (aM 0)), (1, .int p1)] := hl
  obtain ⟨H, hH⟩ : ∃ H, H = s.heap := ⟨_, rfl⟩
  obtain ⟨locs, hlo⟩ : ∃ z : List Loc, z = [] := ⟨_, rfl⟩
  have hP : va_P D vwCl (List.flatten (wM aM C ms mw ma ml)) H := by rw [hH]; exact hP
  have hS : va_S A s.heap H locs := by rw [hH, hlo]; exact hS
  rw [show W p l e rmX12_isPlace s m args below meth c s.heap [] 0 0 Q (F0 m 0 ls []) = W p l e rmX12_isPlace s m args below meth c H locs 0 0 Q (F0 m 0 ls []) from by rw [hH, hlo]]
  refine lv_iload_n hx hb dX12_isPlace_0 rfl (lv_at hl 1 rfl) ?_
  refine lv_i2l hx hb dX12_isPlace_1 rfl ?_
  refine lv_lconst (v := 0) hx hb dX12_isPlace_2 (by decide) ?_
  refine lv_aload_n hx hb dX12_isPlace_3 rfl (lv_at hl 0 rfl) ?_
  refine va_get (D := D) (ci := 12) (v := .ref (aM 7)) (C := RX12) (T := TX12) (N := 51) hx hb hw inW_X12 hown hK hP 0 rfl rfl 17 (by decide) (hw _ mw_6_60) (fun _ h9 => h9) rfl dX12_isPlace_4 ?_
  refine lv_iconst (v := 0) hx hb dX12_isPlace_7 (by decide) ?_
  refine cIald hx hb hK hP 7 0 rfl rfl 0 (by decide +kernel) (cIn (by decide +kernel)) dX12_isPlace_8 ?_
  refine lv_iconst (v := 1) hx hb dX12_isPlace_9 (by decide) ?_
  refine lv_isub hx hb dX12_isPlace_10 ?_
  refine lv_i2l hx hb dX12_isPlace_11 rfl ?_
  refine cGoI (wo := fun u => wM aM C ms mw ma ml) (cRunS (As := [.long p1.toInt64, .long 0, .long (((ma 4 0) - 1).toInt64)]) (rest := []) ⟨hx, hb, hml, hown, hw⟩ hK hN hP hD [] rfl rfl (k_X12_in l D C _    p1.toInt64 0 (((ma 4 0) - 1).toInt64) h) (va_cwS 3 hw (goodS mw_6_205 mw_6_206 mw_1_13 mw_6_207) rfl rfl rfl (by decide +kernel) ⟨Nat.le_of_ble_eq_true rfl, Nat.le_of_ble_eq_true rfl⟩) rfl hl.1 rfl (Nat.le_of_ble_eq_true rfl) dX12_isPlace_12 ⟨Nat.zero_le _, Nat.zero_le _⟩) hP hD hS hA [] [0, 1, 2, 3, 4, 5, 6, 7, 8, 9, 10, 11, 12, 13, 14, 15, 16, 17, 18, 19, 20, 21, 22, 23, 24, 25, 26, 27, 28, 29, 30, 31, 32] [0, 1, 2, 3, 4, 5, 6, 7, 8, 9, 10, 11, 12, 13, 14, 15, 16, 17, 18, 19, 20, 21, 22, 23, 24, 25, 26, 27, 28, 29, 30, 31, 32] rfl rfl rfl (by decide) rfl (fun _ => rfl) (fun r1 u H locs h hP hD hS => ?_)
  have hP : va_P D vwCl (List.flatten (wM aM C ms mw ma ml)) H := hP
  have hD : va_D A (List.flatten (wM aM C ms mw ma ml)) := hD
  rw [← hQ]
  exact cRetZ (v := r1) () hx hb hr hlocks hS hP hD h.1 h.2 dX12_isPlace_15
abbrev vsX12_isBike : List Cond := Cond.code yX12_isBike cX12_isBike 2 (some .boolean) :: WS
abbrev rmX12_isBike : Room := { frames := 1, cells := 0, slots := 0, locals := 25 }
set_option maxHeartbeats 4000000 in
set_option maxRecDepth 100000 in
theorem k_X12_isBike (l : Launch) (D : va_G) (C : Nat → ClassId) (sz : Nat) (aM : Nat → Nat)  (ms : Nat → Int32) (mw : Nat → Int64) (ma : Nat → Nat → Int32) (ml : Nat → Nat → Int64) (p1 : Int32) {post : Int32 → Prop} (h : P_X12_isBike ma p1 post) : Met l yX12_isBike vsX12_isBike rmX12_isBike (cPre D C [.ref (aM 0), .int p1] sz (wM aM C ms mw ma ml)) (cQi D (fun (r : Int32) (u : Unit) => post r ) (fun u => wM aM C ms mw ma ml) (va_A (List.flatten (wM aM C ms mw ma ml)) sz)) 0 0 (va_A (List.flatten (wM aM C ms mw ma ml)) sz) := by
  refine cStart (QA := fun A => cQi D (fun (r : Int32) (u : Unit) => post r ) (fun u => wM aM C ms mw ma ml) A) (cc := cX12_isBike) (maxL := 2) (ret := (some .boolean)) (by decide) (Nat.le_of_ble_eq_true rfl) ?_
  intro p e s m args below meth c A ls hx hb hr hml hown hw hlocks hname hK hN hA hP hD hS hl
  generalize hQ : MQ below _ args s 0 0 A = Q
  have hl : lv_has ls 2 [(0, .ref (aM 0)), (1, .int p1)] := hl
  obtain ⟨H, hH⟩ : ∃ H, H = s.heap := ⟨_, rfl⟩
  obtain ⟨locs, hlo⟩ : ∃ z : List Loc, z = [] := ⟨_, rfl⟩
  have hP : va_P D vwCl (List.flatten (wM aM C ms mw ma ml)) H := by rw [hH]; exact hP
  have hS : va_S A s.heap H locs := by rw [hH, hlo]; exact hS
  rw [show W p l e rmX12_isBike s m args below meth c s.heap [] 0 0 Q (F0 m 0 ls []) = W p l e rmX12_isBike s m args below meth c H locs 0 0 Q (F0 m 0 ls []) from by rw [hH, hlo]]
  refine lv_iload_n hx hb dX12_isBike_0 rfl (lv_at hl 1 rfl) ?_
  refine lv_i2l hx hb dX12_isBike_1 rfl ?_
  refine lv_lconst (v := 0) hx hb dX12_isBike_2 (by decide) ?_
  refine lv_aload_n hx hb dX12_isBike_3 rfl (lv_at hl 0 rfl) ?_
  refine va_get (D := D) (ci := 12) (v := .ref (aM 13)) (C := RX12) (T := TX12) (N := 51) hx hb hw inW_X12 hown hK hP 0 rfl rfl 23 (by decide) (hw _ mw_6_66) (fun _ h9 => h9) rfl dX12_isBike_4 ?_
  refine lv_iconst (v := 0) hx hb dX12_isBike_7 (by decide) ?_
  refine cIald hx hb hK hP 13 0 rfl rfl 0 (by decide +kernel) (cIn (by decide +kernel)) dX12_isBike_8 ?_
  refine lv_iconst (v := 1) hx hb dX12_isBike_9 (by decide) ?_
  refine lv_isub hx hb dX12_isBike_10 ?_
  refine lv_i2l hx hb dX12_isBike_11 rfl ?_
  refine cGoI (wo := fun u => wM aM C ms mw ma ml) (cRunS (As := [.long p1.toInt64, .long 0, .long (((ma 10 0) - 1).toInt64)]) (rest := []) ⟨hx, hb, hml, hown, hw⟩ hK hN hP hD [] rfl rfl (k_X12_in l D C _    p1.toInt64 0 (((ma 10 0) - 1).toInt64) h) (va_cwS 3 hw (goodS mw_6_205 mw_6_206 mw_1_13 mw_6_207) rfl rfl rfl (by decide +kernel) ⟨Nat.le_of_ble_eq_true rfl, Nat.le_of_ble_eq_true rfl⟩) rfl hl.1 rfl (Nat.le_of_ble_eq_true rfl) dX12_isBike_12 ⟨Nat.zero_le _, Nat.zero_le _⟩) hP hD hS hA [] [0, 1, 2, 3, 4, 5, 6, 7, 8, 9, 10, 11, 12, 13, 14, 15, 16, 17, 18, 19, 20, 21, 22, 23, 24, 25, 26, 27, 28, 29, 30, 31, 32] [0, 1, 2, 3, 4, 5, 6, 7, 8, 9, 10, 11, 12, 13, 14, 15, 16, 17, 18, 19, 20, 21, 22, 23, 24, 25, 26, 27, 28, 29, 30, 31, 32] rfl rfl rfl (by decide) rfl (fun _ => rfl) (fun r1 u H locs h hP hD hS => ?_)
  have hP : va_P D vwCl (List.flatten (wM aM C ms mw ma ml)) H := hP
  have hD : va_D A (List.flatten (wM aM C ms mw ma ml)) := hD
  rw [← hQ]
  exact cRetZ (v := r1) () hx hb hr hlocks hS hP hD h.1 h.2 dX12_isBike_15
abbrev vsX12_isThief : List Cond := Cond.code yX12_isThief cX12_isThief 2 (some .boolean) :: WS
abbrev rmX12_isThief : Room := { frames := 1, cells := 0, slots := 0, locals := 25 }
set_option maxHeartbeats 4000000 in
set_option maxRecDepth 100000 in
theorem k_X12_isThief (l : Launch) (D : va_G) (C : Nat → ClassId) (sz : Nat) (aM : Nat → Nat)  (ms : Nat → Int32) (mw : Nat → Int64) (ma : Nat → Nat → Int32) (ml : Nat → Nat → Int64) (p1 : Int32) {post : Int32 → Prop} (h : P_X12_isThief ma p1 post) : Met l yX12_isThief vsX12_isThief rmX12_isThief (cPre D C [.ref (aM 0), .int p1] sz (wM aM C ms mw ma ml)) (cQi D (fun (r : Int32) (u : Unit) => post r ) (fun u => wM aM C ms mw ma ml) (va_A (List.flatten (wM aM C ms mw ma ml)) sz)) 0 0 (va_A (List.flatten (wM aM C ms mw ma ml)) sz) := by
  refine cStart (QA := fun A => cQi D (fun (r : Int32) (u : Unit) => post r ) (fun u => wM aM C ms mw ma ml) A) (cc := cX12_isThief) (maxL := 2) (ret := (some .boolean)) (by decide) (Nat.le_of_ble_eq_true rfl) ?_
  intro p e s m args below meth c A ls hx hb hr hml hown hw hlocks hname hK hN hA hP hD hS hl
  generalize hQ : MQ below _ args s 0 0 A = Q
  have hl : lv_has ls 2 [(0, .ref (aM 0)), (1, .int p1)] := hl
  obtain ⟨H, hH⟩ : ∃ H, H = s.heap := ⟨_, rfl⟩
  obtain ⟨locs, hlo⟩ : ∃ z : List Loc, z = [] := ⟨_, rfl⟩
  have hP : va_P D vwCl (List.flatten (wM aM C ms mw ma ml)) H := by rw [hH]; exact hP
  have hS : va_S A s.heap H locs := by rw [hH, hlo]; exact hS
  rw [show W p l e rmX12_isThief s m args below meth c s.heap [] 0 0 Q (F0 m 0 ls []) = W p l e rmX12_isThief s m args below meth c H locs 0 0 Q (F0 m 0 ls []) from by rw [hH, hlo]]
  refine lv_iload_n hx hb dX12_isThief_0 rfl (lv_at hl 1 rfl) ?_
  refine lv_i2l hx hb dX12_isThief_1 rfl ?_
  refine lv_lconst (v := 0) hx hb dX12_isThief_2 (by decide) ?_
  refine lv_aload_n hx hb dX12_isThief_3 rfl (lv_at hl 0 rfl) ?_
  refine va_get (D := D) (ci := 12) (v := .ref (aM 15)) (C := RX12) (T := TX12) (N := 51) hx hb hw inW_X12 hown hK hP 0 rfl rfl 25 (by decide) (hw _ mw_6_68) (fun _ h9 => h9) rfl dX12_isThief_4 ?_
  refine lv_iconst (v := 0) hx hb dX12_isThief_7 (by decide) ?_
  refine cIald hx hb hK hP 15 0 rfl rfl 0 (by decide +kernel) (cIn (by decide +kernel)) dX12_isThief_8 ?_
  refine lv_iconst (v := 1) hx hb dX12_isThief_9 (by decide) ?_
  refine lv_isub hx hb dX12_isThief_10 ?_
  refine lv_i2l hx hb dX12_isThief_11 rfl ?_
  refine cGoI (wo := fun u => wM aM C ms mw ma ml) (cRunS (As := [.long p1.toInt64, .long 0, .long (((ma 12 0) - 1).toInt64)]) (rest := []) ⟨hx, hb, hml, hown, hw⟩ hK hN hP hD [] rfl rfl (k_X12_in l D C _    p1.toInt64 0 (((ma 12 0) - 1).toInt64) h) (va_cwS 3 hw (goodS mw_6_205 mw_6_206 mw_1_13 mw_6_207) rfl rfl rfl (by decide +kernel) ⟨Nat.le_of_ble_eq_true rfl, Nat.le_of_ble_eq_true rfl⟩) rfl hl.1 rfl (Nat.le_of_ble_eq_true rfl) dX12_isThief_12 ⟨Nat.zero_le _, Nat.zero_le _⟩) hP hD hS hA [] [0, 1, 2, 3, 4, 5, 6, 7, 8, 9, 10, 11, 12, 13, 14, 15, 16, 17, 18, 19, 20, 21, 22, 23, 24, 25, 26, 27, 28, 29, 30, 31, 32] [0, 1, 2, 3, 4, 5, 6, 7, 8, 9, 10, 11, 12, 13, 14, 15, 16, 17, 18, 19, 20, 21, 22, 23, 24, 25, 26, 27, 28, 29, 30, 31, 32] rfl rfl rfl (by decide) rfl (fun _ => rfl) (fun r1 u H locs h hP hD hS => ?_)
  have hP : va_P D vwCl (List.flatten (wM aM C ms mw ma ml)) H := hP
  have hD : va_D A (List.flatten (wM aM C ms mw ma ml)) := hD
  rw [← hQ]
  exact cRetZ (v := r1) () hx hb hr hlocks hS hP hD h.1 h.2 dX12_isThief_15
