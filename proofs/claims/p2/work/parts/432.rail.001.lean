abbrev vsX4_hasThief : List Cond := Cond.code yX4_hasThief cX4_hasThief 2 (some .boolean) :: WS
abbrev rmX4_hasThief : Room := { frames := 0, cells := 0, slots := 0, locals := 0 }
set_option maxHeartbeats 4000000 in
set_option maxRecDepth 100000 in
theorem k_X4_hasThief (l : Launch) (D : va_G) (C : Nat → ClassId) (sz : Nat) (aR : Nat → Nat)  (rs : Nat → Int32) (ra : Nat → Nat → Int32) (p1 : Int32) {post : Int32 → Prop} (h : P_X4_hasThief rs p1 post) : Met l yX4_hasThief vsX4_hasThief rmX4_hasThief (cPre D C [.ref (aR 0), .int p1] sz (wRail aR C rs ra)) (cQi D (fun (r : Int32) (u : Unit) => post r ) (fun u => wRail aR C rs ra) (va_A (List.flatten (wRail aR C rs ra)) sz)) 0 0 (va_A (List.flatten (wRail aR C rs ra)) sz) := by
  refine cStart (QA := fun A => cQi D (fun (r : Int32) (u : Unit) => post r ) (fun u => wRail aR C rs ra) A) (cc := cX4_hasThief) (maxL := 2) (ret := (some .boolean)) (by decide) (Nat.le_of_ble_eq_true rfl) ?_
  intro p e s m args below meth c A ls hx hb hr hml hown hw hlocks hname hK hN hA hP hD hS hl
  generalize hQ : MQ below _ args s 0 0 A = Q
  have hl : lv_has ls 2 [(0, .ref (aR 0)), (1, .int p1)] := hl
  have hn61 : (Cond.fieldLinkNest "LockRail$Rail" 61 "LockRail$Thieves" "count" "I" "LockRail").before args s = true := hN.f 32 rfl
  obtain ⟨H, hH⟩ : ∃ H, H = s.heap := ⟨_, rfl⟩
  obtain ⟨locs, hlo⟩ : ∃ z : List Loc, z = [] := ⟨_, rfl⟩
  have hP : va_P D vwCl (List.flatten (wRail aR C rs ra)) H := by rw [hH]; exact hP
  have hS : va_S A s.heap H locs := by rw [hH, hlo]; exact hS
  rw [show W p l e rmX4_hasThief s m args below meth c s.heap [] 0 0 Q (F0 m 0 ls []) = W p l e rmX4_hasThief s m args below meth c H locs 0 0 Q (F0 m 0 ls []) from by rw [hH, hlo]]
  refine lv_iload_n hx hb dX4_hasThief_0 rfl (lv_at hl 1 rfl) ?_
  refine lv_if_lt (tgt := 19) hx hb dX4_hasThief_1 (by decide) (fun c1 => ?_) (fun c1 => ?_)
  · have h := h.1 c1
    refine lv_iconst (v := 0) hx hb dX4_hasThief_19 (by decide) ?_
    rw [← hQ]
    exact cRetZ (v := 0) () hx hb hr hlocks hS hP hD (Or.inl rfl) h dX4_hasThief_20
  · have h := h.2 c1
    refine lv_iload_n hx hb dX4_hasThief_4 rfl (lv_at hl 1 rfl) ?_
    refine lv_aload_n hx hb dX4_hasThief_5 rfl (lv_at hl 0 rfl) ?_
    refine va_get (D := D) (ci := 4) (v := .ref (aR 13)) (C := RX4) (T := TX4) (N := 16) hx hb hw inW_X4 hown hK hP 0 rfl rfl 6 (by decide) (hw _ mw_2_5) (fun _ h9 => h9) rfl dX4_hasThief_6 ?_
    refine va_getN (D := D) (ci := 9) (v := .int (rs 14)) (C := RX9) (T := TX9) (N := 6) hx hb hw inW_X9 hown hK hP 13 rfl rfl 0 (by decide) hn61 (fun _ h9 => h9) rfl dX4_hasThief_9 ?_
    refine lv_icmp_ge (tgt := 19) hx hb dX4_hasThief_12 (by decide) (fun c2 => ?_) (fun c2 => ?_)
    · have h := h.1 c2
      refine lv_iconst (v := 0) hx hb dX4_hasThief_19 (by decide) ?_
      rw [← hQ]
      exact cRetZ (v := 0) () hx hb hr hlocks hS hP hD (Or.inl rfl) h dX4_hasThief_20
    · have h := h.2 c2
      refine lv_iconst (v := 1) hx hb dX4_hasThief_15 (by decide) ?_
      refine lv_goto (tgt := 20) hx hb dX4_hasThief_16 (by decide) ?_
      rw [← hQ]
      exact cRetZ (v := 1) () hx hb hr hlocks hS hP hD (Or.inr rfl) h dX4_hasThief_20
abbrev vsX4_troubleOf : List Cond := Cond.code yX4_troubleOf cX4_troubleOf 6 (some .int) :: WS
abbrev rmX4_troubleOf : Room := { frames := 0, cells := 0, slots := 0, locals := 0 }
set_option maxHeartbeats 4000000 in
set_option maxRecDepth 100000 in
theorem k_X4_troubleOf (l : Launch) (D : va_G) (C : Nat → ClassId) (sz : Nat) (aR : Nat → Nat)  (rs : Nat → Int32) (ra : Nat → Nat → Int32) (p1 : Int32) (p2 : Int32) (p3 : Int32) {post : Int32 → Prop} (h : P_X4_troubleOf ra p1 p2 p3 post) : Met l yX4_troubleOf vsX4_troubleOf rmX4_troubleOf (cPre D C [.ref (aR 0), .int p1, .int p2, .int p3] sz (wRail aR C rs ra)) (cQi D (fun (r : Int32) (u : Unit) => post r ) (fun u => wRail aR C rs ra) (va_A (List.flatten (wRail aR C rs ra)) sz)) 0 0 (va_A (List.flatten (wRail aR C rs ra)) sz) := by
  refine cStart (QA := fun A => cQi D (fun (r : Int32) (u : Unit) => post r ) (fun u => wRail aR C rs ra) A) (cc := cX4_troubleOf) (maxL := 6) (ret := (some .int)) (by decide) (Nat.le_of_ble_eq_true rfl) ?_
  intro p e s m args below meth c A ls hx hb hr hml hown hw hlocks hname hK hN hA hP hD hS hl
  generalize hQ : MQ below _ args s 0 0 A = Q
  have hl : lv_has ls 6 [(0, .ref (aR 0)), (1, .int p1), (2, .int p2), (3, .int p3)] := hl
  have hn140 : (Cond.fieldLinkNest "LockRail$Rail" 140 "LockRail$Thieves" "fears" "[I" "LockRail").before args s = true := hN.f 38 rfl
  have hn131 : (Cond.fieldLinkNest "LockRail$Rail" 131 "LockRail$Bikes" "lock" "[I" "LockRail").before args s = true := hN.f 29 rfl
  have hn134 : (Cond.fieldLinkNest "LockRail$Rail" 134 "LockRail$Locks" "cuts" "[I" "LockRail").before args s = true := hN.f 16 rfl
  have hn137 : (Cond.fieldLinkNest "LockRail$Rail" 137 "LockRail$Thieves" "tool" "[I" "LockRail").before args s = true := hN.f 36 rfl
  obtain ⟨H, hH⟩ : ∃ H, H = s.heap := ⟨_, rfl⟩
  obtain ⟨locs, hlo⟩ : ∃ z : List Loc, z = [] := ⟨_, rfl⟩
  have hP : va_P D vwCl (List.flatten (wRail aR C rs ra)) H := by rw [hH]; exact hP
  have hS : va_S A s.heap H locs := by rw [hH, hlo]; exact hS
  rw [show W p l e rmX4_troubleOf s m args below meth c s.heap [] 0 0 Q (F0 m 0 ls []) = W p l e rmX4_troubleOf s m args below meth c H locs 0 0 Q (F0 m 0 ls []) from by rw [hH, hlo]]
  have N43 : ∀ (k0_ : Int32) (H : Heap) (locs : List Loc) (ls : Array Slot), P_X4_troubleOf_43 ra p1 p2 p3 post  k0_ → va_P D vwCl (List.flatten (wRail aR C rs ra)) H → va_D A (List.flatten (wRail aR C rs ra)) → va_S A s.heap H locs → lv_has ls 6 [(0, .ref (aR 0)), (1, .int p1), (3, .int p3)] → W p l e rmX4_troubleOf s m args below meth c H locs 0 0 Q (F0 m 43 ls [.int k0_]) := by
    intro k0_ H locs ls h hP hD hS hl
    refine lv_istore (lv' := [(5, .int k0_), (0, .ref (aR 0)), (1, .int p1), (3, .int p3)]) hx hb dX4_troubleOf_43 hl (by decide) rfl (fun ls hl => ?_)
    refine lv_iload hx hb dX4_troubleOf_45 (lv_at hl 0 rfl) ?_
    refine lv_aload_n hx hb dX4_troubleOf_47 rfl (lv_at hl 1 rfl) ?_
    refine va_get (D := D) (ci := 4) (v := .ref (aR 13)) (C := RX4) (T := TX4) (N := 16) hx hb hw inW_X4 hown hK hP 0 rfl rfl 6 (by decide) (hw _ mw_2_5) (fun _ h9 => h9) rfl dX4_troubleOf_48 ?_
    refine va_getN (D := D) (ci := 9) (v := .ref (aR 16)) (C := RX9) (T := TX9) (N := 6) hx hb hw inW_X9 hown hK hP 13 rfl rfl 3 (by decide) hn140 (fun _ h9 => h9) rfl dX4_troubleOf_51 ?_
    refine lv_iload_n hx hb dX4_troubleOf_54 rfl (lv_at hl 2 rfl) ?_
    refine cIald hx hb hK hP 16 0 rfl rfl p1.toNatClampNeg rfl h.1 dX4_troubleOf_55 ?_
    have h := h.2
    refine lv_imul hx hb dX4_troubleOf_56 ?_
    refine lv_iconst (v := 1) hx hb dX4_troubleOf_57 (by decide) ?_
    refine lv_iload_n hx hb dX4_troubleOf_58 rfl (lv_at hl 3 rfl) ?_
    refine lv_iadd hx hb dX4_troubleOf_59 ?_
    refine lv_imul hx hb dX4_troubleOf_60 ?_
    refine lv_bipush (v := 100) hx hb dX4_troubleOf_61 (by decide) ?_
    refine lv_idiv hx hb dX4_troubleOf_63 (by decide) ?_
    rw [← hQ]
    exact cRetI (v := (((k0_ * (ra 11 p1.toNatClampNeg)) * (1 + p3)) / 100)) () hx hb hr hlocks hS hP hD h dX4_troubleOf_64
  refine lv_aload_n hx hb dX4_troubleOf_0 rfl (lv_at hl 0 rfl) ?_
  refine va_get (D := D) (ci := 4) (v := .ref (aR 7)) (C := RX4) (T := TX4) (N := 16) hx hb hw inW_X4 hown hK hP 0 rfl rfl 5 (by decide) (hw _ mw_2_1) (fun _ h9 => h9) rfl dX4_troubleOf_1 ?_
  refine va_getN (D := D) (ci := 0) (v := .ref (aR 11)) (C := RX0) (T := TX0) (N := 6) hx hb hw inW_X0 hown hK hP 7 rfl rfl 4 (by decide) hn131 (fun _ h9 => h9) rfl dX4_troubleOf_4 ?_
  refine lv_iload_n hx hb dX4_troubleOf_7 rfl (lv_at hl 2 rfl) ?_
  refine cIald hx hb hK hP 11 0 rfl rfl p2.toNatClampNeg rfl h.1 dX4_troubleOf_8 ?_
  have h := h.2
  refine lv_topi (fun x1 ex1 => ?_)
  have h := h x1 ex1
  refine lv_istore (lv' := [(4, .int x1), (0, .ref (aR 0)), (1, .int p1), (2, .int p2), (3, .int p3)]) hx hb dX4_troubleOf_9 hl (by decide) rfl (fun ls hl => ?_)
  refine lv_iload hx hb dX4_troubleOf_11 (lv_at hl 0 rfl) ?_
  refine lv_iconst (v := (-1)) hx hb dX4_troubleOf_13 (by decide) ?_
  refine lv_icmp_ne (tgt := 21) hx hb dX4_troubleOf_14 (by decide) (fun c2 => ?_) (fun c2 => ?_)
  · have h := h.1 c2
    refine lv_aload_n hx hb dX4_troubleOf_21 rfl (lv_at hl 1 rfl) ?_
    refine va_get (D := D) (ci := 4) (v := .ref (aR 4)) (C := RX4) (T := TX4) (N := 16) hx hb hw inW_X4 hown hK hP 0 rfl rfl 4 (by decide) (hw _ mw_1_238) (fun _ h9 => h9) rfl dX4_troubleOf_22 ?_
    refine va_getN (D := D) (ci := 2) (v := .ref (aR 6)) (C := RX2) (T := TX2) (N := 3) hx hb hw inW_X2 hown hK hP 4 rfl rfl 2 (by decide) hn134 (fun _ h9 => h9) rfl dX4_troubleOf_25 ?_
    refine lv_iconst (v := 3) hx hb dX4_troubleOf_28 (by decide) ?_
    refine lv_iload hx hb dX4_troubleOf_29 (lv_at hl 0 rfl) ?_
    refine lv_imul hx hb dX4_troubleOf_31 ?_
    refine lv_aload_n hx hb dX4_troubleOf_32 rfl (lv_at hl 1 rfl) ?_
    refine va_get (D := D) (ci := 4) (v := .ref (aR 13)) (C := RX4) (T := TX4) (N := 16) hx hb hw inW_X4 hown hK hP 0 rfl rfl 6 (by decide) (hw _ mw_2_5) (fun _ h9 => h9) rfl dX4_troubleOf_33 ?_
    refine va_getN (D := D) (ci := 9) (v := .ref (aR 14)) (C := RX9) (T := TX9) (N := 6) hx hb hw inW_X9 hown hK hP 13 rfl rfl 1 (by decide) hn137 (fun _ h9 => h9) rfl dX4_troubleOf_36 ?_
    refine lv_iload_n hx hb dX4_troubleOf_39 rfl (lv_at hl 2 rfl) ?_
    refine cIald hx hb hK hP 14 0 rfl rfl p1.toNatClampNeg rfl h.1 dX4_troubleOf_40 ?_
    have h := h.2
    refine lv_iadd hx hb dX4_troubleOf_41 ?_
    refine cIald hx hb hK hP 6 0 rfl rfl (((3 * x1) + (ra 9 p1.toNatClampNeg)).toNatClampNeg) rfl h.1 dX4_troubleOf_42 ?_
    have h := h.2
    exact N43 (ra 3 (((3 * x1) + (ra 9 p1.toNatClampNeg)).toNatClampNeg)) _ _ _ h hP hD hS (lv_sub hl [1, 2, 4] rfl)
  · have h := h.2 c2
    refine lv_iconst (v := 0) hx hb dX4_troubleOf_17 (by decide) ?_
    refine lv_goto (tgt := 43) hx hb dX4_troubleOf_18 (by decide) ?_
    exact N43 0 _ _ _ h hP hD hS (lv_sub hl [1, 2, 4] rfl)
abbrev vsX4_gainOf : List Cond := Cond.code yX4_gainOf cX4_gainOf 5 (some .int) :: WS
abbrev rmX4_gainOf : Room := { frames := 0, cells := 0, slots := 0, locals := 0 }
set_option maxHeartbeats 4000000 in
set_option maxRecDepth 100000 in
theorem k_X4_gainOf (l : Launch) (D : va_G) (C : Nat → ClassId) (sz : Nat) (aR : Nat → Nat)  (rs : Nat → Int32) (ra : Nat → Nat → Int32) (p1 : Int32) (p2 : Int32) {post : Int32 → Prop} (h : P_X4_gainOf rs ra p1 p2 post) : Met l yX4_gainOf vsX4_gainOf rmX4_gainOf (cPre D C [.ref (aR 0), .int p1, .int p2] sz (wRail aR C rs ra)) (cQi D (fun (r : Int32) (u : Unit) => post r ) (fun u => wRail aR C rs ra) (va_A (List.flatten (wRail aR C rs ra)) sz)) 0 0 (va_A (List.flatten (wRail aR C rs ra)) sz) := by
  refine cStart (QA := fun A => cQi D (fun (r : Int32) (u : Unit) => post r ) (fun u => wRail aR C rs ra) A) (cc := cX4_gainOf) (maxL := 5) (ret := (some .int)) (by decide) (Nat.le_of_ble_eq_true rfl) ?_
  intro p e s m args below meth c A ls hx hb hr hml hown hw hlocks hname hK hN hA hP hD hS hl
  generalize hQ : MQ below _ args s 0 0 A = Q
  have hl : lv_has ls 5 [(0, .ref (aR 0)), (1, .int p1), (2, .int p2)] := hl
  have hn146 : (Cond.fieldLinkNest "LockRail$Rail" 146 "LockRail$Bikes" "marked" "[Z" "LockRail").before args s = true := hN.f 31 rfl
  have hn143 : (Cond.fieldLinkNest "LockRail$Rail" 143 "LockRail$Bikes" "seems" "[I" "LockRail").before args s = true := hN.f 25 rfl
  have hn60 : (Cond.fieldLinkNest "LockRail$Rail" 60 "LockRail$Bikes" "count" "I" "LockRail").before args s = true := hN.f 17 rfl
  obtain ⟨H, hH⟩ : ∃ H, H = s.heap := ⟨_, rfl⟩
  obtain ⟨locs, hlo⟩ : ∃ z : List Loc, z = [] := ⟨_, rfl⟩
  have hP : va_P D vwCl (List.flatten (wRail aR C rs ra)) H := by rw [hH]; exact hP
  have hS : va_S A s.heap H locs := by rw [hH, hlo]; exact hS
  rw [show W p l e rmX4_gainOf s m args below meth c s.heap [] 0 0 Q (F0 m 0 ls []) = W p l e rmX4_gainOf s m args below meth c H locs 0 0 Q (F0 m 0 ls []) from by rw [hH, hlo]]
  have N49 : ∀ (x3_ : Int32) (H : Heap) (locs : List Loc) (ls : Array Slot), P_X4_gainOf_49 rs ra p1 p2 post  x3_ → va_P D vwCl (List.flatten (wRail aR C rs ra)) H → va_D A (List.flatten (wRail aR C rs ra)) → va_S A s.heap H locs → lv_has ls 5 [(0, .ref (aR 0)), (1, .int p1), (3, .int x3_)] → W p l e rmX4_gainOf s m args below meth c H locs 0 0 Q (F0 m 49 ls []) := by
    intro x3_ H locs ls h hP hD hS hl
    refine lv_aload_n hx hb dX4_gainOf_49 rfl (lv_at hl 0 rfl) ?_
    refine va_get (D := D) (ci := 4) (v := .ref (aR 7)) (C := RX4) (T := TX4) (N := 16) hx hb hw inW_X4 hown hK hP 0 rfl rfl 5 (by decide) (hw _ mw_2_1) (fun _ h9 => h9) rfl dX4_gainOf_50 ?_
    refine va_getN (D := D) (ci := 0) (v := .ref (aR 12)) (C := RX0) (T := TX0) (N := 6) hx hb hw inW_X0 hown hK hP 7 rfl rfl 5 (by decide) hn146 (fun _ h9 => h9) rfl dX4_gainOf_53 ?_
    refine lv_iload_n hx hb dX4_gainOf_56 rfl (lv_at hl 1 rfl) ?_
    refine cZald hx hb hK hP 12 3 rfl rfl p1.toNatClampNeg rfl h.1 dX4_gainOf_57 ?_
    have h := h.2
    refine lv_if_eq (tgt := 76) hx hb dX4_gainOf_58 (by decide) (fun c1 => ?_) (fun c1 => ?_)
    · have h := h.1 c1
      refine lv_iload_n hx hb dX4_gainOf_76 rfl (lv_at hl 2 rfl) ?_
      rw [← hQ]
      exact cRetI (v := x3_) () hx hb hr hlocks hS hP hD h dX4_gainOf_77
    · have h := h.2 c1
      refine lv_iload_n hx hb dX4_gainOf_61 rfl (lv_at hl 2 rfl) ?_
      refine lv_bipush (v := 100) hx hb dX4_gainOf_62 (by decide) ?_
      refine lv_aload_n hx hb dX4_gainOf_64 rfl (lv_at hl 0 rfl) ?_
      refine va_get (D := D) (ci := 4) (v := .int (rs 5)) (C := RX4) (T := TX4) (N := 16) hx hb hw inW_X4 hown hK hP 0 rfl rfl 9 (by decide) (hw _ mw_2_13) (fun _ h9 => h9) rfl dX4_gainOf_65 ?_
      refine lv_isub hx hb dX4_gainOf_68 ?_
      refine lv_imul hx hb dX4_gainOf_69 ?_
      refine lv_bipush (v := 100) hx hb dX4_gainOf_70 (by decide) ?_
      refine lv_idiv hx hb dX4_gainOf_72 (by decide) ?_
      refine lv_goto (tgt := 77) hx hb dX4_gainOf_73 (by decide) ?_
      rw [← hQ]
      exact cRetI (v := ((x3_ * (100 - (rs 5))) / 100)) () hx hb hr hlocks hS hP hD h dX4_gainOf_77
  refine lv_aload_n hx hb dX4_gainOf_0 rfl (lv_at hl 0 rfl) ?_
  refine va_get (D := D) (ci := 4) (v := .ref (aR 7)) (C := RX4) (T := TX4) (N := 16) hx hb hw inW_X4 hown hK hP 0 rfl rfl 5 (by decide) (hw _ mw_2_1) (fun _ h9 => h9) rfl dX4_gainOf_1 ?_
  refine va_getN (D := D) (ci := 0) (v := .ref (aR 9)) (C := RX0) (T := TX0) (N := 6) hx hb hw inW_X0 hown hK hP 7 rfl rfl 2 (by decide) hn143 (fun _ h9 => h9) rfl dX4_gainOf_4 ?_
  refine lv_iload_n hx hb dX4_gainOf_7 rfl (lv_at hl 1 rfl) ?_
  refine cIald hx hb hK hP 9 0 rfl rfl p1.toNatClampNeg rfl h.1 dX4_gainOf_8 ?_
  have h := h.2
  refine lv_topi (fun x2 ex2 => ?_)
  have h := h x2 ex2
  refine lv_istore_n (lv' := [(3, .int x2), (0, .ref (aR 0)), (1, .int p1), (2, .int p2)]) hx hb dX4_gainOf_9 rfl hl (by decide) rfl (fun ls hl => ?_)
  refine lv_bipush (v := 100) hx hb dX4_gainOf_10 (by decide) ?_
  refine lv_aload_n hx hb dX4_gainOf_12 rfl (lv_at hl 1 rfl) ?_
  refine va_get (D := D) (ci := 4) (v := .ref (aR 7)) (C := RX4) (T := TX4) (N := 16) hx hb hw inW_X4 hown hK hP 0 rfl rfl 5 (by decide) (hw _ mw_2_1) (fun _ h9 => h9) rfl dX4_gainOf_13 ?_
  refine va_getN (D := D) (ci := 0) (v := .int (rs 13)) (C := RX0) (T := TX0) (N := 6) hx hb hw inW_X0 hown hK hP 7 rfl rfl 0 (by decide) hn60 (fun _ h9 => h9) rfl dX4_gainOf_16 ?_
  refine lv_imul hx hb dX4_gainOf_19 ?_
  refine lv_topi (fun x3 ex3 => ?_)
  have h := h x3 ex3
  refine lv_istore (lv' := [(4, .int x3), (3, .int x2), (0, .ref (aR 0)), (1, .int p1), (2, .int p2)]) hx hb dX4_gainOf_20 hl (by decide) rfl (fun ls hl => ?_)
  refine lv_aload_n hx hb dX4_gainOf_22 rfl (lv_at hl 2 rfl) ?_
  refine va_get (D := D) (ci := 4) (v := .int (rs 6)) (C := RX4) (T := TX4) (N := 16) hx hb hw inW_X4 hown hK hP 0 rfl rfl 10 (by decide) (hw _ mw_2_15) (fun _ h9 => h9) rfl dX4_gainOf_23 ?_
  refine lv_if_eq (tgt := 49) hx hb dX4_gainOf_26 (by decide) (fun c4 => ?_) (fun c4 => ?_)
  · have h := h.1 c4
    exact N49 x2 _ _ _ h hP hD hS (lv_sub hl [2, 3, 1] rfl)
  · have h := h.2 c4
    refine lv_iload hx hb dX4_gainOf_29 (lv_at hl 0 rfl) ?_
    refine lv_if_le (tgt := 49) hx hb dX4_gainOf_31 (by decide) (fun c5 => ?_) (fun c5 => ?_)
    · have h := h.1 c5
      exact N49 x2 _ _ _ h hP hD hS (lv_sub hl [2, 3, 1] rfl)
    · have h := h.2 c5
      refine lv_iload_n hx hb dX4_gainOf_34 rfl (lv_at hl 1 rfl) ?_
      refine lv_iload hx hb dX4_gainOf_35 (lv_at hl 0 rfl) ?_
      refine lv_aload_n hx hb dX4_gainOf_37 rfl (lv_at hl 2 rfl) ?_
      refine va_get (D := D) (ci := 4) (v := .int (rs 5)) (C := RX4) (T := TX4) (N := 16) hx hb hw inW_X4 hown hK hP 0 rfl rfl 9 (by decide) (hw _ mw_2_13) (fun _ h9 => h9) rfl dX4_gainOf_38 ?_
      refine lv_iload_n hx hb dX4_gainOf_41 rfl (lv_at hl 4 rfl) ?_
      refine lv_imul hx hb dX4_gainOf_42 ?_
      refine lv_isub hx hb dX4_gainOf_43 ?_
      refine lv_imul hx hb dX4_gainOf_44 ?_
      refine lv_iload hx hb dX4_gainOf_45 (lv_at hl 0 rfl) ?_
      refine lv_idiv hx hb dX4_gainOf_47 h.1 ?_
      have h := h.2
      rw [← hQ]
      exact cRetI (v := ((x2 * (x3 - ((rs 5) * p2))) / x3)) () hx hb hr hlocks hS hP hD h dX4_gainOf_48
abbrev vsX4_hasSet : List Cond := Cond.code yX4_hasSet cX4_hasSet 2 (some .boolean) :: WS
abbrev rmX4_hasSet : Room := { frames := 0, cells := 0, slots := 0, locals := 0 }
set_option maxHeartbeats 4000000 in
set_option maxRecDepth 100000 in
theorem k_X4_hasSet (l : Launch) (D : va_G) (C : Nat → ClassId) (sz : Nat) (aR : Nat → Nat)  (rs : Nat → Int32) (ra : Nat → Nat → Int32) (p1 : Int32) {post : Int32 → Prop} (h : P_X4_hasSet rs p1 post) : Met l yX4_hasSet vsX4_hasSet rmX4_hasSet (cPre D C [.ref (aR 0), .int p1] sz (wRail aR C rs ra)) (cQi D (fun (r : Int32) (u : Unit) => post r ) (fun u => wRail aR C rs ra) (va_A (List.flatten (wRail aR C rs ra)) sz)) 0 0 (va_A (List.flatten (wRail aR C rs ra)) sz) := by
  refine cStart (QA := fun A => cQi D (fun (r : Int32) (u : Unit) => post r ) (fun u => wRail aR C rs ra) A) (cc := cX4_hasSet) (maxL := 2) (ret := (some .boolean)) (by decide) (Nat.le_of_ble_eq_true rfl) ?_
  intro p e s m args below meth c A ls hx hb hr hml hown hw hlocks hname hK hN hA hP hD hS hl
  generalize hQ : MQ below _ args s 0 0 A = Q
  have hl : lv_has ls 2 [(0, .ref (aR 0)), (1, .int p1)] := hl
  have hn60 : (Cond.fieldLinkNest "LockRail$Rail" 60 "LockRail$Bikes" "count" "I" "LockRail").before args s = true := hN.f 17 rfl
  obtain ⟨H, hH⟩ : ∃ H, H = s.heap := ⟨_, rfl⟩
  obtain ⟨locs, hlo⟩ : ∃ z : List Loc, z = [] := ⟨_, rfl⟩
  have hP : va_P D vwCl (List.flatten (wRail aR C rs ra)) H := by rw [hH]; exact hP
  have hS : va_S A s.heap H locs := by rw [hH, hlo]; exact hS
  rw [show W p l e rmX4_hasSet s m args below meth c s.heap [] 0 0 Q (F0 m 0 ls []) = W p l e rmX4_hasSet s m args below meth c H locs 0 0 Q (F0 m 0 ls []) from by rw [hH, hlo]]
  refine lv_iload_n hx hb dX4_hasSet_0 rfl (lv_at hl 1 rfl) ?_
  refine lv_if_lt (tgt := 21) hx hb dX4_hasSet_1 (by decide) (fun c1 => ?_) (fun c1 => ?_)
  · have h := h.1 c1
    refine lv_iconst (v := 0) hx hb dX4_hasSet_21 (by decide) ?_
    rw [← hQ]
    exact cRetZ (v := 0) () hx hb hr hlocks hS hP hD (Or.inl rfl) h dX4_hasSet_22
  · have h := h.2 c1
    refine lv_iload_n hx hb dX4_hasSet_4 rfl (lv_at hl 1 rfl) ?_
    refine lv_iconst (v := 1) hx hb dX4_hasSet_5 (by decide) ?_
    refine lv_aload_n hx hb dX4_hasSet_6 rfl (lv_at hl 0 rfl) ?_
    refine va_get (D := D) (ci := 4) (v := .ref (aR 7)) (C := RX4) (T := TX4) (N := 16) hx hb hw inW_X4 hown hK hP 0 rfl rfl 5 (by decide) (hw _ mw_2_1) (fun _ h9 => h9) rfl dX4_hasSet_7 ?_
    refine va_getN (D := D) (ci := 0) (v := .int (rs 13)) (C := RX0) (T := TX0) (N := 6) hx hb hw inW_X0 hown hK hP 7 rfl rfl 0 (by decide) hn60 (fun _ h9 => h9) rfl dX4_hasSet_10 ?_
    refine lv_ishl hx hb dX4_hasSet_13 ?_
    refine lv_icmp_ge (tgt := 21) hx hb dX4_hasSet_14 (by decide) (fun c2 => ?_) (fun c2 => ?_)
    · have h := h.1 c2
      refine lv_iconst (v := 0) hx hb dX4_hasSet_21 (by decide) ?_
      rw [← hQ]
      exact cRetZ (v := 0) () hx hb hr hlocks hS hP hD (Or.inl rfl) h dX4_hasSet_22
    · have h := h.2 c2
      refine lv_iconst (v := 1) hx hb dX4_hasSet_17 (by decide) ?_
      refine lv_goto (tgt := 22) hx hb dX4_hasSet_18 (by decide) ?_
      rw [← hQ]
      exact cRetZ (v := 1) () hx hb hr hlocks hS hP hD (Or.inr rfl) h dX4_hasSet_22
abbrev vsX4_isTold : List Cond := Cond.code yX4_isTold cX4_isTold 1 (some .boolean) :: WS
abbrev rmX4_isTold : Room := { frames := 0, cells := 0, slots := 0, locals := 0 }
set_option maxHeartbeats 4000000 in
set_option maxRecDepth 100000 in
theorem k_X4_isTold (l : Launch) (D : va_G) (C : Nat → ClassId) (sz : Nat) (aR : Nat → Nat)  (rs : Nat → Int32) (ra : Nat → Nat → Int32)  {post : Int32 → Prop} (h : P_X4_isTold rs post) : Met l yX4_isTold vsX4_isTold rmX4_isTold (cPre D C [.ref (aR 0)] sz (wRail aR C rs ra)) (cQi D (fun (r : Int32) (u : Unit) => post r ) (fun u => wRail aR C rs ra) (va_A (List.flatten (wRail aR C rs ra)) sz)) 0 0 (va_A (List.flatten (wRail aR C rs ra)) sz) := by
  refine cStart (QA := fun A => cQi D (fun (r : Int32) (u : Unit) => post r ) (fun u => wRail aR C rs ra) A) (cc := cX4_isTold) (maxL := 1) (ret := (some .boolean)) (by decide) (Nat.le_of_ble_eq_true rfl) ?_
  intro p e s m args below meth c A ls hx hb hr hml hown hw hlocks hname hK hN hA hP hD hS hl
  generalize hQ : MQ below _ args s 0 0 A = Q
  have hl : lv_has ls 1 [(0, .ref (aR 0))] := hl
  obtain ⟨H, hH⟩ : ∃ H, H = s.heap := ⟨_, rfl⟩
  obtain ⟨locs, hlo⟩ : ∃ z : List Loc, z = [] := ⟨_, rfl⟩
  have hP : va_P D vwCl (List.flatten (wRail aR C rs ra)) H := by rw [hH]; exact hP
  have hS : va_S A s.heap H locs := by rw [hH, hlo]; exact hS
  rw [show W p l e rmX4_isTold s m args below meth c s.heap [] 0 0 Q (F0 m 0 ls []) = W p l e rmX4_isTold s m args below meth c H locs 0 0 Q (F0 m 0 ls []) from by rw [hH, hlo]]
  refine lv_aload_n hx hb dX4_isTold_0 rfl (lv_at hl 0 rfl) ?_
  refine va_get (D := D) (ci := 4) (v := .int (rs 2)) (C := RX4) (T := TX4) (N := 16) hx hb hw inW_X4 hown hK hP 0 rfl rfl 2 (by decide) (hw _ mw_1_232) (fun _ h9 => h9) rfl dX4_isTold_1 ?_
  refine lv_if_le (tgt := 11) hx hb dX4_isTold_4 (by decide) (fun c1 => ?_) (fun c1 => ?_)
  · have h := h.1 c1
    refine lv_iconst (v := 0) hx hb dX4_isTold_11 (by decide) ?_
    rw [← hQ]
    exact cRetZ (v := 0) () hx hb hr hlocks hS hP hD (Or.inl rfl) h dX4_isTold_12
  · have h := h.2 c1
    refine lv_iconst (v := 1) hx hb dX4_isTold_7 (by decide) ?_
    refine lv_goto (tgt := 12) hx hb dX4_isTold_8 (by decide) ?_
    rw [← hQ]
    exact cRetZ (v := 1) () hx hb hr hlocks hS hP hD (Or.inr rfl) h dX4_isTold_12
