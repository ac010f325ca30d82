abbrev vsX6_put : List Cond := Cond.code yX6_put cX6_put 5 none :: WS
abbrev rmX6_put : Room := { frames := 1, cells := 0, slots := 0, locals := 22 }
set_option maxHeartbeats 4000000 in
set_option maxRecDepth 100000 in
theorem k_X6_put (l : Launch) (D : va_G) (C : Nat → ClassId) (sz : Nat) (aS : Nat → Nat)  (sa : Nat → Nat → Int32) (sl : Nat → Nat → Int64) (p1 : Int32) (p2 : Int32) (p3 : Int64) {post : (Nat → Nat → Int64) → Prop} (h : P_X6_put sa sl p1 p2 p3 post) : Met l yX6_put vsX6_put rmX6_put (cPre D C [.ref (aS 0), .int p1, .int p2, .long p3] sz (wSlots aS C sa sl)) (cQv D (fun (u : (Nat → Nat → Int64)) => post u) (fun u => wSlots aS C sa u) (va_A (List.flatten (wSlots aS C sa sl)) sz)) 0 0 (va_A (List.flatten (wSlots aS C sa sl)) sz) := by
  refine cStart (QA := fun A => cQv D (fun (u : (Nat → Nat → Int64)) => post u) (fun u => wSlots aS C sa u) A) (cc := cX6_put) (maxL := 5) (ret := none) (by decide) (Nat.le_of_ble_eq_true rfl) ?_
  intro p e s m args below meth c A ls hx hb hr hml hown hw hlocks hname hK hN hA hP hD hS hl
  generalize hQ : MQ below _ args s 0 0 A = Q
  have hl : lv_has ls 5 [(0, .ref (aS 0)), (1, .int p1), (2, .int p2), (3, .long p3)] := hl
  obtain ⟨H, hH⟩ : ∃ H, H = s.heap := ⟨_, rfl⟩
  obtain ⟨locs, hlo⟩ : ∃ z : List Loc, z = [] := ⟨_, rfl⟩
  have hP : va_P D vwCl (List.flatten (wSlots aS C sa sl)) H := by rw [hH]; exact hP
  have hS : va_S A s.heap H locs := by rw [hH, hlo]; exact hS
  rw [show W p l e rmX6_put s m args below meth c s.heap [] 0 0 Q (F0 m 0 ls []) = W p l e rmX6_put s m args below meth c H locs 0 0 Q (F0 m 0 ls []) from by rw [hH, hlo]]
  refine lv_aload_n hx hb dX6_put_0 rfl (lv_at hl 0 rfl) ?_
  refine va_get (D := D) (ci := 6) (v := .ref (aS 1)) (C := RX6) (T := TX6) (N := 3) hx hb hw inW_X6 hown hK hP 0 rfl rfl 0 (by decide) (hw _ mw_2_68) (fun _ h9 => h9) rfl dX6_put_1 ?_
  refine lv_iload_n hx hb dX6_put_4 rfl (lv_at hl 1 rfl) ?_
  refine lv_bipush (v := 60) hx hb dX6_put_5 (by decide) ?_
  refine lv_imul hx hb dX6_put_7 ?_
  refine lv_iload_n hx hb dX6_put_8 rfl (lv_at hl 2 rfl) ?_
  refine lv_iadd hx hb dX6_put_9 ?_
  refine lv_lload_n hx hb dX6_put_10 rfl (lv_at hl 3 rfl) ?_
  refine lv_aload_n hx hb dX6_put_11 rfl (lv_at hl 0 rfl) ?_
  refine va_get (D := D) (ci := 6) (v := .ref (aS 3)) (C := RX6) (T := TX6) (N := 3) hx hb hw inW_X6 hown hK hP 0 rfl rfl 2 (by decide) (hw _ mw_2_70) (fun _ h9 => h9) rfl dX6_put_12 ?_
  refine lv_iload_n hx hb dX6_put_15 rfl (lv_at hl 1 rfl) ?_
  refine cIald hx hb hK hP 3 0 rfl rfl p1.toNatClampNeg rfl h.1 dX6_put_16 ?_
  have h := h.2
  refine lv_iconst (v := 1) hx hb dX6_put_17 (by decide) ?_
  refine lv_isub hx hb dX6_put_18 ?_
  refine cGoL (wo := fun u => wSlots aS C sa sl) (cRunS (As := [.long p3, .int ((sa 1 p1.toNatClampNeg) - 1)]) (rest := [.int ((p1 * 60) + p2), .ref (aS 1)]) ⟨hx, hb, hml, hown, hw⟩ hK hN hP hD [] rfl rfl (k_X6_cut l D C _    p3 ((sa 1 p1.toNatClampNeg) - 1) h) (va_cwS 2 hw (goodS mw_6_16 mw_6_17 mw_1_10 mw_6_18) rfl rfl rfl (by decide +kernel) ⟨Nat.le_of_ble_eq_true rfl, Nat.le_of_ble_eq_true rfl⟩) rfl hl.1 rfl (Nat.le_of_ble_eq_true rfl) dX6_put_19 ⟨Nat.zero_le _, Nat.zero_le _⟩) hP hD hS hA [] [0] [0] rfl rfl rfl (by decide) rfl (fun _ => rfl) (fun r1 u H locs h hP hD hS => ?_)
  have hP : va_P D vwCl (List.flatten (wSlots aS C sa sl)) H := hP
  have hD : va_D A (List.flatten (wSlots aS C sa sl)) := hD
  refine cLast hx hb hK hP hD hS 1 1 rfl rfl (((p1 * 60) + p2).toNatClampNeg) rfl h.1 dX6_put_22 (fun H locs hP hD hS => ?_)
  have h := h.2
  have hP : va_P D vwCl (List.flatten (wSlots aS C sa (va_up sl 0 (vp_updL (sl 0) (((p1 * 60) + p2).toNatClampNeg) r1)))) H := hP
  have hD : va_D A (List.flatten (wSlots aS C sa (va_up sl 0 (vp_updL (sl 0) (((p1 * 60) + p2).toNatClampNeg) r1)))) := hD
  rw [← hQ]
  exact cRetV ((va_up sl 0 (vp_updL (sl 0) (((p1 * 60) + p2).toNatClampNeg) r1))) hx hb hr hlocks hS hP hD h dX6_put_23
abbrev vsX6_areAlike : List Cond := Cond.code yX6_areAlike cX6_areAlike 3 (some .boolean) :: WS
abbrev rmX6_areAlike : Room := { frames := 0, cells := 0, slots := 0, locals := 0 }
set_option maxHeartbeats 4000000 in
set_option maxRecDepth 100000 in
theorem k_X6_areAlike (l : Launch) (D : va_G) (C : Nat → ClassId) (sz : Nat) (aS : Nat → Nat)  (sa : Nat → Nat → Int32) (sl : Nat → Nat → Int64) (p1 : Int32) (p2 : Int32) {post : Int32 → Prop} (h : P_X6_areAlike sa p1 p2 post) : Met l yX6_areAlike vsX6_areAlike rmX6_areAlike (cPre D C [.ref (aS 0), .int p1, .int p2] sz (wSlots aS C sa sl)) (cQi D (fun (r : Int32) (u : Unit) => post r ) (fun u => wSlots aS C sa sl) (va_A (List.flatten (wSlots aS C sa sl)) sz)) 0 0 (va_A (List.flatten (wSlots aS C sa sl)) sz) := by
  refine cStart (QA := fun A => cQi D (fun (r : Int32) (u : Unit) => post r ) (fun u => wSlots aS C sa sl) A) (cc := cX6_areAlike) (maxL := 3) (ret := (some .boolean)) (by decide) (Nat.le_of_ble_eq_true rfl) ?_
  intro p e s m args below meth c A ls hx hb hr hml hown hw hlocks hname hK hN hA hP hD hS hl
  generalize hQ : MQ below _ args s 0 0 A = Q
  have hl : lv_has ls 3 [(0, .ref (aS 0)), (1, .int p1), (2, .int p2)] := hl
  obtain ⟨H, hH⟩ : ∃ H, H = s.heap := ⟨_, rfl⟩
  obtain ⟨locs, hlo⟩ : ∃ z : List Loc, z = [] := ⟨_, rfl⟩
  have hP : va_P D vwCl (List.flatten (wSlots aS C sa sl)) H := by rw [hH]; exact hP
  have hS : va_S A s.heap H locs := by rw [hH, hlo]; exact hS
  rw [show W p l e rmX6_areAlike s m args below meth c s.heap [] 0 0 Q (F0 m 0 ls []) = W p l e rmX6_areAlike s m args below meth c H locs 0 0 Q (F0 m 0 ls []) from by rw [hH, hlo]]
  refine lv_aload_n hx hb dX6_areAlike_0 rfl (lv_at hl 0 rfl) ?_
  refine va_get (D := D) (ci := 6) (v := .ref (aS 3)) (C := RX6) (T := TX6) (N := 3) hx hb hw inW_X6 hown hK hP 0 rfl rfl 2 (by decide) (hw _ mw_2_70) (fun _ h9 => h9) rfl dX6_areAlike_1 ?_
  refine lv_iload_n hx hb dX6_areAlike_4 rfl (lv_at hl 1 rfl) ?_
  refine cIald hx hb hK hP 3 0 rfl rfl p1.toNatClampNeg rfl h.1 dX6_areAlike_5 ?_
  have h := h.2
  refine lv_aload_n hx hb dX6_areAlike_6 rfl (lv_at hl 0 rfl) ?_
  refine va_get (D := D) (ci := 6) (v := .ref (aS 3)) (C := RX6) (T := TX6) (N := 3) hx hb hw inW_X6 hown hK hP 0 rfl rfl 2 (by decide) (hw _ mw_2_70) (fun _ h9 => h9) rfl dX6_areAlike_7 ?_
  refine lv_iload_n hx hb dX6_areAlike_10 rfl (lv_at hl 2 rfl) ?_
  refine cIald hx hb hK hP 3 0 rfl rfl p2.toNatClampNeg rfl h.1 dX6_areAlike_11 ?_
  have h := h.2
  refine lv_icmp_ne (tgt := 19) hx hb dX6_areAlike_12 (by decide) (fun c1 => ?_) (fun c1 => ?_)
  · have h := h.1 c1
    refine lv_iconst (v := 0) hx hb dX6_areAlike_19 (by decide) ?_
    rw [← hQ]
    exact cRetZ (v := 0) () hx hb hr hlocks hS hP hD (Or.inl rfl) h dX6_areAlike_20
  · have h := h.2 c1
    refine lv_iconst (v := 1) hx hb dX6_areAlike_15 (by decide) ?_
    refine lv_goto (tgt := 20) hx hb dX6_areAlike_16 (by decide) ?_
    rw [← hQ]
    exact cRetZ (v := 1) () hx hb hr hlocks hS hP hD (Or.inr rfl) h dX6_areAlike_20
abbrev vsX6_hasAll : List Cond := Cond.code yX6_hasAll cX6_hasAll 4 (some .boolean) :: WS
abbrev rmX6_hasAll : Room := { frames := 0, cells := 0, slots := 0, locals := 0 }
set_option maxHeartbeats 4000000 in
set_option maxRecDepth 100000 in
theorem k_X6_hasAll (l : Launch) (D : va_G) (C : Nat → ClassId) (sz : Nat) (aS : Nat → Nat)  (sa : Nat → Nat → Int32) (sl : Nat → Nat → Int64) (p1 : Int32) (p2 : Int32) (p3 : Int32) {post : Int32 → Prop} (h : P_X6_hasAll sa p1 p2 p3 post) : Met l yX6_hasAll vsX6_hasAll rmX6_hasAll (cPre D C [.ref (aS 0), .int p1, .int p2, .int p3] sz (wSlots aS C sa sl)) (cQi D (fun (r : Int32) (u : Unit) => post r ) (fun u => wSlots aS C sa sl) (va_A (List.flatten (wSlots aS C sa sl)) sz)) 0 0 (va_A (List.flatten (wSlots aS C sa sl)) sz) := by
  refine cStart (QA := fun A => cQi D (fun (r : Int32) (u : Unit) => post r ) (fun u => wSlots aS C sa sl) A) (cc := cX6_hasAll) (maxL := 4) (ret := (some .boolean)) (by decide) (Nat.le_of_ble_eq_true rfl) ?_
  intro p e s m args below meth c A ls hx hb hr hml hown hw hlocks hname hK hN hA hP hD hS hl
  generalize hQ : MQ below _ args s 0 0 A = Q
  have hl : lv_has ls 4 [(0, .ref (aS 0)), (1, .int p1), (2, .int p2), (3, .int p3)] := hl
  obtain ⟨H, hH⟩ : ∃ H, H = s.heap := ⟨_, rfl⟩
  obtain ⟨locs, hlo⟩ : ∃ z : List Loc, z = [] := ⟨_, rfl⟩
  have hP : va_P D vwCl (List.flatten (wSlots aS C sa sl)) H := by rw [hH]; exact hP
  have hS : va_S A s.heap H locs := by rw [hH, hlo]; exact hS
  rw [show W p l e rmX6_hasAll s m args below meth c s.heap [] 0 0 Q (F0 m 0 ls []) = W p l e rmX6_hasAll s m args below meth c H locs 0 0 Q (F0 m 0 ls []) from by rw [hH, hlo]]
  refine lv_iload_n hx hb dX6_hasAll_0 rfl (lv_at hl 2 rfl) ?_
  refine lv_if_lt (tgt := 28) hx hb dX6_hasAll_1 (by decide) (fun c1 => ?_) (fun c1 => ?_)
  · have h := h.1 c1
    refine lv_iconst (v := 0) hx hb dX6_hasAll_28 (by decide) ?_
    rw [← hQ]
    exact cRetZ (v := 0) () hx hb hr hlocks hS hP hD (Or.inl rfl) h dX6_hasAll_29
  · have h := h.2 c1
    refine lv_iload_n hx hb dX6_hasAll_4 rfl (lv_at hl 3 rfl) ?_
    refine lv_if_lt (tgt := 28) hx hb dX6_hasAll_5 (by decide) (fun c2 => ?_) (fun c2 => ?_)
    · have h := h.1 c2
      refine lv_iconst (v := 0) hx hb dX6_hasAll_28 (by decide) ?_
      rw [← hQ]
      exact cRetZ (v := 0) () hx hb hr hlocks hS hP hD (Or.inl rfl) h dX6_hasAll_29
    · have h := h.2 c2
      refine lv_iload_n hx hb dX6_hasAll_8 rfl (lv_at hl 2 rfl) ?_
      refine lv_i2l hx hb dX6_hasAll_9 rfl ?_
      refine lv_iload_n hx hb dX6_hasAll_10 rfl (lv_at hl 3 rfl) ?_
      refine lv_i2l hx hb dX6_hasAll_11 rfl ?_
      refine lv_ladd hx hb dX6_hasAll_12 ?_
      refine lv_aload_n hx hb dX6_hasAll_13 rfl (lv_at hl 0 rfl) ?_
      refine va_get (D := D) (ci := 6) (v := .ref (aS 2)) (C := RX6) (T := TX6) (N := 3) hx hb hw inW_X6 hown hK hP 0 rfl rfl 1 (by decide) (hw _ mw_2_69) (fun _ h9 => h9) rfl dX6_hasAll_14 ?_
      refine lv_iload_n hx hb dX6_hasAll_17 rfl (lv_at hl 1 rfl) ?_
      refine cIald hx hb hK hP 2 0 rfl rfl p1.toNatClampNeg rfl h.1 dX6_hasAll_18 ?_
      have h := h.2
      refine lv_i2l hx hb dX6_hasAll_19 rfl ?_
      refine W.lcmp hx hb dX6_hasAll_20 ?_
      refine lv_if_gt (tgt := 28) hx hb dX6_hasAll_21 (by decide) (fun c3 => ?_) (fun c3 => ?_)
      · have c3 : ((sa 0 p1.toNatClampNeg).toInt64) < (p2.toInt64 + p3.toInt64) := (lg_cmp_gt _ _).mp c3
        have h := h.1 c3
        refine lv_iconst (v := 0) hx hb dX6_hasAll_28 (by decide) ?_
        rw [← hQ]
        exact cRetZ (v := 0) () hx hb hr hlocks hS hP hD (Or.inl rfl) h dX6_hasAll_29
      · have c3 : ¬ ((sa 0 p1.toNatClampNeg).toInt64) < (p2.toInt64 + p3.toInt64) := fun q => c3 ((lg_cmp_gt _ _).mpr q)
        have h := h.2 c3
        refine lv_iconst (v := 1) hx hb dX6_hasAll_24 (by decide) ?_
        refine lv_goto (tgt := 29) hx hb dX6_hasAll_25 (by decide) ?_
        rw [← hQ]
        exact cRetZ (v := 1) () hx hb hr hlocks hS hP hD (Or.inr rfl) h dX6_hasAll_29
abbrev vsX6_copy : List Cond := Cond.code yX6_copy cX6_copy 6 none :: WS
abbrev rmX6_copy : Room := { frames := 1, cells := 0, slots := 0, locals := 40 }
set_option maxHeartbeats 4000000 in
set_option maxRecDepth 100000 in
theorem k_X6_copy (l : Launch) (D : va_G) (C : Nat → ClassId) (sz : Nat) (aS : Nat → Nat)  (sa : Nat → Nat → Int32) (sl : Nat → Nat → Int64) (p1 : Int32) (p2 : Int32) (p3 : Int32) (p4 : Int32) (p5 : Int32) {post : (Nat → Nat → Int64) → Prop} (h : P_X6_copy sl p1 p2 p3 p4 p5 post) : Met l yX6_copy vsX6_copy rmX6_copy (cPre D C [.ref (aS 0), .int p1, .int p2, .int p3, .int p4, .int p5] sz (wSlots aS C sa sl)) (cQv D (fun (u : (Nat → Nat → Int64)) => post u) (fun u => wSlots aS C sa u) (va_A (List.flatten (wSlots aS C sa sl)) sz)) 0 0 (va_A (List.flatten (wSlots aS C sa sl)) sz) := by
  refine cStart (QA := fun A => cQv D (fun (u : (Nat → Nat → Int64)) => post u) (fun u => wSlots aS C sa u) A) (cc := cX6_copy) (maxL := 6) (ret := none) (by decide) (Nat.le_of_ble_eq_true rfl) ?_
  intro p e s m args below meth c A ls hx hb hr hml hown hw hlocks hname hK hN hA hP hD hS hl
  generalize hQ : MQ below _ args s 0 0 A = Q
  have hl : lv_has ls 6 [(0, .ref (aS 0)), (1, .int p1), (2, .int p2), (3, .int p3), (4, .int p4), (5, .int p5)] := hl
  obtain ⟨H, hH⟩ : ∃ H, H = s.heap := ⟨_, rfl⟩
  obtain ⟨locs, hlo⟩ : ∃ z : List Loc, z = [] := ⟨_, rfl⟩
  have hP : va_P D vwCl (List.flatten (wSlots aS C sa sl)) H := by rw [hH]; exact hP
  have hS : va_S A s.heap H locs := by rw [hH, hlo]; exact hS
  rw [show W p l e rmX6_copy s m args below meth c s.heap [] 0 0 Q (F0 m 0 ls []) = W p l e rmX6_copy s m args below meth c H locs 0 0 Q (F0 m 0 ls []) from by rw [hH, hlo]]
  refine lv_aload_n hx hb dX6_copy_0 rfl (lv_at hl 0 rfl) ?_
  refine va_get (D := D) (ci := 6) (v := .ref (aS 1)) (C := RX6) (T := TX6) (N := 3) hx hb hw inW_X6 hown hK hP 0 rfl rfl 0 (by decide) (hw _ mw_2_68) (fun _ h9 => h9) rfl dX6_copy_1 ?_
  refine lv_iload_n hx hb dX6_copy_4 rfl (lv_at hl 1 rfl) ?_
  refine lv_bipush (v := 60) hx hb dX6_copy_5 (by decide) ?_
  refine lv_imul hx hb dX6_copy_7 ?_
  refine lv_iload_n hx hb dX6_copy_8 rfl (lv_at hl 2 rfl) ?_
  refine lv_iadd hx hb dX6_copy_9 ?_
  refine lv_aload_n hx hb dX6_copy_10 rfl (lv_at hl 0 rfl) ?_
  refine va_get (D := D) (ci := 6) (v := .ref (aS 1)) (C := RX6) (T := TX6) (N := 3) hx hb hw inW_X6 hown hK hP 0 rfl rfl 0 (by decide) (hw _ mw_2_68) (fun _ h9 => h9) rfl dX6_copy_11 ?_
  refine lv_iload_n hx hb dX6_copy_14 rfl (lv_at hl 3 rfl) ?_
  refine lv_bipush (v := 60) hx hb dX6_copy_15 (by decide) ?_
  refine lv_imul hx hb dX6_copy_17 ?_
  refine lv_iload hx hb dX6_copy_18 (lv_at hl 4 rfl) ?_
  refine lv_iadd hx hb dX6_copy_20 ?_
  refine lv_iload hx hb dX6_copy_21 (lv_at hl 5 rfl) ?_
  refine cCopyL hx hb (hml.trans hl.1.symm) hown (hw _ mw_6_35) (hw _ mw_3_133) (hw _ mw_3_132) (hw _ mw_1_19) hK hP hD hS 1 1 1 rfl rfl rfl _ _ _ rfl rfl rfl h.1.1 h.1.2.1 h.1.2.2.1 h.1.2.2.2.1 h.1.2.2.2.2 (Nat.le_of_ble_eq_true rfl) (Nat.le_of_ble_eq_true rfl) dX6_copy_23 (fun H locs hP hD hS => ?_)
  have h := h.2
  have hP : va_P D vwCl (List.flatten (wSlots aS C sa (va_up sl 0 (va_cpy (sl 0) (sl 0) ((p1 * 60) + p2).toNatClampNeg ((p3 * 60) + p4).toNatClampNeg p5.toNatClampNeg)))) H := hP
  have hD : va_D A (List.flatten (wSlots aS C sa (va_up sl 0 (va_cpy (sl 0) (sl 0) ((p1 * 60) + p2).toNatClampNeg ((p3 * 60) + p4).toNatClampNeg p5.toNatClampNeg)))) := hD
  rw [← hQ]
  exact cRetV ((va_up sl 0 (va_cpy (sl 0) (sl 0) ((p1 * 60) + p2).toNatClampNeg ((p3 * 60) + p4).toNatClampNeg p5.toNatClampNeg))) hx hb hr hlocks hS hP hD h dX6_copy_26

