abbrev vsX4_hasLock : List Cond := Cond.code yX4_hasLock cX4_hasLock 2 (some .boolean) :: WS
abbrev rmX4_hasLock : Room := { frames := 0, cells := 0, slots := 0, locals := 0 }
set_option maxHeartbeats 4000000 in
set_option maxRecDepth 100000 in
theorem k_X4_hasLock (l : Launch) (D : va_G) (C : Nat → ClassId) (sz : Nat) (aR : Nat → Nat)  (rs : Nat → Int32) (ra : Nat → Nat → Int32) (p1 : Int32) {post : Int32 → Prop} (h : P_X4_hasLock rs p1 post) : Met l yX4_hasLock vsX4_hasLock rmX4_hasLock (cPre D C [.ref (aR 0), .int p1] sz (wRail aR C rs ra)) (cQi D (fun (r : Int32) (u : Unit) => post r ) (fun u => wRail aR C rs ra) (va_A (List.flatten (wRail aR C rs ra)) sz)) 0 0 (va_A (List.flatten (wRail aR C rs ra)) sz) := by
  refine cStart (QA := fun A => cQi D (fun (r : Int32) (u : Unit) => post r ) (fun u => wRail aR C rs ra) A) (cc := cX4_hasLock) (maxL := 2) (ret := (some .boolean)) (by decide) (Nat.le_of_ble_eq_true rfl) ?_
  intro p e s m args below meth c A ls hx hb hr hml hown hw hlocks hname hK hN hA hP hD hS hl
  generalize hQ : MQ below _ args s 0 0 A = Q
  have hl : lv_has ls 2 [(0, .ref (aR 0)), (1, .int p1)] := hl
  have hn59 : (Cond.fieldLinkNest "LockRail$Rail" 59 "LockRail$Locks" "count" "I" "LockRail").before args s = true := hN.f 12 rfl
  obtain ⟨H, hH⟩ : ∃ H, H = s.heap := ⟨_, rfl⟩
  obtain ⟨locs, hlo⟩ : ∃ z : List Loc, z = [] := ⟨_, rfl⟩
  have hP : va_P D vwCl (List.flatten (wRail aR C rs ra)) H := by rw [hH]; exact hP
  have hS : va_S A s.heap H locs := by rw [hH, hlo]; exact hS
  rw [show W p l e rmX4_hasLock s m args below meth c s.heap [] 0 0 Q (F0 m 0 ls []) = W p l e rmX4_hasLock s m args below meth c H locs 0 0 Q (F0 m 0 ls []) from by rw [hH, hlo]]
  refine lv_iload_n hx hb dX4_hasLock_0 rfl (lv_at hl 1 rfl) ?_
  refine lv_if_lt (tgt := 19) hx hb dX4_hasLock_1 (by decide) (fun c1 => ?_) (fun c1 => ?_)
  · have h := h.1 c1
    refine lv_iconst (v := 0) hx hb dX4_hasLock_19 (by decide) ?_
    rw [← hQ]
    exact cRetZ (v := 0) () hx hb hr hlocks hS hP hD (Or.inl rfl) h dX4_hasLock_20
  · have h := h.2 c1
    refine lv_iload_n hx hb dX4_hasLock_4 rfl (lv_at hl 1 rfl) ?_
    refine lv_aload_n hx hb dX4_hasLock_5 rfl (lv_at hl 0 rfl) ?_
    refine va_get (D := D) (ci := 4) (v := .ref (aR 4)) (C := RX4) (T := TX4) (N := 16) hx hb hw inW_X4 hown hK hP 0 rfl rfl 4 (by decide) (hw _ mw_1_238) (fun _ h9 => h9) rfl dX4_hasLock_6 ?_
    refine va_getN (D := D) (ci := 2) (v := .int (rs 12)) (C := RX2) (T := TX2) (N := 3) hx hb hw inW_X2 hown hK hP 4 rfl rfl 0 (by decide) hn59 (fun _ h9 => h9) rfl dX4_hasLock_9 ?_
    refine lv_icmp_ge (tgt := 19) hx hb dX4_hasLock_12 (by decide) (fun c2 => ?_) (fun c2 => ?_)
    · have h := h.1 c2
      refine lv_iconst (v := 0) hx hb dX4_hasLock_19 (by decide) ?_
      rw [← hQ]
      exact cRetZ (v := 0) () hx hb hr hlocks hS hP hD (Or.inl rfl) h dX4_hasLock_20
    · have h := h.2 c2
      refine lv_iconst (v := 1) hx hb dX4_hasLock_15 (by decide) ?_
      refine lv_goto (tgt := 20) hx hb dX4_hasLock_16 (by decide) ?_
      rw [← hQ]
      exact cRetZ (v := 1) () hx hb hr hlocks hS hP hD (Or.inr rfl) h dX4_hasLock_20
abbrev vsX6_isSlot : List Cond := Cond.code yX6_isSlot cX6_isSlot 2 (some .boolean) :: WS
abbrev rmX6_isSlot : Room := { frames := 0, cells := 0, slots := 0, locals := 0 }
set_option maxHeartbeats 4000000 in
set_option maxRecDepth 100000 in
theorem k_X6_isSlot (l : Launch) (D : va_G) (C : Nat → ClassId) (sz : Nat) (aS : Nat → Nat)  (sa : Nat → Nat → Int32) (sl : Nat → Nat → Int64) (p1 : Int32) {post : Int32 → Prop} (h : P_X6_isSlot p1 post) : Met l yX6_isSlot vsX6_isSlot rmX6_isSlot (cPre D C [.ref (aS 0), .int p1] sz (wSlots aS C sa sl)) (cQi D (fun (r : Int32) (u : Unit) => post r ) (fun u => wSlots aS C sa sl) (va_A (List.flatten (wSlots aS C sa sl)) sz)) 0 0 (va_A (List.flatten (wSlots aS C sa sl)) sz) := by
  refine cStart (QA := fun A => cQi D (fun (r : Int32) (u : Unit) => post r ) (fun u => wSlots aS C sa sl) A) (cc := cX6_isSlot) (maxL := 2) (ret := (some .boolean)) (by decide) (Nat.le_of_ble_eq_true rfl) ?_
  intro p e s m args below meth c A ls hx hb hr hml hown hw hlocks hname hK hN hA hP hD hS hl
  generalize hQ : MQ below _ args s 0 0 A = Q
  have hl : lv_has ls 2 [(0, .ref (aS 0)), (1, .int p1)] := hl
  obtain ⟨H, hH⟩ : ∃ H, H = s.heap := ⟨_, rfl⟩
  obtain ⟨locs, hlo⟩ : ∃ z : List Loc, z = [] := ⟨_, rfl⟩
  have hP : va_P D vwCl (List.flatten (wSlots aS C sa sl)) H := by rw [hH]; exact hP
  have hS : va_S A s.heap H locs := by rw [hH, hlo]; exact hS
  rw [show W p l e rmX6_isSlot s m args below meth c s.heap [] 0 0 Q (F0 m 0 ls []) = W p l e rmX6_isSlot s m args below meth c H locs 0 0 Q (F0 m 0 ls []) from by rw [hH, hlo]]
  refine lv_iload_n hx hb dX6_isSlot_0 rfl (lv_at hl 1 rfl) ?_
  refine lv_if_lt (tgt := 13) hx hb dX6_isSlot_1 (by decide) (fun c1 => ?_) (fun c1 => ?_)
  · have h := h.1 c1
    refine lv_iconst (v := 0) hx hb dX6_isSlot_13 (by decide) ?_
    rw [← hQ]
    exact cRetZ (v := 0) () hx hb hr hlocks hS hP hD (Or.inl rfl) h dX6_isSlot_14
  · have h := h.2 c1
    refine lv_iload_n hx hb dX6_isSlot_4 rfl (lv_at hl 1 rfl) ?_
    refine lv_iconst (v := 4) hx hb dX6_isSlot_5 (by decide) ?_
    refine lv_icmp_ge (tgt := 13) hx hb dX6_isSlot_6 (by decide) (fun c2 => ?_) (fun c2 => ?_)
    · have h := h.1 c2
      refine lv_iconst (v := 0) hx hb dX6_isSlot_13 (by decide) ?_
      rw [← hQ]
      exact cRetZ (v := 0) () hx hb hr hlocks hS hP hD (Or.inl rfl) h dX6_isSlot_14
    · have h := h.2 c2
      refine lv_iconst (v := 1) hx hb dX6_isSlot_9 (by decide) ?_
      refine lv_goto (tgt := 14) hx hb dX6_isSlot_10 (by decide) ?_
      rw [← hQ]
      exact cRetZ (v := 1) () hx hb hr hlocks hS hP hD (Or.inr rfl) h dX6_isSlot_14
abbrev vsX6_hasRow : List Cond := Cond.code yX6_hasRow cX6_hasRow 2 (some .boolean) :: WS
abbrev rmX6_hasRow : Room := { frames := 0, cells := 0, slots := 0, locals := 0 }
set_option maxHeartbeats 4000000 in
set_option maxRecDepth 100000 in
theorem k_X6_hasRow (l : Launch) (D : va_G) (C : Nat → ClassId) (sz : Nat) (aS : Nat → Nat)  (sa : Nat → Nat → Int32) (sl : Nat → Nat → Int64) (p1 : Int32) {post : Int32 → Prop} (h : P_X6_hasRow sa p1 post) : Met l yX6_hasRow vsX6_hasRow rmX6_hasRow (cPre D C [.ref (aS 0), .int p1] sz (wSlots aS C sa sl)) (cQi D (fun (r : Int32) (u : Unit) => post r ) (fun u => wSlots aS C sa sl) (va_A (List.flatten (wSlots aS C sa sl)) sz)) 0 0 (va_A (List.flatten (wSlots aS C sa sl)) sz) := by
  refine cStart (QA := fun A => cQi D (fun (r : Int32) (u : Unit) => post r ) (fun u => wSlots aS C sa sl) A) (cc := cX6_hasRow) (maxL := 2) (ret := (some .boolean)) (by decide) (Nat.le_of_ble_eq_true rfl) ?_
  intro p e s m args below meth c A ls hx hb hr hml hown hw hlocks hname hK hN hA hP hD hS hl
  generalize hQ : MQ below _ args s 0 0 A = Q
  have hl : lv_has ls 2 [(0, .ref (aS 0)), (1, .int p1)] := hl
  obtain ⟨H, hH⟩ : ∃ H, H = s.heap := ⟨_, rfl⟩
  obtain ⟨locs, hlo⟩ : ∃ z : List Loc, z = [] := ⟨_, rfl⟩
  have hP : va_P D vwCl (List.flatten (wSlots aS C sa sl)) H := by rw [hH]; exact hP
  have hS : va_S A s.heap H locs := by rw [hH, hlo]; exact hS
  rw [show W p l e rmX6_hasRow s m args below meth c s.heap [] 0 0 Q (F0 m 0 ls []) = W p l e rmX6_hasRow s m args below meth c H locs 0 0 Q (F0 m 0 ls []) from by rw [hH, hlo]]
  refine lv_aload_n hx hb dX6_hasRow_0 rfl (lv_at hl 0 rfl) ?_
  refine va_get (D := D) (ci := 6) (v := .ref (aS 3)) (C := RX6) (T := TX6) (N := 3) hx hb hw inW_X6 hown hK hP 0 rfl rfl 2 (by decide) (hw _ mw_2_70) (fun _ h9 => h9) rfl dX6_hasRow_1 ?_
  refine lv_iload_n hx hb dX6_hasRow_4 rfl (lv_at hl 1 rfl) ?_
  refine cIald hx hb hK hP 3 0 rfl rfl p1.toNatClampNeg rfl h.1 dX6_hasRow_5 ?_
  have h := h.2
  refine lv_if_le (tgt := 13) hx hb dX6_hasRow_6 (by decide) (fun c1 => ?_) (fun c1 => ?_)
  · have h := h.1 c1
    refine lv_iconst (v := 0) hx hb dX6_hasRow_13 (by decide) ?_
    rw [← hQ]
    exact cRetZ (v := 0) () hx hb hr hlocks hS hP hD (Or.inl rfl) h dX6_hasRow_14
  · have h := h.2 c1
    refine lv_iconst (v := 1) hx hb dX6_hasRow_9 (by decide) ?_
    refine lv_goto (tgt := 14) hx hb dX6_hasRow_10 (by decide) ?_
    rw [← hQ]
    exact cRetZ (v := 1) () hx hb hr hlocks hS hP hD (Or.inr rfl) h dX6_hasRow_14
abbrev vsX6_numberAt : List Cond := Cond.code yX6_numberAt cX6_numberAt 3 (some .long) :: WS
abbrev rmX6_numberAt : Room := { frames := 0, cells := 0, slots := 0, locals := 0 }
set_option maxHeartbeats 4000000 in
set_option maxRecDepth 100000 in
theorem k_X6_numberAt (l : Launch) (D : va_G) (C : Nat → ClassId) (sz : Nat) (aS : Nat → Nat)  (sa : Nat → Nat → Int32) (sl : Nat → Nat → Int64) (p1 : Int32) (p2 : Int32) {post : Int64 → Prop} (h : P_X6_numberAt sl p1 p2 post) : Met l yX6_numberAt vsX6_numberAt rmX6_numberAt (cPre D C [.ref (aS 0), .int p1, .int p2] sz (wSlots aS C sa sl)) (cQl D (fun (r : Int64) (u : Unit) => post r ) (fun u => wSlots aS C sa sl) (va_A (List.flatten (wSlots aS C sa sl)) sz)) 0 0 (va_A (List.flatten (wSlots aS C sa sl)) sz) := by
  refine cStart (QA := fun A => cQl D (fun (r : Int64) (u : Unit) => post r ) (fun u => wSlots aS C sa sl) A) (cc := cX6_numberAt) (maxL := 3) (ret := (some .long)) (by decide) (Nat.le_of_ble_eq_true rfl) ?_
  intro p e s m args below meth c A ls hx hb hr hml hown hw hlocks hname hK hN hA hP hD hS hl
  generalize hQ : MQ below _ args s 0 0 A = Q
  have hl : lv_has ls 3 [(0, .ref (aS 0)), (1, .int p1), (2, .int p2)] := hl
  obtain ⟨H, hH⟩ : ∃ H, H = s.heap := ⟨_, rfl⟩
  obtain ⟨locs, hlo⟩ : ∃ z : List Loc, z = [] := ⟨_, rfl⟩
  have hP : va_P D vwCl (List.flatten (wSlots aS C sa sl)) H := by rw [hH]; exact hP
  have hS : va_S A s.heap H locs := by rw [hH, hlo]; exact hS
  rw [show W p l e rmX6_numberAt s m args below meth c s.heap [] 0 0 Q (F0 m 0 ls []) = W p l e rmX6_numberAt s m args below meth c H locs 0 0 Q (F0 m 0 ls []) from by rw [hH, hlo]]
  refine lv_aload_n hx hb dX6_numberAt_0 rfl (lv_at hl 0 rfl) ?_
  refine va_get (D := D) (ci := 6) (v := .ref (aS 1)) (C := RX6) (T := TX6) (N := 3) hx hb hw inW_X6 hown hK hP 0 rfl rfl 0 (by decide) (hw _ mw_2_68) (fun _ h9 => h9) rfl dX6_numberAt_1 ?_
  refine lv_iload_n hx hb dX6_numberAt_4 rfl (lv_at hl 1 rfl) ?_
  refine lv_bipush (v := 60) hx hb dX6_numberAt_5 (by decide) ?_
  refine lv_imul hx hb dX6_numberAt_7 ?_
  refine lv_iload_n hx hb dX6_numberAt_8 rfl (lv_at hl 2 rfl) ?_
  refine lv_iadd hx hb dX6_numberAt_9 ?_
  refine cLald hx hb hK hP 1 1 rfl rfl (((p1 * 60) + p2).toNatClampNeg) rfl h.1 dX6_numberAt_10 ?_
  have h := h.2
  rw [← hQ]
  exact cRetL (v := (sl 0 (((p1 * 60) + p2).toNatClampNeg))) () hx hb hr hlocks hS hP hD h dX6_numberAt_11
abbrev vsX6_tellsNights : List Cond := Cond.code yX6_tellsNights cX6_tellsNights 5 (some .boolean) :: WS
abbrev rmX6_tellsNights : Room := { frames := 1, cells := 0, slots := 0, locals := 22 }
set_option maxHeartbeats 4000000 in
set_option maxRecDepth 100000 in
theorem k_X6_tellsNights (l : Launch) (D : va_G) (C : Nat → ClassId) (sz : Nat) (aS : Nat → Nat)  (sa : Nat → Nat → Int32) (sl : Nat → Nat → Int64) (p1 : Int32) (p2 : Int32) (p3 : Int32) {post : Int32 → Prop} (h : P_X6_tellsNights sa sl p1 p2 p3 post) : Met l yX6_tellsNights vsX6_tellsNights rmX6_tellsNights (cPre D C [.ref (aS 0), .int p1, .int p2, .int p3] sz (wSlots aS C sa sl)) (cQi D (fun (r : Int32) (u : Unit) => post r ) (fun u => wSlots aS C sa sl) (va_A (List.flatten (wSlots aS C sa sl)) sz)) 0 0 (va_A (List.flatten (wSlots aS C sa sl)) sz) := by
  refine cStart (QA := fun A => cQi D (fun (r : Int32) (u : Unit) => post r ) (fun u => wSlots aS C sa sl) A) (cc := cX6_tellsNights) (maxL := 5) (ret := (some .boolean)) (by decide) (Nat.le_of_ble_eq_true rfl) ?_
  intro p e s m args below meth c A ls hx hb hr hml hown hw hlocks hname hK hN hA hP hD hS hl
  generalize hQ : MQ below _ args s 0 0 A = Q
  have hl : lv_has ls 5 [(0, .ref (aS 0)), (1, .int p1), (2, .int p2), (3, .int p3)] := hl
  obtain ⟨H, hH⟩ : ∃ H, H = s.heap := ⟨_, rfl⟩
  obtain ⟨locs, hlo⟩ : ∃ z : List Loc, z = [] := ⟨_, rfl⟩
  have hP : va_P D vwCl (List.flatten (wSlots aS C sa sl)) H := by rw [hH]; exact hP
  have hS : va_S A s.heap H locs := by rw [hH, hlo]; exact hS
  rw [show W p l e rmX6_tellsNights s m args below meth c s.heap [] 0 0 Q (F0 m 0 ls []) = W p l e rmX6_tellsNights s m args below meth c H locs 0 0 Q (F0 m 0 ls []) from by rw [hH, hlo]]
  have N15 : ∀  (n15 : Nat) (x4_ : Int32) (H : Heap) (locs : List Loc) (ls : Array Slot), P_X6_tellsNights_15 sa sl p1 p2 p3 post   n15 x4_ → va_P D vwCl (List.flatten (wSlots aS C sa sl)) H → va_D A (List.flatten (wSlots aS C sa sl)) → va_S A s.heap H locs → lv_has ls 5 [(0, .ref (aS 0)), (1, .int p1), (3, .int p3), (4, .int x4_)] → W p l e rmX6_tellsNights s m args below meth c H locs 0 0 Q (F0 m 15 ls []) := by
    intro n15
    induction n15 with
    | zero => intro x4_ H locs ls h hP hD hS hl; exact False.elim h
    | succ n15 ih15 =>
      intro x4_ H locs ls h hP hD hS hl
      refine lv_iload hx hb dX6_tellsNights_15 (lv_at hl 3 rfl) ?_
      refine lv_aload_n hx hb dX6_tellsNights_17 rfl (lv_at hl 0 rfl) ?_
      refine va_get (D := D) (ci := 6) (v := .ref (aS 2)) (C := RX6) (T := TX6) (N := 3) hx hb hw inW_X6 hown hK hP 0 rfl rfl 1 (by decide) (hw _ mw_2_69) (fun _ h9 => h9) rfl dX6_tellsNights_18 ?_
      refine lv_iload_n hx hb dX6_tellsNights_21 rfl (lv_at hl 1 rfl) ?_
      refine cIald hx hb hK hP 2 0 rfl rfl p1.toNatClampNeg rfl h.1 dX6_tellsNights_22 ?_
      have h := h.2
      refine lv_icmp_ge (tgt := 48) hx hb dX6_tellsNights_23 (by decide) (fun c1 => ?_) (fun c1 => ?_)
      · have h := h.1 c1
        refine lv_iconst (v := 1) hx hb dX6_tellsNights_48 (by decide) ?_
        rw [← hQ]
        exact cRetZ (v := 1) () hx hb hr hlocks hS hP hD (Or.inr rfl) h dX6_tellsNights_49
      · have h := h.2 c1
        refine lv_aload_n hx hb dX6_tellsNights_26 rfl (lv_at hl 0 rfl) ?_
        refine lv_iload_n hx hb dX6_tellsNights_27 rfl (lv_at hl 1 rfl) ?_
        refine lv_iload hx hb dX6_tellsNights_28 (lv_at hl 3 rfl) ?_
        refine cGoL (wo := fun u => wSlots aS C sa sl) (cRunV (As := [.int p1, .int x4_]) (rest := []) ⟨hx, hb, hml, hown, hw⟩ hK hN hP hD [0] rfl rfl (k_X6_numberAt l D C _ aS  sa sl p1 x4_ h) (cwV 2 hw (goodV mw_5_193 mw_5_195 mw_s99 mw_1_10 mw_5_196) rfl rfl rfl (by decide +kernel) ⟨Nat.le_of_ble_eq_true rfl, Nat.le_of_ble_eq_true rfl⟩) rfl rfl rfl hl.1 rfl (Nat.le_of_ble_eq_true rfl) dX6_tellsNights_30 ⟨Nat.zero_le _, Nat.zero_le _⟩) hP hD hS hA [0] [] [0] rfl rfl rfl (by decide) rfl (fun _ => rfl) (fun r2 u H locs h hP hD hS => ?_)
        have hP : va_P D vwCl (List.flatten (wSlots aS C sa sl)) H := hP
        have hD : va_D A (List.flatten (wSlots aS C sa sl)) := hD
        refine lv_iload_n hx hb dX6_tellsNights_33 rfl (lv_at hl 2 rfl) ?_
        refine lv_lshr hx hb dX6_tellsNights_34 rfl ?_
        refine lv_lconst (v := 0) hx hb dX6_tellsNights_35 (by decide) ?_
        refine W.lcmp hx hb dX6_tellsNights_36 ?_
        refine lv_if_eq (tgt := 42) hx hb dX6_tellsNights_37 (by decide) (fun c3 => ?_) (fun c3 => ?_)
        · have c3 : (r2 >>> (p3.toInt64 &&& 63)) = 0 := (lg_cmp_eq _ _).mp c3
          have h := h.1 c3
          refine lv_iinc (v := (x4_ + 1)) (lv' := [(4, .int (x4_ + 1)), (0, .ref (aS 0)), (1, .int p1), (3, .int p3)]) hx hb dX6_tellsNights_42 hl (k := 3) rfl rfl (by decide) rfl (fun ls hl => ?_)
          refine lv_goto (tgt := 15) hx hb dX6_tellsNights_45 (by decide) ?_
          exact ih15 (x4_ + 1) _ _ _ h hP hD hS (lv_sub hl [1, 2, 3, 0] rfl)
        · have c3 : ¬ (r2 >>> (p3.toInt64 &&& 63)) = 0 := fun q => c3 ((lg_cmp_eq _ _).mpr q)
          have h := h.2 c3
          refine lv_iconst (v := 0) hx hb dX6_tellsNights_40 (by decide) ?_
          rw [← hQ]
          exact cRetZ (v := 0) () hx hb hr hlocks hS hP hD (Or.inl rfl) h dX6_tellsNights_41
  refine lv_aload_n hx hb dX6_tellsNights_0 rfl (lv_at hl 0 rfl) ?_
  refine va_get (D := D) (ci := 6) (v := .ref (aS 2)) (C := RX6) (T := TX6) (N := 3) hx hb hw inW_X6 hown hK hP 0 rfl rfl 1 (by decide) (hw _ mw_2_69) (fun _ h9 => h9) rfl dX6_tellsNights_1 ?_
  refine lv_iload_n hx hb dX6_tellsNights_4 rfl (lv_at hl 1 rfl) ?_
  refine cIald hx hb hK hP 2 0 rfl rfl p1.toNatClampNeg rfl h.1 dX6_tellsNights_5 ?_
  have h := h.2
  refine lv_iload_n hx hb dX6_tellsNights_6 rfl (lv_at hl 2 rfl) ?_
  refine lv_icmp_le (tgt := 12) hx hb dX6_tellsNights_7 (by decide) (fun c4 => ?_) (fun c4 => ?_)
  · have h := h.1 c4
    refine lv_iconst (v := 0) hx hb dX6_tellsNights_12 (by decide) ?_
    refine lv_istore (lv' := [(4, .int 0), (0, .ref (aS 0)), (1, .int p1), (2, .int p2), (3, .int p3)]) hx hb dX6_tellsNights_13 hl (by decide) rfl (fun ls hl => ?_)
    obtain ⟨n, h⟩ := h
    exact N15  n 0 _ _ _ h hP hD hS (lv_sub hl [1, 2, 4, 0] rfl)
  · have h := h.2 c4
    refine lv_iconst (v := 0) hx hb dX6_tellsNights_10 (by decide) ?_
    rw [← hQ]
    exact cRetZ (v := 0) () hx hb hr hlocks hS hP hD (Or.inl rfl) h dX6_tellsNights_11
