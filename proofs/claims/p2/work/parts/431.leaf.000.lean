abbrev vsX8_append : List Cond := Cond.code yX8_append cX8_append 3 none :: WS
abbrev rmX8_append : Room := { frames := 0, cells := 0, slots := 0, locals := 0 }
set_option maxHeartbeats 4000000 in
set_option maxRecDepth 100000 in
theorem k_X8_append (l : Launch) (D : va_G) (C : Nat → ClassId) (sz : Nat) (a0 : Nat) (a1 : Nat)  (a_bytes : Nat → Int32) (a_length : Int32) (a_spot : Int32) (a_behind : Int32) (a_kind : Int32) (a_number : Int32) (p1 : Int32) {post : (Nat → Int32) → (Int32) → Prop} (h : P_X8_append a_bytes a_length p1 post) : Met l yX8_append vsX8_append rmX8_append (cPre D C [.ref a0, .int p1] sz ([cTape a0 a1 C a_bytes a_length a_spot a_behind a_kind a_number])) (cQv D (fun (u : (Nat → Int32) × (Int32)) => post u.1 u.2) (fun u => [cTape a0 a1 C u.1 u.2 a_spot a_behind a_kind a_number]) (va_A (List.flatten ([cTape a0 a1 C a_bytes a_length a_spot a_behind a_kind a_number])) sz)) 0 0 (va_A (List.flatten ([cTape a0 a1 C a_bytes a_length a_spot a_behind a_kind a_number])) sz) := by
  refine cStart (QA := fun A => cQv D (fun (u : (Nat → Int32) × (Int32)) => post u.1 u.2) (fun u => [cTape a0 a1 C u.1 u.2 a_spot a_behind a_kind a_number]) A) (cc := cX8_append) (maxL := 3) (ret := none) (by decide) (Nat.le_of_ble_eq_true rfl) ?_
  intro p e s m args below meth c A ls hx hb hr hml hown hw hlocks hname hK hN hA hP hD hS hl
  generalize hQ : MQ below _ args s 0 0 A = Q
  have hl : lv_has ls 3 [(0, .ref a0), (1, .int p1)] := hl
  obtain ⟨H, hH⟩ : ∃ H, H = s.heap := ⟨_, rfl⟩
  obtain ⟨locs, hlo⟩ : ∃ z : List Loc, z = [] := ⟨_, rfl⟩
  have hP : va_P D vwCl (List.flatten ([cTape a0 a1 C a_bytes a_length a_spot a_behind a_kind a_number])) H := by rw [hH]; exact hP
  have hS : va_S A s.heap H locs := by rw [hH, hlo]; exact hS
  rw [show W p l e rmX8_append s m args below meth c s.heap [] 0 0 Q (F0 m 0 ls []) = W p l e rmX8_append s m args below meth c H locs 0 0 Q (F0 m 0 ls []) from by rw [hH, hlo]]
  have N3 : ∀  (n3 : Nat) (x2_ : Int32) (a_bytes : Nat → Int32) (a_length : Int32) (H : Heap) (locs : List Loc) (ls : Array Slot), P_X8_append_3 p1 post   n3 x2_ a_bytes a_length → va_P D vwCl (List.flatten ([cTape a0 a1 C a_bytes a_length a_spot a_behind a_kind a_number])) H → va_D A (List.flatten ([cTape a0 a1 C a_bytes a_length a_spot a_behind a_kind a_number])) → va_S A s.heap H locs → lv_has ls 3 [(0, .ref a0), (1, .int p1), (2, .int x2_)] → W p l e rmX8_append s m args below meth c H locs 0 0 Q (F0 m 3 ls []) := by
    intro n3
    induction n3 with
    | zero => intro x2_ a_bytes a_length H locs ls h hP hD hS hl; exact False.elim h
    | succ n3 ih3 =>
      intro x2_ a_bytes a_length H locs ls h hP hD hS hl
      refine lv_iload_n hx hb dX8_append_3 rfl (lv_at hl 2 rfl) ?_
      refine lv_if_lt (tgt := 46) hx hb dX8_append_4 (by decide) (fun c1 => ?_) (fun c1 => ?_)
      · have h := h.1 c1
        rw [← hQ]
        exact cRetV (a_bytes, a_length) hx hb hr hlocks hS hP hD h dX8_append_46
      · have h := h.2 c1
        refine lv_aload_n hx hb dX8_append_7 rfl (lv_at hl 0 rfl) ?_
        refine va_get (D := D) (ci := 8) (v := .int a_length) (C := RX8) (T := TX8) (N := 6) hx hb hw inW_X8 hown hK hP 0 rfl rfl 1 (by decide) (hw _ mw_1_42) (fun _ h9 => h9) rfl dX8_append_8 ?_
        refine lv_sipush (v := 1600) hx hb dX8_append_11 (by decide) ?_
        refine lv_icmp_ge (tgt := 46) hx hb dX8_append_14 (by decide) (fun c2 => ?_) (fun c2 => ?_)
        · have h := h.1 c2
          rw [← hQ]
          exact cRetV (a_bytes, a_length) hx hb hr hlocks hS hP hD h dX8_append_46
        · have h := h.2 c2
          refine lv_aload_n hx hb dX8_append_17 rfl (lv_at hl 0 rfl) ?_
          refine va_get (D := D) (ci := 8) (v := .ref a1) (C := RX8) (T := TX8) (N := 6) hx hb hw inW_X8 hown hK hP 0 rfl rfl 0 (by decide) (hw _ mw_1_41) (fun _ h9 => h9) rfl dX8_append_18 ?_
          refine lv_aload_n hx hb dX8_append_21 rfl (lv_at hl 0 rfl) ?_
          refine va_get (D := D) (ci := 8) (v := .int a_length) (C := RX8) (T := TX8) (N := 6) hx hb hw inW_X8 hown hK hP 0 rfl rfl 1 (by decide) (hw _ mw_1_42) (fun _ h9 => h9) rfl dX8_append_22 ?_
          refine lv_iload_n hx hb dX8_append_25 rfl (lv_at hl 1 rfl) ?_
          refine lv_iload_n hx hb dX8_append_26 rfl (lv_at hl 2 rfl) ?_
          refine lv_iushr hx hb dX8_append_27 rfl ?_
          refine lv_i2b hx hb dX8_append_28 rfl ?_
          refine cBast hx hb hK hP hD hS 1 2 rfl rfl a_length.toNatClampNeg rfl h.1 dX8_append_29 (fun H locs hP hD hS => ?_)
          have h := h.2
          refine lv_aload_n hx hb dX8_append_30 rfl (lv_at hl 0 rfl) ?_
          refine lv_dup hx hb dX8_append_31 rfl ?_
          refine va_get (D := D) (ci := 8) (v := .int a_length) (C := RX8) (T := TX8) (N := 6) hx hb hw inW_X8 hown hK hP 0 rfl rfl 1 (by decide) (hw _ mw_1_42) (fun _ h9 => h9) rfl dX8_append_32 ?_
          refine lv_iconst (v := 1) hx hb dX8_append_35 (by decide) ?_
          refine lv_iadd hx hb dX8_append_36 ?_
          refine lv_topi (fun x3 ex3 => ?_)
          have h := h x3 ex3
          refine va_put (D := D) (ci := 8) (v := .int x3) (ty := .int) (C := RX8) (T := TX8) (N := 6) hx hb hw inW_X8 tyX8 tyX8_ok nmX8 hown hK hP hD hS 0 rfl rfl 1 (by decide) (hw _ mw_1_42) (fun _ h9 => h9) rfl (by decide +kernel) rfl rfl (Nat.le_of_ble_eq_true rfl) dX8_append_37 (fun H locs hP hD hS => ?_)
          refine lv_iinc (v := (x2_ + (-8))) (lv' := [(2, .int (x2_ + (-8))), (0, .ref a0), (1, .int p1)]) hx hb dX8_append_40 hl (k := 2) rfl rfl (by decide) rfl (fun ls hl => ?_)
          refine lv_goto (tgt := 3) hx hb dX8_append_43 (by decide) ?_
          have hP : va_P D vwCl (List.flatten ([cTape a0 a1 C (upd a_bytes a_length.toNatClampNeg ((((p1.toUInt32 >>> (x2_.toUInt32 &&& Int32.toUInt32 31)).toInt32).toInt8.toInt32).toInt8.toInt32)) x3 a_spot a_behind a_kind a_number])) H := hP
          have hD : va_D A (List.flatten ([cTape a0 a1 C (upd a_bytes a_length.toNatClampNeg ((((p1.toUInt32 >>> (x2_.toUInt32 &&& Int32.toUInt32 31)).toInt32).toInt8.toInt32).toInt8.toInt32)) x3 a_spot a_behind a_kind a_number])) := hD
          exact ih3 (x2_ + (-8)) (upd a_bytes a_length.toNatClampNeg ((((p1.toUInt32 >>> (x2_.toUInt32 &&& Int32.toUInt32 31)).toInt32).toInt8.toInt32).toInt8.toInt32)) x3 _ _ _ h hP hD hS (lv_sub hl [1, 2, 0] rfl)
  refine lv_bipush (v := 24) hx hb dX8_append_0 (by decide) ?_
  refine lv_istore_n (lv' := [(2, .int 24), (0, .ref a0), (1, .int p1)]) hx hb dX8_append_2 rfl hl (by decide) rfl (fun ls hl => ?_)
  obtain ⟨n, h⟩ := h
  exact N3  n 24 a_bytes a_length _ _ _ h hP hD hS (lv_sub hl [1, 2, 0] rfl)
abbrev vsX8_kindAt : List Cond := Cond.code yX8_kindAt cX8_kindAt 3 (some .int) :: WS
abbrev rmX8_kindAt : Room := { frames := 0, cells := 0, slots := 0, locals := 0 }
set_option maxHeartbeats 4000000 in
set_option maxRecDepth 100000 in
theorem k_X8_kindAt (l : Launch) (D : va_G) (C : Nat → ClassId) (sz : Nat) (a0 : Nat) (a1 : Nat)  (a_bytes : Nat → Int32) (a_length : Int32) (a_spot : Int32) (a_behind : Int32) (a_kind : Int32) (a_number : Int32) (p1 : Int32) {post : Int32 → Prop} (h : P_X8_kindAt a_bytes a_length p1 post) : Met l yX8_kindAt vsX8_kindAt rmX8_kindAt (cPre D C [.ref a0, .int p1] sz ([cTape a0 a1 C a_bytes a_length a_spot a_behind a_kind a_number])) (cQi D (fun (r : Int32) (u : Unit) => post r ) (fun u => [cTape a0 a1 C a_bytes a_length a_spot a_behind a_kind a_number]) (va_A (List.flatten ([cTape a0 a1 C a_bytes a_length a_spot a_behind a_kind a_number])) sz)) 0 0 (va_A (List.flatten ([cTape a0 a1 C a_bytes a_length a_spot a_behind a_kind a_number])) sz) := by
  refine cStart (QA := fun A => cQi D (fun (r : Int32) (u : Unit) => post r ) (fun u => [cTape a0 a1 C a_bytes a_length a_spot a_behind a_kind a_number]) A) (cc := cX8_kindAt) (maxL := 3) (ret := (some .int)) (by decide) (Nat.le_of_ble_eq_true rfl) ?_
  intro p e s m args below meth c A ls hx hb hr hml hown hw hlocks hname hK hN hA hP hD hS hl
  generalize hQ : MQ below _ args s 0 0 A = Q
  have hl : lv_has ls 3 [(0, .ref a0), (1, .int p1)] := hl
  obtain ⟨H, hH⟩ : ∃ H, H = s.heap := ⟨_, rfl⟩
  obtain ⟨locs, hlo⟩ : ∃ z : List Loc, z = [] := ⟨_, rfl⟩
  have hP : va_P D vwCl (List.flatten ([cTape a0 a1 C a_bytes a_length a_spot a_behind a_kind a_number])) H := by rw [hH]; exact hP
  have hS : va_S A s.heap H locs := by rw [hH, hlo]; exact hS
  rw [show W p l e rmX8_kindAt s m args below meth c s.heap [] 0 0 Q (F0 m 0 ls []) = W p l e rmX8_kindAt s m args below meth c H locs 0 0 Q (F0 m 0 ls []) from by rw [hH, hlo]]
  have N49 : ∀ (x2_ : Int32) (H : Heap) (locs : List Loc) (ls : Array Slot), P_X8_kindAt_49 a_bytes a_length p1 post  x2_ → va_P D vwCl (List.flatten ([cTape a0 a1 C a_bytes a_length a_spot a_behind a_kind a_number])) H → va_D A (List.flatten ([cTape a0 a1 C a_bytes a_length a_spot a_behind a_kind a_number])) → va_S A s.heap H locs → lv_has ls 3 [(2, .int x2_)] → W p l e rmX8_kindAt s m args below meth c H locs 0 0 Q (F0 m 49 ls []) := by
    intro x2_ H locs ls h hP hD hS hl
    refine lv_iload_n hx hb dX8_kindAt_49 rfl (lv_at hl 0 rfl) ?_
    refine lv_bipush (v := 32) hx hb dX8_kindAt_50 (by decide) ?_
    refine lv_icmp_eq (tgt := 61) hx hb dX8_kindAt_52 (by decide) (fun c1 => ?_) (fun c1 => ?_)
    · have h := h.1 c1
      refine lv_iconst (v := 4) hx hb dX8_kindAt_61 (by decide) ?_
      rw [← hQ]
      exact cRetI (v := 4) () hx hb hr hlocks hS hP hD h dX8_kindAt_62
    · have h := h.2 c1
      refine lv_iload_n hx hb dX8_kindAt_55 rfl (lv_at hl 0 rfl) ?_
      refine lv_bipush (v := 10) hx hb dX8_kindAt_56 (by decide) ?_
      refine lv_icmp_ne (tgt := 63) hx hb dX8_kindAt_58 (by decide) (fun c2 => ?_) (fun c2 => ?_)
      · have h := h.1 c2
        refine lv_iload_n hx hb dX8_kindAt_63 rfl (lv_at hl 0 rfl) ?_
        refine lv_bipush (v := 59) hx hb dX8_kindAt_64 (by decide) ?_
        refine lv_icmp_ne (tgt := 73) hx hb dX8_kindAt_66 (by decide) (fun c3 => ?_) (fun c3 => ?_)
        · have h := h.1 c3
          refine lv_iconst (v := 5) hx hb dX8_kindAt_73 (by decide) ?_
          rw [← hQ]
          exact cRetI (v := 5) () hx hb hr hlocks hS hP hD h dX8_kindAt_74
        · have h := h.2 c3
          refine lv_iconst (v := 3) hx hb dX8_kindAt_69 (by decide) ?_
          refine lv_goto (tgt := 74) hx hb dX8_kindAt_70 (by decide) ?_
          rw [← hQ]
          exact cRetI (v := 3) () hx hb hr hlocks hS hP hD h dX8_kindAt_74
      · have h := h.2 c2
        refine lv_iconst (v := 4) hx hb dX8_kindAt_61 (by decide) ?_
        rw [← hQ]
        exact cRetI (v := 4) () hx hb hr hlocks hS hP hD h dX8_kindAt_62
  have N35 : ∀ (x2_ : Int32) (H : Heap) (locs : List Loc) (ls : Array Slot), P_X8_kindAt_35 a_bytes a_length p1 post  x2_ → va_P D vwCl (List.flatten ([cTape a0 a1 C a_bytes a_length a_spot a_behind a_kind a_number])) H → va_D A (List.flatten ([cTape a0 a1 C a_bytes a_length a_spot a_behind a_kind a_number])) → va_S A s.heap H locs → lv_has ls 3 [(2, .int x2_)] → W p l e rmX8_kindAt s m args below meth c H locs 0 0 Q (F0 m 35 ls []) := by
    intro x2_ H locs ls h hP hD hS hl
    refine lv_iload_n hx hb dX8_kindAt_35 rfl (lv_at hl 0 rfl) ?_
    refine lv_bipush (v := 48) hx hb dX8_kindAt_36 (by decide) ?_
    refine lv_icmp_lt (tgt := 49) hx hb dX8_kindAt_38 (by decide) (fun c4 => ?_) (fun c4 => ?_)
    · have h := h.1 c4
      exact N49 x2_ _ _ _ h hP hD hS (lv_sub hl [0] rfl)
    · have h := h.2 c4
      refine lv_iload_n hx hb dX8_kindAt_41 rfl (lv_at hl 0 rfl) ?_
      refine lv_bipush (v := 57) hx hb dX8_kindAt_42 (by decide) ?_
      refine lv_icmp_gt (tgt := 49) hx hb dX8_kindAt_44 (by decide) (fun c5 => ?_) (fun c5 => ?_)
      · have h := h.1 c5
        exact N49 x2_ _ _ _ h hP hD hS (lv_sub hl [0] rfl)
      · have h := h.2 c5
        refine lv_iconst (v := 2) hx hb dX8_kindAt_47 (by decide) ?_
        rw [← hQ]
        exact cRetI (v := 2) () hx hb hr hlocks hS hP hD h dX8_kindAt_48
  refine lv_iload_n hx hb dX8_kindAt_0 rfl (lv_at hl 1 rfl) ?_
  refine lv_if_lt (tgt := 12) hx hb dX8_kindAt_1 (by decide) (fun c6 => ?_) (fun c6 => ?_)
  · have h := h.1 c6
    refine lv_iconst (v := 0) hx hb dX8_kindAt_12 (by decide) ?_
    rw [← hQ]
    exact cRetI (v := 0) () hx hb hr hlocks hS hP hD h dX8_kindAt_13
  · have h := h.2 c6
    refine lv_iload_n hx hb dX8_kindAt_4 rfl (lv_at hl 1 rfl) ?_
    refine lv_aload_n hx hb dX8_kindAt_5 rfl (lv_at hl 0 rfl) ?_
    refine va_get (D := D) (ci := 8) (v := .int a_length) (C := RX8) (T := TX8) (N := 6) hx hb hw inW_X8 hown hK hP 0 rfl rfl 1 (by decide) (hw _ mw_1_42) (fun _ h9 => h9) rfl dX8_kindAt_6 ?_
    refine lv_icmp_lt (tgt := 14) hx hb dX8_kindAt_9 (by decide) (fun c7 => ?_) (fun c7 => ?_)
    · have h := h.1 c7
      refine lv_aload_n hx hb dX8_kindAt_14 rfl (lv_at hl 0 rfl) ?_
      refine va_get (D := D) (ci := 8) (v := .ref a1) (C := RX8) (T := TX8) (N := 6) hx hb hw inW_X8 hown hK hP 0 rfl rfl 0 (by decide) (hw _ mw_1_41) (fun _ h9 => h9) rfl dX8_kindAt_15 ?_
      refine lv_iload_n hx hb dX8_kindAt_18 rfl (lv_at hl 1 rfl) ?_
      refine cBald hx hb hK hP 1 2 rfl rfl p1.toNatClampNeg rfl h.1 dX8_kindAt_19 ?_
      have h := h.2
      refine lv_topi (fun x8 ex8 => ?_)
      have h := h x8 ex8
      refine lv_istore_n (lv' := [(2, .int x8), (0, .ref a0), (1, .int p1)]) hx hb dX8_kindAt_20 rfl hl (by decide) rfl (fun ls hl => ?_)
      refine lv_iload_n hx hb dX8_kindAt_21 rfl (lv_at hl 0 rfl) ?_
      refine lv_bipush (v := 97) hx hb dX8_kindAt_22 (by decide) ?_
      refine lv_icmp_lt (tgt := 35) hx hb dX8_kindAt_24 (by decide) (fun c9 => ?_) (fun c9 => ?_)
      · have h := h.1 c9
        exact N35 x8 _ _ _ h hP hD hS (lv_sub hl [0] rfl)
      · have h := h.2 c9
        refine lv_iload_n hx hb dX8_kindAt_27 rfl (lv_at hl 0 rfl) ?_
        refine lv_bipush (v := 122) hx hb dX8_kindAt_28 (by decide) ?_
        refine lv_icmp_gt (tgt := 35) hx hb dX8_kindAt_30 (by decide) (fun c10 => ?_) (fun c10 => ?_)
        · have h := h.1 c10
          exact N35 x8 _ _ _ h hP hD hS (lv_sub hl [0] rfl)
        · have h := h.2 c10
          refine lv_iconst (v := 1) hx hb dX8_kindAt_33 (by decide) ?_
          rw [← hQ]
          exact cRetI (v := 1) () hx hb hr hlocks hS hP hD h dX8_kindAt_34
    · have h := h.2 c7
      refine lv_iconst (v := 0) hx hb dX8_kindAt_12 (by decide) ?_
      rw [← hQ]
      exact cRetI (v := 0) () hx hb hr hlocks hS hP hD h dX8_kindAt_13
abbrev vsX8_step : List Cond := Cond.code yX8_step cX8_step 2 none :: WS
abbrev rmX8_step : Room := { frames := 1, cells := 0, slots := 0, locals := 23 }
set_option maxHeartbeats 4000000 in
set_option maxRecDepth 100000 in
theorem k_X8_step (l : Launch) (D : va_G) (C : Nat → ClassId) (sz : Nat) (a0 : Nat) (a1 : Nat)  (a_bytes : Nat → Int32) (a_length : Int32) (a_spot : Int32) (a_behind : Int32) (a_kind : Int32) (a_number : Int32)  {post : (Int32) → (Int32) → (Int32) → (Int32) → Prop} (h : P_X8_step a_bytes a_length a_spot a_behind a_kind a_number post) : Met l yX8_step vsX8_step rmX8_step (cPre D C [.ref a0] sz ([cTape a0 a1 C a_bytes a_length a_spot a_behind a_kind a_number])) (cQv D (fun (u : (Int32) × (Int32) × (Int32) × (Int32)) => post u.1 u.2.1 u.2.2.1 u.2.2.2) (fun u => [cTape a0 a1 C a_bytes a_length u.1 u.2.1 u.2.2.1 u.2.2.2]) (va_A (List.flatten ([cTape a0 a1 C a_bytes a_length a_spot a_behind a_kind a_number])) sz)) 0 0 (va_A (List.flatten ([cTape a0 a1 C a_bytes a_length a_spot a_behind a_kind a_number])) sz) := by
  refine cStart (QA := fun A => cQv D (fun (u : (Int32) × (Int32) × (Int32) × (Int32)) => post u.1 u.2.1 u.2.2.1 u.2.2.2) (fun u => [cTape a0 a1 C a_bytes a_length u.1 u.2.1 u.2.2.1 u.2.2.2]) A) (cc := cX8_step) (maxL := 2) (ret := none) (by decide) (Nat.le_of_ble_eq_true rfl) ?_
  intro p e s m args below meth c A ls hx hb hr hml hown hw hlocks hname hK hN hA hP hD hS hl
  generalize hQ : MQ below _ args s 0 0 A = Q
  have hl : lv_has ls 2 [(0, .ref a0)] := hl
  obtain ⟨H, hH⟩ : ∃ H, H = s.heap := ⟨_, rfl⟩
  obtain ⟨locs, hlo⟩ : ∃ z : List Loc, z = [] := ⟨_, rfl⟩
  have hP : va_P D vwCl (List.flatten ([cTape a0 a1 C a_bytes a_length a_spot a_behind a_kind a_number])) H := by rw [hH]; exact hP
  have hS : va_S A s.heap H locs := by rw [hH, hlo]; exact hS
  rw [show W p l e rmX8_step s m args below meth c s.heap [] 0 0 Q (F0 m 0 ls []) = W p l e rmX8_step s m args below meth c H locs 0 0 Q (F0 m 0 ls []) from by rw [hH, hlo]]
  have N82 : ∀ (a_spot : Int32) (a_kind : Int32) (n82 : Nat) (x1_ : Int32) (a_behind : Int32) (a_number : Int32) (H : Heap) (locs : List Loc) (ls : Array Slot), P_X8_step_82 a_bytes a_length post  a_spot a_kind n82 x1_ a_behind a_number → va_P D vwCl (List.flatten ([cTape a0 a1 C a_bytes a_length a_spot a_behind a_kind a_number])) H → va_D A (List.flatten ([cTape a0 a1 C a_bytes a_length a_spot a_behind a_kind a_number])) → va_S A s.heap H locs → lv_has ls 2 [(0, .ref a0), (1, .int x1_)] → W p l e rmX8_step s m args below meth c H locs 0 0 Q (F0 m 82 ls []) := by
    intro a_spot a_kind
    intro n82
    induction n82 with
    | zero => intro x1_ a_behind a_number H locs ls h hP hD hS hl; exact False.elim h
    | succ n82 ih82 =>
      have N160 : ∀ (a_behind : Int32) (a_number : Int32) (H : Heap) (locs : List Loc) (ls : Array Slot), P_X8_step_160 a_bytes a_length a_spot a_kind post (P_X8_step_82 a_bytes a_length post  a_spot a_kind n82) a_behind a_number → va_P D vwCl (List.flatten ([cTape a0 a1 C a_bytes a_length a_spot a_behind a_kind a_number])) H → va_D A (List.flatten ([cTape a0 a1 C a_bytes a_length a_spot a_behind a_kind a_number])) → va_S A s.heap H locs → lv_has ls 2 [(0, .ref a0)] → W p l e rmX8_step s m args below meth c H locs 0 0 Q (F0 m 160 ls []) := by
        intro a_behind a_number H locs ls h hP hD hS hl
        refine lv_aload_n hx hb dX8_step_160 rfl (lv_at hl 0 rfl) ?_
        refine lv_aload_n hx hb dX8_step_161 rfl (lv_at hl 0 rfl) ?_
        refine va_get (D := D) (ci := 8) (v := .int a_behind) (C := RX8) (T := TX8) (N := 6) hx hb hw inW_X8 hown hK hP 0 rfl rfl 3 (by decide) (hw _ mw_1_46) (fun _ h9 => h9) rfl dX8_step_162 ?_
        refine cGoI (wo := fun u => [cTape a0 a1 C a_bytes a_length a_spot a_behind a_kind a_number]) (cRunV (As := [.int a_behind]) (rest := []) ⟨hx, hb, hml, hown, hw⟩ hK hN hP hD [0] rfl rfl (k_X8_kindAt l D C _ a0 a1  a_bytes a_length a_spot a_behind a_kind a_number a_behind h) (cwV 1 hw (goodV mw_2_200 mw_2_202 mw_s5 mw_1_3 mw_2_203) rfl rfl rfl (by decide +kernel) ⟨Nat.le_of_ble_eq_true rfl, Nat.le_of_ble_eq_true rfl⟩) rfl rfl rfl hl.1 rfl (Nat.le_of_ble_eq_true rfl) dX8_step_165 ⟨Nat.zero_le _, Nat.zero_le _⟩) hP hD hS hA [0] [] [0] rfl rfl rfl (by decide) rfl (fun _ => rfl) (fun r1 u H locs h hP hD hS => ?_)
        have hP : va_P D vwCl (List.flatten ([cTape a0 a1 C a_bytes a_length a_spot a_behind a_kind a_number])) H := hP
        have hD : va_D A (List.flatten ([cTape a0 a1 C a_bytes a_length a_spot a_behind a_kind a_number])) := hD
        refine lv_aload_n hx hb dX8_step_168 rfl (lv_at hl 0 rfl) ?_
        refine va_get (D := D) (ci := 8) (v := .int a_kind) (C := RX8) (T := TX8) (N := 6) hx hb hw inW_X8 hown hK hP 0 rfl rfl 4 (by decide) (hw _ mw_1_48) (fun _ h9 => h9) rfl dX8_step_169 ?_
        refine lv_icmp_ne (tgt := 179) hx hb dX8_step_172 (by decide) (fun c2 => ?_) (fun c2 => ?_)
        · have h := h.1 c2
          refine lv_iconst (v := 0) hx hb dX8_step_179 (by decide) ?_
          refine lv_istore_n (lv' := [(1, .int 0), (0, .ref a0)]) hx hb dX8_step_180 rfl hl (by decide) rfl (fun ls hl => ?_)
          refine lv_goto (tgt := 82) hx hb dX8_step_181 (by decide) ?_
          exact ih82 0 a_behind a_number _ _ _ h hP hD hS (lv_sub hl [1, 0] rfl)
        · have h := h.2 c2
          refine lv_iconst (v := 1) hx hb dX8_step_175 (by decide) ?_
          refine lv_goto (tgt := 180) hx hb dX8_step_176 (by decide) ?_
          refine lv_istore_n (lv' := [(1, .int 1), (0, .ref a0)]) hx hb dX8_step_180 rfl hl (by decide) rfl (fun ls hl => ?_)
          refine lv_goto (tgt := 82) hx hb dX8_step_181 (by decide) ?_
          exact ih82 1 a_behind a_number _ _ _ h hP hD hS (lv_sub hl [1, 0] rfl)
      have N134 : ∀ (a_behind : Int32) (a_number : Int32) (H : Heap) (locs : List Loc) (ls : Array Slot), P_X8_step_134 a_bytes a_length a_spot a_kind post (P_X8_step_82 a_bytes a_length post  a_spot a_kind n82) a_behind a_number → va_P D vwCl (List.flatten ([cTape a0 a1 C a_bytes a_length a_spot a_behind a_kind a_number])) H → va_D A (List.flatten ([cTape a0 a1 C a_bytes a_length a_spot a_behind a_kind a_number])) → va_S A s.heap H locs → lv_has ls 2 [(0, .ref a0)] → W p l e rmX8_step s m args below meth c H locs 0 0 Q (F0 m 134 ls []) := by
        intro a_behind a_number H locs ls h hP hD hS hl
        refine lv_aload_n hx hb dX8_step_134 rfl (lv_at hl 0 rfl) ?_
        refine lv_dup hx hb dX8_step_135 rfl ?_
        refine va_get (D := D) (ci := 8) (v := .int a_behind) (C := RX8) (T := TX8) (N := 6) hx hb hw inW_X8 hown hK hP 0 rfl rfl 3 (by decide) (hw _ mw_1_46) (fun _ h9 => h9) rfl dX8_step_136 ?_
        refine lv_iconst (v := 1) hx hb dX8_step_139 (by decide) ?_
        refine lv_iadd hx hb dX8_step_140 ?_
        refine lv_topi (fun x3 ex3 => ?_)
        have h := h x3 ex3
        refine va_put (D := D) (ci := 8) (v := .int x3) (ty := .int) (C := RX8) (T := TX8) (N := 6) hx hb hw inW_X8 tyX8 tyX8_ok nmX8 hown hK hP hD hS 0 rfl rfl 3 (by decide) (hw _ mw_1_46) (fun _ h9 => h9) rfl (by decide +kernel) rfl rfl (Nat.le_of_ble_eq_true rfl) dX8_step_141 (fun H locs hP hD hS => ?_)
        refine lv_aload_n hx hb dX8_step_144 rfl (lv_at hl 0 rfl) ?_
        refine va_get (D := D) (ci := 8) (v := .int a_kind) (C := RX8) (T := TX8) (N := 6) hx hb hw inW_X8 hown hK hP 0 rfl rfl 4 (by decide) (hw _ mw_1_48) (fun _ h9 => h9) rfl dX8_step_145 ?_
        refine lv_iconst (v := 1) hx hb dX8_step_148 (by decide) ?_
        refine lv_icmp_eq (tgt := 160) hx hb dX8_step_149 (by decide) (fun c4 => ?_) (fun c4 => ?_)
        · have h := h.1 c4
          have hP : va_P D vwCl (List.flatten ([cTape a0 a1 C a_bytes a_length a_spot x3 a_kind a_number])) H := hP
          have hD : va_D A (List.flatten ([cTape a0 a1 C a_bytes a_length a_spot x3 a_kind a_number])) := hD
          exact N160 x3 a_number _ _ _ h hP hD hS (lv_sub hl [0] rfl)
        · have h := h.2 c4
          refine lv_aload_n hx hb dX8_step_152 rfl (lv_at hl 0 rfl) ?_
          refine va_get (D := D) (ci := 8) (v := .int a_kind) (C := RX8) (T := TX8) (N := 6) hx hb hw inW_X8 hown hK hP 0 rfl rfl 4 (by decide) (hw _ mw_1_48) (fun _ h9 => h9) rfl dX8_step_153 ?_
          refine lv_iconst (v := 2) hx hb dX8_step_156 (by decide) ?_
          refine lv_icmp_ne (tgt := 179) hx hb dX8_step_157 (by decide) (fun c5 => ?_) (fun c5 => ?_)
          · have h := h.1 c5
            refine lv_iconst (v := 0) hx hb dX8_step_179 (by decide) ?_
            refine lv_istore_n (lv' := [(1, .int 0), (0, .ref a0)]) hx hb dX8_step_180 rfl hl (by decide) rfl (fun ls hl => ?_)
            refine lv_goto (tgt := 82) hx hb dX8_step_181 (by decide) ?_
            have hP : va_P D vwCl (List.flatten ([cTape a0 a1 C a_bytes a_length a_spot x3 a_kind a_number])) H := hP
            have hD : va_D A (List.flatten ([cTape a0 a1 C a_bytes a_length a_spot x3 a_kind a_number])) := hD
            exact ih82 0 x3 a_number _ _ _ h hP hD hS (lv_sub hl [1, 0] rfl)
          · have h := h.2 c5
            have hP : va_P D vwCl (List.flatten ([cTape a0 a1 C a_bytes a_length a_spot x3 a_kind a_number])) H := hP
            have hD : va_D A (List.flatten ([cTape a0 a1 C a_bytes a_length a_spot x3 a_kind a_number])) := hD
            exact N160 x3 a_number _ _ _ h hP hD hS (lv_sub hl [0] rfl)
      intro x1_ a_behind a_number H locs ls h hP hD hS hl
      refine lv_iload_n hx hb dX8_step_82 rfl (lv_at hl 1 rfl) ?_
      refine lv_if_eq (tgt := 184) hx hb dX8_step_83 (by decide) (fun c6 => ?_) (fun c6 => ?_)
      · have h := h.1 c6
        rw [← hQ]
        exact cRetV (a_spot, a_behind, a_kind, a_number) hx hb hr hlocks hS hP hD h dX8_step_184
      · have h := h.2 c6
        refine lv_aload_n hx hb dX8_step_86 rfl (lv_at hl 0 rfl) ?_
        refine va_get (D := D) (ci := 8) (v := .int a_behind) (C := RX8) (T := TX8) (N := 6) hx hb hw inW_X8 hown hK hP 0 rfl rfl 3 (by decide) (hw _ mw_1_46) (fun _ h9 => h9) rfl dX8_step_87 ?_
        refine lv_aload_n hx hb dX8_step_90 rfl (lv_at hl 0 rfl) ?_
        refine va_get (D := D) (ci := 8) (v := .int a_length) (C := RX8) (T := TX8) (N := 6) hx hb hw inW_X8 hown hK hP 0 rfl rfl 1 (by decide) (hw _ mw_1_42) (fun _ h9 => h9) rfl dX8_step_91 ?_
        refine lv_icmp_ge (tgt := 184) hx hb dX8_step_94 (by decide) (fun c7 => ?_) (fun c7 => ?_)
        · have h := h.1 c7
          rw [← hQ]
          exact cRetV (a_spot, a_behind, a_kind, a_number) hx hb hr hlocks hS hP hD h dX8_step_184
        · have h := h.2 c7
          refine lv_aload_n hx hb dX8_step_97 rfl (lv_at hl 0 rfl) ?_
          refine va_get (D := D) (ci := 8) (v := .int a_kind) (C := RX8) (T := TX8) (N := 6) hx hb hw inW_X8 hown hK hP 0 rfl rfl 4 (by decide) (hw _ mw_1_48) (fun _ h9 => h9) rfl dX8_step_98 ?_
          refine lv_iconst (v := 2) hx hb dX8_step_101 (by decide) ?_
          refine lv_icmp_ne (tgt := 134) hx hb dX8_step_102 (by decide) (fun c8 => ?_) (fun c8 => ?_)
          · have h := h.1 c8
            exact N134 a_behind a_number _ _ _ h hP hD hS (lv_sub hl [0] rfl)
          · have h := h.2 c8
            refine lv_aload_n hx hb dX8_step_105 rfl (lv_at hl 0 rfl) ?_
            refine lv_ldc (v := 1000000) hx hb hown (hw _ mw_2_204) dX8_step_106 ?_
            refine lv_bipush (v := 10) hx hb dX8_step_108 (by decide) ?_
            refine lv_aload_n hx hb dX8_step_110 rfl (lv_at hl 0 rfl) ?_
            refine va_get (D := D) (ci := 8) (v := .int a_number) (C := RX8) (T := TX8) (N := 6) hx hb hw inW_X8 hown hK hP 0 rfl rfl 5 (by decide) (hw _ mw_1_49) (fun _ h9 => h9) rfl dX8_step_111 ?_
            refine lv_imul hx hb dX8_step_114 ?_
            refine lv_aload_n hx hb dX8_step_115 rfl (lv_at hl 0 rfl) ?_
            refine va_get (D := D) (ci := 8) (v := .ref a1) (C := RX8) (T := TX8) (N := 6) hx hb hw inW_X8 hown hK hP 0 rfl rfl 0 (by decide) (hw _ mw_1_41) (fun _ h9 => h9) rfl dX8_step_116 ?_
            refine lv_aload_n hx hb dX8_step_119 rfl (lv_at hl 0 rfl) ?_
            refine va_get (D := D) (ci := 8) (v := .int a_behind) (C := RX8) (T := TX8) (N := 6) hx hb hw inW_X8 hown hK hP 0 rfl rfl 3 (by decide) (hw _ mw_1_46) (fun _ h9 => h9) rfl dX8_step_120 ?_
            refine cBald hx hb hK hP 1 2 rfl rfl a_behind.toNatClampNeg rfl h.1 dX8_step_123 ?_
            have h := h.2
            refine lv_iadd hx hb dX8_step_124 ?_
            refine lv_bipush (v := 48) hx hb dX8_step_125 (by decide) ?_
            refine lv_isub hx hb dX8_step_127 ?_
            refine va_mmin hx hb (hml.trans hl.1.symm) hown (hw _ mw_2_205) (hw _ mw_2_206) (hw _ mw_1_14) (hw _ mw_2_207) (Nat.le_of_ble_eq_true rfl) (Nat.le_of_ble_eq_true rfl) (Nat.zero_le _) (Nat.zero_le _) dX8_step_128 ?_
            refine lv_topi (fun x9 ex9 => ?_)
            have h := h x9 ex9
            refine va_put (D := D) (ci := 8) (v := .int x9) (ty := .int) (C := RX8) (T := TX8) (N := 6) hx hb hw inW_X8 tyX8 tyX8_ok nmX8 hown hK hP hD hS 0 rfl rfl 5 (by decide) (hw _ mw_1_49) (fun _ h9 => h9) rfl (by decide +kernel) rfl rfl (Nat.le_of_ble_eq_true rfl) dX8_step_131 (fun H locs hP hD hS => ?_)
            have hP : va_P D vwCl (List.flatten ([cTape a0 a1 C a_bytes a_length a_spot a_behind a_kind x9])) H := hP
            have hD : va_D A (List.flatten ([cTape a0 a1 C a_bytes a_length a_spot a_behind a_kind x9])) := hD
            exact N134 a_behind x9 _ _ _ h hP hD hS (lv_sub hl [0] rfl)
  have N44 : ∀ (a_spot : Int32) (a_behind : Int32) (a_kind : Int32) (a_number : Int32) (H : Heap) (locs : List Loc) (ls : Array Slot), P_X8_step_44 a_bytes a_length post  a_spot a_behind a_kind a_number → va_P D vwCl (List.flatten ([cTape a0 a1 C a_bytes a_length a_spot a_behind a_kind a_number])) H → va_D A (List.flatten ([cTape a0 a1 C a_bytes a_length a_spot a_behind a_kind a_number])) → va_S A s.heap H locs → lv_has ls 2 [(0, .ref a0)] → W p l e rmX8_step s m args below meth c H locs 0 0 Q (F0 m 44 ls []) := by
    intro a_spot a_behind a_kind a_number H locs ls h hP hD hS hl
    refine lv_aload_n hx hb dX8_step_44 rfl (lv_at hl 0 rfl) ?_
    refine lv_aload_n hx hb dX8_step_45 rfl (lv_at hl 0 rfl) ?_
    refine lv_aload_n hx hb dX8_step_46 rfl (lv_at hl 0 rfl) ?_
    refine va_get (D := D) (ci := 8) (v := .int a_spot) (C := RX8) (T := TX8) (N := 6) hx hb hw inW_X8 hown hK hP 0 rfl rfl 2 (by decide) (hw _ mw_1_44) (fun _ h9 => h9) rfl dX8_step_47 ?_
    refine cGoI (wo := fun u => [cTape a0 a1 C a_bytes a_length a_spot a_behind a_kind a_number]) (cRunV (As := [.int a_spot]) (rest := [.ref a0]) ⟨hx, hb, hml, hown, hw⟩ hK hN hP hD [0] rfl rfl (k_X8_kindAt l D C _ a0 a1  a_bytes a_length a_spot a_behind a_kind a_number a_spot h) (cwV 1 hw (goodV mw_2_200 mw_2_202 mw_s5 mw_1_3 mw_2_203) rfl rfl rfl (by decide +kernel) ⟨Nat.le_of_ble_eq_true rfl, Nat.le_of_ble_eq_true rfl⟩) rfl rfl rfl hl.1 rfl (Nat.le_of_ble_eq_true rfl) dX8_step_50 ⟨Nat.zero_le _, Nat.zero_le _⟩) hP hD hS hA [0] [] [0] rfl rfl rfl (by decide) rfl (fun _ => rfl) (fun r10 u H locs h hP hD hS => ?_)
    have hP : va_P D vwCl (List.flatten ([cTape a0 a1 C a_bytes a_length a_spot a_behind a_kind a_number])) H := hP
    have hD : va_D A (List.flatten ([cTape a0 a1 C a_bytes a_length a_spot a_behind a_kind a_number])) := hD
    refine va_put (D := D) (ci := 8) (v := .int r10) (ty := .int) (C := RX8) (T := TX8) (N := 6) hx hb hw inW_X8 tyX8 tyX8_ok nmX8 hown hK hP hD hS 0 rfl rfl 4 (by decide) (hw _ mw_1_48) (fun _ h9 => h9) rfl (by decide +kernel) rfl rfl (Nat.le_of_ble_eq_true rfl) dX8_step_53 (fun H locs hP hD hS => ?_)
    refine lv_aload_n hx hb dX8_step_56 rfl (lv_at hl 0 rfl) ?_
    refine lv_iconst (v := 0) hx hb dX8_step_57 (by decide) ?_
    refine va_put (D := D) (ci := 8) (v := .int 0) (ty := .int) (C := RX8) (T := TX8) (N := 6) hx hb hw inW_X8 tyX8 tyX8_ok nmX8 hown hK hP hD hS 0 rfl rfl 5 (by decide) (hw _ mw_1_49) (fun _ h9 => h9) rfl (by decide +kernel) rfl rfl (Nat.le_of_ble_eq_true rfl) dX8_step_58 (fun H locs hP hD hS => ?_)
    refine lv_aload_n hx hb dX8_step_61 rfl (lv_at hl 0 rfl) ?_
    refine lv_aload_n hx hb dX8_step_62 rfl (lv_at hl 0 rfl) ?_
    refine va_get (D := D) (ci := 8) (v := .int a_spot) (C := RX8) (T := TX8) (N := 6) hx hb hw inW_X8 hown hK hP 0 rfl rfl 2 (by decide) (hw _ mw_1_44) (fun _ h9 => h9) rfl dX8_step_63 ?_
    refine va_put (D := D) (ci := 8) (v := .int a_spot) (ty := .int) (C := RX8) (T := TX8) (N := 6) hx hb hw inW_X8 tyX8 tyX8_ok nmX8 hown hK hP hD hS 0 rfl rfl 3 (by decide) (hw _ mw_1_46) (fun _ h9 => h9) rfl (by decide +kernel) rfl rfl (Nat.le_of_ble_eq_true rfl) dX8_step_66 (fun H locs hP hD hS => ?_)
    refine lv_aload_n hx hb dX8_step_69 rfl (lv_at hl 0 rfl) ?_
    refine va_get (D := D) (ci := 8) (v := .int r10) (C := RX8) (T := TX8) (N := 6) hx hb hw inW_X8 hown hK hP 0 rfl rfl 4 (by decide) (hw _ mw_1_48) (fun _ h9 => h9) rfl dX8_step_70 ?_
    refine lv_if_eq (tgt := 80) hx hb dX8_step_73 (by decide) (fun c11 => ?_) (fun c11 => ?_)
    · have h := h.1 c11
      refine lv_iconst (v := 0) hx hb dX8_step_80 (by decide) ?_
      refine lv_istore_n (lv' := [(1, .int 0), (0, .ref a0)]) hx hb dX8_step_81 rfl hl (by decide) rfl (fun ls hl => ?_)
      have hP : va_P D vwCl (List.flatten ([cTape a0 a1 C a_bytes a_length a_spot a_spot r10 0])) H := hP
      have hD : va_D A (List.flatten ([cTape a0 a1 C a_bytes a_length a_spot a_spot r10 0])) := hD
      obtain ⟨n, h⟩ := h
      exact N82 a_spot r10 n 0 a_spot 0 _ _ _ h hP hD hS (lv_sub hl [1, 0] rfl)
    · have h := h.2 c11
      refine lv_iconst (v := 1) hx hb dX8_step_76 (by decide) ?_
      refine lv_goto (tgt := 81) hx hb dX8_step_77 (by decide) ?_
      refine lv_istore_n (lv' := [(1, .int 1), (0, .ref a0)]) hx hb dX8_step_81 rfl hl (by decide) rfl (fun ls hl => ?_)
      have hP : va_P D vwCl (List.flatten ([cTape a0 a1 C a_bytes a_length a_spot a_spot r10 0])) H := hP
      have hD : va_D A (List.flatten ([cTape a0 a1 C a_bytes a_length a_spot a_spot r10 0])) := hD
      obtain ⟨n, h⟩ := h
      exact N82 a_spot r10 n 1 a_spot 0 _ _ _ h hP hD hS (lv_sub hl [1, 0] rfl)
  have N8 : ∀ (a_behind : Int32) (a_kind : Int32) (a_number : Int32) (n8 : Nat) (a_spot : Int32) (H : Heap) (locs : List Loc) (ls : Array Slot), P_X8_step_8 a_bytes a_length post (fun (a_spot : Int32) (a_behind : Int32) (a_kind : Int32) (a_number : Int32) => P_X8_step_44 a_bytes a_length post  a_spot a_behind a_kind a_number) a_behind a_kind a_number n8 a_spot → va_P D vwCl (List.flatten ([cTape a0 a1 C a_bytes a_length a_spot a_behind a_kind a_number])) H → va_D A (List.flatten ([cTape a0 a1 C a_bytes a_length a_spot a_behind a_kind a_number])) → va_S A s.heap H locs → lv_has ls 2 [(0, .ref a0)] → W p l e rmX8_step s m args below meth c H locs 0 0 Q (F0 m 8 ls []) := by
    intro a_behind a_kind a_number
    intro n8
    induction n8 with
    | zero => intro a_spot H locs ls h hP hD hS hl; exact False.elim h
    | succ n8 ih8 =>
      intro a_spot H locs ls h hP hD hS hl
      refine lv_aload_n hx hb dX8_step_8 rfl (lv_at hl 0 rfl) ?_
      refine va_get (D := D) (ci := 8) (v := .int a_spot) (C := RX8) (T := TX8) (N := 6) hx hb hw inW_X8 hown hK hP 0 rfl rfl 2 (by decide) (hw _ mw_1_44) (fun _ h9 => h9) rfl dX8_step_9 ?_
      refine lv_aload_n hx hb dX8_step_12 rfl (lv_at hl 0 rfl) ?_
      refine va_get (D := D) (ci := 8) (v := .int a_length) (C := RX8) (T := TX8) (N := 6) hx hb hw inW_X8 hown hK hP 0 rfl rfl 1 (by decide) (hw _ mw_1_42) (fun _ h9 => h9) rfl dX8_step_13 ?_
      refine lv_icmp_ge (tgt := 44) hx hb dX8_step_16 (by decide) (fun c12 => ?_) (fun c12 => ?_)
      · have h := h.1 c12
        exact N44 a_spot a_behind a_kind a_number _ _ _ h hP hD hS (lv_sub hl [0] rfl)
      · have h := h.2 c12
        refine lv_aload_n hx hb dX8_step_19 rfl (lv_at hl 0 rfl) ?_
        refine lv_aload_n hx hb dX8_step_20 rfl (lv_at hl 0 rfl) ?_
        refine va_get (D := D) (ci := 8) (v := .int a_spot) (C := RX8) (T := TX8) (N := 6) hx hb hw inW_X8 hown hK hP 0 rfl rfl 2 (by decide) (hw _ mw_1_44) (fun _ h9 => h9) rfl dX8_step_21 ?_
        refine cGoI (wo := fun u => [cTape a0 a1 C a_bytes a_length a_spot a_behind a_kind a_number]) (cRunV (As := [.int a_spot]) (rest := []) ⟨hx, hb, hml, hown, hw⟩ hK hN hP hD [0] rfl rfl (k_X8_kindAt l D C _ a0 a1  a_bytes a_length a_spot a_behind a_kind a_number a_spot h) (cwV 1 hw (goodV mw_2_200 mw_2_202 mw_s5 mw_1_3 mw_2_203) rfl rfl rfl (by decide +kernel) ⟨Nat.le_of_ble_eq_true rfl, Nat.le_of_ble_eq_true rfl⟩) rfl rfl rfl hl.1 rfl (Nat.le_of_ble_eq_true rfl) dX8_step_24 ⟨Nat.zero_le _, Nat.zero_le _⟩) hP hD hS hA [0] [] [0] rfl rfl rfl (by decide) rfl (fun _ => rfl) (fun r13 u H locs h hP hD hS => ?_)
        have hP : va_P D vwCl (List.flatten ([cTape a0 a1 C a_bytes a_length a_spot a_behind a_kind a_number])) H := hP
        have hD : va_D A (List.flatten ([cTape a0 a1 C a_bytes a_length a_spot a_behind a_kind a_number])) := hD
        refine lv_iconst (v := 4) hx hb dX8_step_27 (by decide) ?_
        refine lv_icmp_ne (tgt := 44) hx hb dX8_step_28 (by decide) (fun c14 => ?_) (fun c14 => ?_)
        · have h := h.1 c14
          exact N44 a_spot a_behind a_kind a_number _ _ _ h hP hD hS (lv_sub hl [0] rfl)
        · have h := h.2 c14
          refine lv_aload_n hx hb dX8_step_31 rfl (lv_at hl 0 rfl) ?_
          refine lv_dup hx hb dX8_step_32 rfl ?_
          refine va_get (D := D) (ci := 8) (v := .int a_spot) (C := RX8) (T := TX8) (N := 6) hx hb hw inW_X8 hown hK hP 0 rfl rfl 2 (by decide) (hw _ mw_1_44) (fun _ h9 => h9) rfl dX8_step_33 ?_
          refine lv_iconst (v := 1) hx hb dX8_step_36 (by decide) ?_
          refine lv_iadd hx hb dX8_step_37 ?_
          refine lv_topi (fun x15 ex15 => ?_)
          have h := h x15 ex15
          refine va_put (D := D) (ci := 8) (v := .int x15) (ty := .int) (C := RX8) (T := TX8) (N := 6) hx hb hw inW_X8 tyX8 tyX8_ok nmX8 hown hK hP hD hS 0 rfl rfl 2 (by decide) (hw _ mw_1_44) (fun _ h9 => h9) rfl (by decide +kernel) rfl rfl (Nat.le_of_ble_eq_true rfl) dX8_step_38 (fun H locs hP hD hS => ?_)
          refine lv_goto (tgt := 8) hx hb dX8_step_41 (by decide) ?_
          have hP : va_P D vwCl (List.flatten ([cTape a0 a1 C a_bytes a_length x15 a_behind a_kind a_number])) H := hP
          have hD : va_D A (List.flatten ([cTape a0 a1 C a_bytes a_length x15 a_behind a_kind a_number])) := hD
          exact ih8 x15 _ _ _ h hP hD hS (lv_sub hl [0] rfl)
  refine lv_aload_n hx hb dX8_step_0 rfl (lv_at hl 0 rfl) ?_
  refine lv_aload_n hx hb dX8_step_1 rfl (lv_at hl 0 rfl) ?_
  refine va_get (D := D) (ci := 8) (v := .int a_behind) (C := RX8) (T := TX8) (N := 6) hx hb hw inW_X8 hown hK hP 0 rfl rfl 3 (by decide) (hw _ mw_1_46) (fun _ h9 => h9) rfl dX8_step_2 ?_
  refine va_put (D := D) (ci := 8) (v := .int a_behind) (ty := .int) (C := RX8) (T := TX8) (N := 6) hx hb hw inW_X8 tyX8 tyX8_ok nmX8 hown hK hP hD hS 0 rfl rfl 2 (by decide) (hw _ mw_1_44) (fun _ h9 => h9) rfl (by decide +kernel) rfl rfl (Nat.le_of_ble_eq_true rfl) dX8_step_5 (fun H locs hP hD hS => ?_)
  have hP : va_P D vwCl (List.flatten ([cTape a0 a1 C a_bytes a_length a_behind a_behind a_kind a_number])) H := hP
  have hD : va_D A (List.flatten ([cTape a0 a1 C a_bytes a_length a_behind a_behind a_kind a_number])) := hD
  obtain ⟨n, h⟩ := h
  exact N8 a_behind a_kind a_number n a_behind _ _ _ h hP hD hS (lv_sub hl [0] rfl)
abbrev vsX8_rewind : List Cond := Cond.code yX8_rewind cX8_rewind 1 none :: WS
abbrev rmX8_rewind : Room := { frames := 2, cells := 0, slots := 0, locals := 44 }
set_option maxHeartbeats 4000000 in
set_option maxRecDepth 100000 in
theorem k_X8_rewind (l : Launch) (D : va_G) (C : Nat → ClassId) (sz : Nat) (a0 : Nat) (a1 : Nat)  (a_bytes : Nat → Int32) (a_length : Int32) (a_spot : Int32) (a_behind : Int32) (a_kind : Int32) (a_number : Int32)  {post : (Int32) → (Int32) → (Int32) → (Int32) → Prop} (h : P_X8_rewind a_bytes a_length a_spot a_behind a_kind a_number post) : Met l yX8_rewind vsX8_rewind rmX8_rewind (cPre D C [.ref a0] sz ([cTape a0 a1 C a_bytes a_length a_spot a_behind a_kind a_number])) (cQv D (fun (u : (Int32) × (Int32) × (Int32) × (Int32)) => post u.1 u.2.1 u.2.2.1 u.2.2.2) (fun u => [cTape a0 a1 C a_bytes a_length u.1 u.2.1 u.2.2.1 u.2.2.2]) (va_A (List.flatten ([cTape a0 a1 C a_bytes a_length a_spot a_behind a_kind a_number])) sz)) 0 0 (va_A (List.flatten ([cTape a0 a1 C a_bytes a_length a_spot a_behind a_kind a_number])) sz) := by
  refine cStart (QA := fun A => cQv D (fun (u : (Int32) × (Int32) × (Int32) × (Int32)) => post u.1 u.2.1 u.2.2.1 u.2.2.2) (fun u => [cTape a0 a1 C a_bytes a_length u.1 u.2.1 u.2.2.1 u.2.2.2]) A) (cc := cX8_rewind) (maxL := 1) (ret := none) (by decide) (Nat.le_of_ble_eq_true rfl) ?_
  intro p e s m args below meth c A ls hx hb hr hml hown hw hlocks hname hK hN hA hP hD hS hl
  generalize hQ : MQ below _ args s 0 0 A = Q
  have hl : lv_has ls 1 [(0, .ref a0)] := hl
  obtain ⟨H, hH⟩ : ∃ H, H = s.heap := ⟨_, rfl⟩
  obtain ⟨locs, hlo⟩ : ∃ z : List Loc, z = [] := ⟨_, rfl⟩
  have hP : va_P D vwCl (List.flatten ([cTape a0 a1 C a_bytes a_length a_spot a_behind a_kind a_number])) H := by rw [hH]; exact hP
  have hS : va_S A s.heap H locs := by rw [hH, hlo]; exact hS
  rw [show W p l e rmX8_rewind s m args below meth c s.heap [] 0 0 Q (F0 m 0 ls []) = W p l e rmX8_rewind s m args below meth c H locs 0 0 Q (F0 m 0 ls []) from by rw [hH, hlo]]
  refine lv_aload_n hx hb dX8_rewind_0 rfl (lv_at hl 0 rfl) ?_
  refine lv_iconst (v := 0) hx hb dX8_rewind_1 (by decide) ?_
  refine va_put (D := D) (ci := 8) (v := .int 0) (ty := .int) (C := RX8) (T := TX8) (N := 6) hx hb hw inW_X8 tyX8 tyX8_ok nmX8 hown hK hP hD hS 0 rfl rfl 3 (by decide) (hw _ mw_1_46) (fun _ h9 => h9) rfl (by decide +kernel) rfl rfl (Nat.le_of_ble_eq_true rfl) dX8_rewind_2 (fun H locs hP hD hS => ?_)
  refine lv_aload_n hx hb dX8_rewind_5 rfl (lv_at hl 0 rfl) ?_
  have hP : va_P D vwCl (List.flatten ([cTape a0 a1 C a_bytes a_length a_spot 0 a_kind a_number])) H := hP
  have hD : va_D A (List.flatten ([cTape a0 a1 C a_bytes a_length a_spot 0 a_kind a_number])) := hD
  refine cGoV (wo := fun u => [cTape a0 a1 C a_bytes a_length u.1 u.2.1 u.2.2.1 u.2.2.2]) (cRunV (As := []) (rest := []) ⟨hx, hb, hml, hown, hw⟩ hK hN hP hD [0] rfl rfl (k_X8_step l D C _ a0 a1  a_bytes a_length a_spot 0 a_kind a_number  h) (cwV 0 hw (goodV mw_2_196 mw_2_198 mw_s4 mw_1_3 mw_2_199) rfl rfl rfl (by decide +kernel) ⟨Nat.le_of_ble_eq_true rfl, Nat.le_of_ble_eq_true rfl⟩) rfl rfl rfl hl.1 rfl (Nat.le_of_ble_eq_true rfl) dX8_rewind_6 ⟨Nat.zero_le _, Nat.zero_le _⟩) hP hD hS hA [0] [] [0] rfl rfl rfl (by decide) rfl (fun _ => rfl) (fun u H locs h hP hD hS => ?_)
  obtain ⟨spo_1, beh_2, kin_3, num_4⟩ := u
  have hP : va_P D vwCl (List.flatten ([cTape a0 a1 C a_bytes a_length spo_1 beh_2 kin_3 num_4])) H := hP
  have hD : va_D A (List.flatten ([cTape a0 a1 C a_bytes a_length spo_1 beh_2 kin_3 num_4])) := hD
  rw [← hQ]
  exact cRetV (spo_1, beh_2, kin_3, num_4) hx hb hr hlocks hS hP hD h dX8_rewind_9
abbrev vsX1_add : List Cond := Cond.code yX1_add cX1_add 3 none :: WS
abbrev rmX1_add : Room := { frames := 0, cells := 0, slots := 0, locals := 0 }
set_option maxHeartbeats 4000000 in
set_option maxRecDepth 100000 in
theorem k_X1_add (l : Launch) (D : va_G) (C : Nat → ClassId) (sz : Nat) (a0 : Nat) (a1 : Nat) (a2 : Nat)  (a_count : Int32) (a_place : Nat → Int32) (a_bright : Nat → Int32) (p1 : Int32) (p2 : Int32) {post : (Int32) → (Nat → Int32) → (Nat → Int32) → Prop} (h : P_X1_add a_count a_place a_bright p1 p2 post) : Met l yX1_add vsX1_add rmX1_add (cPre D C [.ref a0, .int p1, .int p2] sz ([cLamps a0 a1 a2 C a_count a_place a_bright])) (cQv D (fun (u : (Int32) × (Nat → Int32) × (Nat → Int32)) => post u.1 u.2.1 u.2.2) (fun u => [cLamps a0 a1 a2 C u.1 u.2.1 u.2.2]) (va_A (List.flatten ([cLamps a0 a1 a2 C a_count a_place a_bright])) sz)) 0 0 (va_A (List.flatten ([cLamps a0 a1 a2 C a_count a_place a_bright])) sz) := by
  refine cStart (QA := fun A => cQv D (fun (u : (Int32) × (Nat → Int32) × (Nat → Int32)) => post u.1 u.2.1 u.2.2) (fun u => [cLamps a0 a1 a2 C u.1 u.2.1 u.2.2]) A) (cc := cX1_add) (maxL := 3) (ret := none) (by decide) (Nat.le_of_ble_eq_true rfl) ?_
  intro p e s m args below meth c A ls hx hb hr hml hown hw hlocks hname hK hN hA hP hD hS hl
  generalize hQ : MQ below _ args s 0 0 A = Q
  have hl : lv_has ls 3 [(0, .ref a0), (1, .int p1), (2, .int p2)] := hl
  obtain ⟨H, hH⟩ : ∃ H, H = s.heap := ⟨_, rfl⟩
  obtain ⟨locs, hlo⟩ : ∃ z : List Loc, z = [] := ⟨_, rfl⟩
  have hP : va_P D vwCl (List.flatten ([cLamps a0 a1 a2 C a_count a_place a_bright])) H := by rw [hH]; exact hP
  have hS : va_S A s.heap H locs := by rw [hH, hlo]; exact hS
  rw [show W p l e rmX1_add s m args below meth c s.heap [] 0 0 Q (F0 m 0 ls []) = W p l e rmX1_add s m args below meth c H locs 0 0 Q (F0 m 0 ls []) from by rw [hH, hlo]]
  refine lv_aload_n hx hb dX1_add_0 rfl (lv_at hl 0 rfl) ?_
  refine va_get (D := D) (ci := 1) (v := .int a_count) (C := RX1) (T := TX1) (N := 3) hx hb hw inW_X1 hown hK hP 0 rfl rfl 0 (by decide) (hw _ mw_1_90) (fun _ h9 => h9) rfl dX1_add_1 ?_
  refine lv_iconst (v := 4) hx hb dX1_add_4 (by decide) ?_
  refine lv_icmp_gt (tgt := 38) hx hb dX1_add_5 (by decide) (fun c1 => ?_) (fun c1 => ?_)
  · have h := h.1 c1
    rw [← hQ]
    exact cRetV (a_count, a_place, a_bright) hx hb hr hlocks hS hP hD h dX1_add_38
  · have h := h.2 c1
    refine lv_aload_n hx hb dX1_add_8 rfl (lv_at hl 0 rfl) ?_
    refine va_get (D := D) (ci := 1) (v := .ref a1) (C := RX1) (T := TX1) (N := 3) hx hb hw inW_X1 hown hK hP 0 rfl rfl 1 (by decide) (hw _ mw_1_94) (fun _ h9 => h9) rfl dX1_add_9 ?_
    refine lv_aload_n hx hb dX1_add_12 rfl (lv_at hl 0 rfl) ?_
    refine va_get (D := D) (ci := 1) (v := .int a_count) (C := RX1) (T := TX1) (N := 3) hx hb hw inW_X1 hown hK hP 0 rfl rfl 0 (by decide) (hw _ mw_1_90) (fun _ h9 => h9) rfl dX1_add_13 ?_
    refine lv_iload_n hx hb dX1_add_16 rfl (lv_at hl 1 rfl) ?_
    refine cIast hx hb hK hP hD hS 1 0 rfl rfl a_count.toNatClampNeg rfl h.1 dX1_add_17 (fun H locs hP hD hS => ?_)
    have h := h.2
    refine lv_aload_n hx hb dX1_add_18 rfl (lv_at hl 0 rfl) ?_
    refine va_get (D := D) (ci := 1) (v := .ref a2) (C := RX1) (T := TX1) (N := 3) hx hb hw inW_X1 hown hK hP 0 rfl rfl 2 (by decide) (hw _ mw_1_96) (fun _ h9 => h9) rfl dX1_add_19 ?_
    refine lv_aload_n hx hb dX1_add_22 rfl (lv_at hl 0 rfl) ?_
    refine va_get (D := D) (ci := 1) (v := .int a_count) (C := RX1) (T := TX1) (N := 3) hx hb hw inW_X1 hown hK hP 0 rfl rfl 0 (by decide) (hw _ mw_1_90) (fun _ h9 => h9) rfl dX1_add_23 ?_
    refine lv_iload_n hx hb dX1_add_26 rfl (lv_at hl 2 rfl) ?_
    refine cIast hx hb hK hP hD hS 2 0 rfl rfl a_count.toNatClampNeg rfl h.1 dX1_add_27 (fun H locs hP hD hS => ?_)
    have h := h.2
    refine lv_aload_n hx hb dX1_add_28 rfl (lv_at hl 0 rfl) ?_
    refine lv_dup hx hb dX1_add_29 rfl ?_
    refine va_get (D := D) (ci := 1) (v := .int a_count) (C := RX1) (T := TX1) (N := 3) hx hb hw inW_X1 hown hK hP 0 rfl rfl 0 (by decide) (hw _ mw_1_90) (fun _ h9 => h9) rfl dX1_add_30 ?_
    refine lv_iconst (v := 1) hx hb dX1_add_33 (by decide) ?_
    refine lv_iadd hx hb dX1_add_34 ?_
    refine lv_topi (fun x2 ex2 => ?_)
    have h := h x2 ex2
    refine va_put (D := D) (ci := 1) (v := .int x2) (ty := .int) (C := RX1) (T := TX1) (N := 3) hx hb hw inW_X1 tyX1 tyX1_ok nmX1 hown hK hP hD hS 0 rfl rfl 0 (by decide) (hw _ mw_1_90) (fun _ h9 => h9) rfl (by decide +kernel) rfl rfl (Nat.le_of_ble_eq_true rfl) dX1_add_35 (fun H locs hP hD hS => ?_)
    have hP : va_P D vwCl (List.flatten ([cLamps a0 a1 a2 C x2 (upd a_place a_count.toNatClampNeg p1) (upd a_bright a_count.toNatClampNeg p2)])) H := hP
    have hD : va_D A (List.flatten ([cLamps a0 a1 a2 C x2 (upd a_place a_count.toNatClampNeg p1) (upd a_bright a_count.toNatClampNeg p2)])) := hD
    rw [← hQ]
    exact cRetV (x2, (upd a_place a_count.toNatClampNeg p1), (upd a_bright a_count.toNatClampNeg p2)) hx hb hr hlocks hS hP hD h dX1_add_38
