abbrev vsX8_append : List Cond := Cond.code yX8_append cX8_append 3 none :: WS
abbrev rmX8_append : Room := { frames := 0, cells := 0, slots := 0, locals := 0 }
set_option maxHeartbeats 4000000 in
set_option maxRecDepth 100000 in
theorem k_X8_append (l : Launch) (D : va_G) (C : Nat → ClassId) (sz : Nat) (a0 : Nat) (a1 : Nat)  (a_bytes : Nat → Int32) (a_length : Int32) (a_spot : Int32) (a_behind : Int32) (a_kind : Int32) (a_number : Int32) (p1 : Int32) {post : (Nat → Int32) → (Int32) → Prop} (h : P_X8_append a_bytes a_length p1 post) : Met l yX8_append vsX8_append rmX8_append (cPre D C [.ref a0, .int p1] sz ([cTape a0 a1 C a_bytes a_length a_spot a_behind a_kind a_number])) (cQv D (fun (u : (Nat → Int32) × (Int32)) => post u.1 u.2) (fun u => [cTape a0 a1 C u.1 u.2 a_spot a_behind a_kind a_number]) (va_A (List.flatten ([cTape a0 a1 C a_bytes a_length a_spot a_behind a_kind a_number])) sz)) 0 0 (va_A (List.flatten ([cTape a0 a1 C a_bytes a_length a_spot a_behind a_kind a_number])) sz) := by
  refine cStart (QA := fun A => cQv D (fun (u : (Nat → Int32) × (Int32)) => post u.1 u.2) (fun u => [cTape a0 a1 C u.1 u.2 a_spot a_behind a_kind a_number]) A) (cc := cX8_append) (maxL := 3) (ret := none) (by decide) (Nat.le_of_ble_eq_true rfl) ?_
  intro p e s m args below meth c A ls hx hb hr hml hown hw hlocks hname hK hN hA hP hD hS hl
  generalize hQ : MQ below _ args s 0 0 A = Q
  have hl : lv_has ls 3 [(0, .ref a0), (1, .int p1)] := hl
  obtain ⟨H, hH⟩ : ∃ H, H = s.heap := ⟨_, rfl⟩
  obtain ⟨locs, hlo⟩ : ∃ z : List Loc, z = [] := ⟨_, rfl⟩
  have hP : va_P D vwCl (List.flatten ([cTape a0 a1 C a_bytes a_length a_spot a_behind a_kind a_number])) H := by rw [hH]; exact hP
  have hS : va_S A s.heap H locs := by rw [hH, hlo]; exact hS
  rw [show W p l e rmX8_append s m args below meth c s.heap [] 0 0 Q (F0 m 0 ls []) = W p l e rmX8_append s m args below meth c H locs 0 0 Q (F0 m 0 ls []) from by rw [hH, hlo]]
  have N3 : ∀  (n3 : Nat) (x2_ : Int32) (a_bytes : Nat → Int32) (a_length : Int32) (H : Heap) (locs : List Loc) (ls : Array Slot), P_X8_append_3 p1 post   n3 x2_ a_bytes a_length → va_P D vwCl (List.flatten ([cTape a0 a1 C a_bytes a_length a_spot a_behind a_kind a_number])) H → va_D A (List.flatten ([cTape a0 a1 C a_bytes a_length a_spot a_behind a_kind a_number])) → va_S A s.heap H locs → lv_has ls 3 [(0, .ref a0), (1, .int p1), (2, .int x2_)] → W p l e rmX8_append s m args below meth c H locs 0 0 Q (F0 m 3 ls []) := by
    intro n3
    induction n3 with
    | zero => intro x2_ a_bytes a_length H locs ls h hP hD hS hl; exact False.elim h
    | succ n3 ih3 =>
      intro x2_ a_bytes a_length H locs ls h hP hD hS hl
      refine lv_iload_n hx hb dX8_append_3 rfl (lv_at hl 2 rfl) ?_
      refine lv_if_lt (tgt := 46) hx hb dX8_append_4 (by decide) (fun c1 => ?_) (fun c1 => ?_)
      · have h := h.1 c1
        rw [← hQ]
        exact cRetV (a_bytes, a_length) hx hb hr hlocks hS hP hD h dX8_append_46
      · have h := h.2 c1
        refine lv_aload_n hx hb dX8_append_7 rfl (lv_at hl 0 rfl) ?_
        refine va_get (D := D) (ci := 8) (v := .int a_length) (C := RX8) (T := TX8) (N := 6) hx hb hw inW_X8 hown hK hP 0 rfl rfl 1 (by decide) (hw _ mw_1_42) (fun _ h9 => h9) rfl dX8_append_8 ?_
        refine lv_sipush (v := 1600) hx hb dX8_append_11 (by decide) ?_
        refine lv_icmp_ge (tgt := 46) hx hb dX8_append_14 (by decide) (fun c2 => ?_) (fun c2 => ?_)
        · have h := h.1 c2
          rw [← hQ]
          exact cRetV (a_bytes, a_length) hx hb hr hlocks hS hP hD h dX8_append_46
        · have h := h.2 c2
          refine lv_aload_n hx hb dX8_append_17 rfl (lv_at hl 0 rfl) ?_
          refine va_get (D := D) (ci := 8) (v := .ref a1) (C := RX8) (T := TX8) (N := 6) hx hb hw inW_X8 hown hK hP 0 rfl rfl 0 (by decide) (hw _ mw_1_41) (fun _ h9 => h9) rfl dX8_append_18 ?_
          refine lv_aload_n hx hb dX8_append_21 rfl (lv_at hl 0 rfl) ?_
          refine va_get (D := D) (ci := 8) (v := .int a_length) (C := RX8) (T := TX8) (N := 6) hx hb hw inW_X8 hown hK hP 0 rfl rfl 1 (by decide) (hw _ mw_1_42) (fun _ h9 => h9) rfl dX8_append_22 ?_
          refine lv_iload_n hx hb dX8_append_25 rfl (lv_at hl 1 rfl) ?_
          refine lv_iload_n hx hb dX8_append_26 rfl (lv_at hl 2 rfl) ?_
          refine lv_iushr hx hb dX8_append_27 rfl ?_
          refine lv_i2b hx hb dX8_append_28 rfl ?_
          refine cBast hx hb hK hP hD hS 1 2 rfl rfl a_length.toNatClampNeg rfl h.1 dX8_append_29 (fun H locs hP hD hS => ?_)
          have h := h.2
          refine lv_aload_n hx hb dX8_append_30 rfl (lv_at hl 0 rfl) ?_
          refine lv_dup hx hb dX8_append_31 rfl ?_
          refine va_get (D := D) (ci := 8) (v := .int a_length) (C := RX8) (T := TX8) (N := 6) hx hb hw inW_X8 hown hK hP 0 rfl rfl 1 (by decide) (hw _ mw_1_42) (fun _ h9 => h9) rfl dX8_append_32 ?_
          refine lv_iconst (v := 1) hx hb dX8_append_35 (by decide) ?_
          refine lv_iadd hx hb dX8_append_36 ?_
          refine lv_topi (fun x3 ex3 => ?_)
          have h := h x3 ex3
          refine va_put (D := D) (ci := 8) (v := .int x3) (ty := .int) (C := RX8) (T := TX8) (N := 6) hx hb hw inW_X8 tyX8 tyX8_ok nmX8 hown hK hP hD hS 0 rfl rfl 1 (by decide) (hw _ mw_1_42) (fun _ h9 => h9) rfl (by decide +kernel) rfl rfl (Nat.le_of_ble_eq_true rfl) dX8_append_37 (fun H locs hP hD hS => ?_)
          refine lv_iinc (v := (x2_ + (-8))) (lv' := [(2, .int (x2_ + (-8))), (0, .ref a0), (1, .int p1)]) hx hb dX8_append_40 hl (k := 2) rfl rfl (by decide) rfl (fun ls hl => ?_)
          refine lv_goto (tgt := 3) hx hb dX8_append_43 (by decide) ?_
          have hP : va_P D vwCl (List.flatten ([cTape a0 a1 C (upd a_bytes a_length.toNatClampNeg ((((p1.toUInt32 >>> (x2_.toUInt32 &&& Int32.toUInt32 31)).toInt32).toInt8.toInt32).toInt8.toInt32)) x3 a_spot a_behind a_kind a_number])) H := hP
          have hD : va_D A (List.flatten ([cTape a0 a1 C (upd a_bytes a_length.toNatClampNeg ((((p1.toUInt32 >>> (x2_.toUInt32 &&& Int32.toUInt32 31)).toInt32).toInt8.toInt32).toInt8.toInt32)) x3 a_spot a_behind a_kind a_number])) := hD
          exact ih3 (x2_ + (-8)) (upd a_bytes a_length.toNatClampNeg ((((p1.toUInt32 >>> (x2_.toUInt32 &&& Int32.toUInt32 31)).toInt32).toInt8.toInt32).toInt8.toInt32)) x3 _ _ _ h hP hD hS (lv_sub hl [1, 2, 0] rfl)
  refine lv_bipush (v := 24) hx hb dX8_append_0 (by decide) ?_
  refine lv_istore_n (lv' := [(2, .int 24), (0, .ref a0), (1, .int p1)]) hx hb dX8_append_2 rfl hl (by decide) rfl (fun ls hl => ?_)
  obtain ⟨n, h⟩ := h
  exact N3  n 24 a_bytes a_length _ _ _ h hP hD hS (lv_sub hl [1, 2, 0] rfl)
abbrev vsX8_kindAt : List Cond := Cond.code yX8_kindAt cX8_kindAt 3 (some .int) :: WS
abbrev rmX8_kindAt : Room := { frames := 0, cells := 0, slots := 0, locals := 0 }
set_option maxHeartbeats 4000000 in
set_option maxRecDepth 100000 in
theorem k_X8_kindAt (l : Launch) (D : va_G) (C : Nat → ClassId) (sz : Nat) (a0 : Nat) (a1 : Nat)  (a_bytes : Nat → Int32) (a_length : Int32) (a_spot : Int32) (a_behind : Int32) (a_kind : Int32) (a_number : Int32) (p1 : Int32) {post : Int32 → Prop} (h : P_X8_kindAt a_bytes a_length p1 post) : Met l yX8_kindAt vsX8_kindAt rmX8_kindAt (cPre D C [.ref a0, .int p1] sz ([cTape a0 a1 C a_bytes a_length a_spot a_behind a_kind a_number])) (cQi D (fun (r : Int32) (u : Unit) => post r ) (fun u => [cTape a0 a1 C a_bytes a_length a_spot a_behind a_kind a_number]) (va_A (List.flatten ([cTape a0 a1 C a_bytes a_length a_spot a_behind a_kind a_number])) sz)) 0 0 (va_A (List.flatten ([cTape a0 a1 C a_bytes a_length a_spot a_behind a_kind a_number])) sz) := by
  refine cStart (QA := fun A => cQi D (fun (r : Int32) (u : Unit) => post r ) (fun u => [cTape a0 a1 C a_bytes a_length a_spot a_behind a_kind a_number]) A) (cc := cX8_kindAt) (maxL := 3) (ret := (some .int)) (by decide) (Nat.le_of_ble_eq_true rfl) ?_
  intro p e s m args below meth c A ls hx hb hr hml hown hw hlocks hname hK hN hA hP hD hS hl
  generalize hQ : MQ below _ args s 0 0 A = Q
  have hl : lv_has ls 3 [(0, .ref a0), (1, .int p1)] := hl
  obtain ⟨H, hH⟩ : ∃ H, H = s.heap := ⟨_, rfl⟩
  obtain ⟨locs, hlo⟩ : ∃ z : List Loc, z = [] := ⟨_, rfl⟩
  have hP : va_P D vwCl (List.flatten ([cTape a0 a1 C a_bytes a_length a_spot a_behind a_kind a_number])) H := by rw [hH]; exact hP
  have hS : va_S A s.heap H locs := by rw [hH, hlo]; exact hS
  rw [show W p l e rmX8_kindAt s m args below meth c s.heap [] 0 0 Q (F0 m 0 ls []) = W p l e rmX8_kindAt s m args below meth c H locs 0 0 Q (F0 m 0 ls []) from by rw [hH, hlo]]
  have N49 : ∀ (x2_ : Int32) (H : Heap) (locs : List Loc) (ls : Array Slot), P_X8_kindAt_49 a_bytes a_length p1 post  x2_ → va_P D vwCl (List.flatten ([cTape a0 a1 C a_bytes a_length a_spot a_behind a_kind a_number])) H → va_D A (List.flatten ([cTape a0 a1 C a_bytes a_length a_spot a_behind a_kind a_number])) → va_S A s.heap H locs → lv_has ls 3 [(2, .int x2_)] → W p l e rmX8_kindAt s m args below meth c H locs 0 0 Q (F0 m 49 ls []) := by
    intro x2_ H locs ls h hP hD hS hl
    refine lv_iload_n hx hb dX8_kindAt_49 rfl (lv_at hl 0 rfl) ?_
    refine lv_bipush (v := 32) hx hb dX8_kindAt_50 (by decide) ?_
    refine lv_icmp_eq (tgt := 61) hx hb dX8_kindAt_52 (by decide) (fun c1 => ?_) (fun c1 => ?_)
    · have h := h.1 c1
      refine lv_iconst (v := 4) hx hb dX8_kindAt_61 (by decide) ?_
      rw [← hQ]
      exact cRetI (v := 4) () hx hb hr hlocks hS hP hD h dX8_kindAt_62
    · have h := h.2 c1
      refine lv_iload_n hx hb dX8_kindAt_55 rfl (lv_at hl 0 rfl) ?_
      refine lv_bipush (v := 10) hx hb dX8_kindAt_56 (by decide) ?_
      refine lv_icmp_ne (tgt := 63) hx hb dX8_kindAt_58 (by decide) (fun c2 => ?_) (fun c2 => ?_)
      · have h := h.1 c2
        refine lv_iload_n hx hb dX8_kindAt_63 rfl (lv_at hl 0 rfl) ?_
        refine lv_bipush (v := 59) hx hb dX8_kindAt_64 (by decide) ?_
        refine lv_icmp_ne (tgt := 73) hx hb dX8_kindAt_66 (by decide) (fun c3 => ?_) (fun c3 => ?_)
        · have h := h.1 c3
          refine lv_iconst (v := 5) hx hb dX8_kindAt_73 (by decide) ?_
          rw [← hQ]
          exact cRetI (v := 5) () hx hb hr hlocks hS hP hD h dX8_kindAt_74
        · have h := h.2 c3
          refine lv_iconst (v := 3) hx hb dX8_kindAt_69 (by decide) ?_
          refine lv_goto (tgt := 74) hx hb dX8_kindAt_70 (by decide) ?_
          rw [← hQ]
          exact cRetI (v := 3) () hx hb hr hlocks hS hP hD h dX8_kindAt_74
      · have h := h.2 c2
        refine lv_iconst (v := 4) hx hb dX8_kindAt_61 (by decide) ?_
        rw [← hQ]
        exact cRetI (v := 4) () hx hb hr hlocks hS hP hD h dX8_kindAt_62
  have N35 : ∀ (x2_ : Int32) (H : Heap) (locs : List Loc) (ls : Array Slot), P_X8_kindAt_35 a_bytes a_length p1 post  x2_ → va_P D vwCl (List.flatten ([cTape a0 a1 C a_bytes a_length a_spot a_behind a_kind a_number])) H → va_D A (List.flatten ([cTape a0 a1 C a_bytes a_length a_spot a_behind a_kind a_number])) → va_S A s.heap H locs → lv_has ls 3 [(2, .int x2_)] → W p l e rmX8_kindAt s m args below meth c H locs 0 0 Q (F0 m 35 ls []) := by
    intro x2_ H locs ls h hP hD hS hl
    refine lv_iload_n hx hb dX8_kindAt_35 rfl (lv_at hl 0 rfl) ?_
    refine lv_bipush (v := 48) hx hb dX8_kindAt_36 (by decide) ?_
    refine lv_icmp_lt (tgt := 49) hx hb dX8_kindAt_38 (by decide) (fun c4 => ?_) (fun c4 => ?_)
    · have h := h.1 c4
      exact N49 x2_ _ _ _ h hP hD hS (lv_sub hl [0] rfl)
    · have h := h.2 c4
      refine lv_iload_n hx hb dX8_kindAt_41 rfl (lv_at hl 0 rfl) ?_
      refine lv_bipush (v := 57) hx hb dX8_kindAt_42 (by decide) ?_
      refine lv_icmp_gt (tgt := 49) hx hb dX8_kindAt_44 (by decide) (fun c5 => ?_) (fun c5 => ?_)
      · have h := h.1 c5
        exact N49 x2_ _ _ _ h hP hD hS (lv_sub hl [0] rfl)
      · have h := h.2 c5
        refine lv_iconst (v := 2) hx hb dX8_kindAt_47 (by decide) ?_
        rw [← hQ]
        exact cRetI (v := 2) () hx hb hr hlocks hS hP hD h dX8_kindAt_48
  refine lv_iload_n hx hb dX8_kindAt_0 rfl (lv_at hl 1 rfl) ?_
  refine lv_if_lt (tgt := 12) hx hb dX8_kindAt_1 (by decide) (fun c6 => ?_) (fun c6 => ?_)
  · have h := h.1 c6
    refine lv_iconst (v := 0) hx hb dX8_kindAt_12 (by decide) ?_
    rw [← hQ]
    exact cRetI (v := 0) () hx hb hr hlocks hS hP hD h dX8_kindAt_13
  · have h := h.2 c6
    refine lv_iload_n hx hb dX8_kindAt_4 rfl (lv_at hl 1 rfl) ?_
    refine lv_aload_n hx hb dX8_kindAt_5 rfl (lv_at hl 0 rfl) ?_
    refine va_get (D := D) (ci := 8) (v := .int a_length) (C := RX8) (T := TX8) (N := 6) hx hb hw inW_X8 hown hK hP 0 rfl rfl 1 (by decide) (hw _ mw_1_42) (fun _ h9 => h9) rfl dX8_kindAt_6 ?_
    refine lv_icmp_lt (tgt := 14) hx hb dX8_kindAt_9 (by decide) (fun c7 => ?_) (fun c7 => ?_)
    · have h := h.1 c7
      refine lv_aload_n hx hb dX8_kindAt_14 rfl (lv_at hl 0 rfl) ?_
      refine va_get (D := D) (ci := 8) (v := .ref a1) (C := RX8) (T := TX8) (N := 6) hx hb hw inW_X8 hown hK hP 0 rfl rfl 0 (by decide) (hw _ mw_1_41) (fun _ h9 => h9) rfl dX8_kindAt_15 ?_
      refine lv_iload_n hx hb dX8_kindAt_18 rfl (lv_at hl 1 rfl) ?_
      refine cBald hx hb hK hP 1 2 rfl rfl p1.toNatClampNeg rfl h.1 dX8_kindAt_19 ?_
      have h := h.2
      refine lv_topi (fun x8 ex8 => ?_)
      have h := h x8 ex8
      refine lv_istore_n (lv' := [(2, .int x8), (0, .ref a0), (1, .int p1)]) hx hb dX8_kindAt_20 rfl hl (by decide) rfl (fun ls hl => ?_)
      refine lv_iload_n hx hb dX8_kindAt_21 rfl (lv_at hl 0 rfl) ?_
      refine lv_bipush (v := 97) hx hb dX8_kindAt_22 (by decide) ?_
      refine lv_icmp_lt (tgt := 35) hx hb dX8_kindAt_24 (by decide) (fun c9 => ?_) (fun c9 => ?_)
      · have h := h.1 c9
        exact N35 x8 _ _ _ h hP hD hS (lv_sub hl [0] rfl)
      · have h := h.2 c9
        refine lv_iload_n hx hb dX8_kindAt_27 rfl (lv_at hl 0 rfl) ?_
        refine lv_bipush (v := 122) hx hb dX8_kindAt_28 (by decide) ?_
        refine lv_icmp_gt (tgt := 35) hx hb dX8_kindAt_30 (by decide) (fun c10 => ?_) (fun c10 => ?_)
        · have h := h.1 c10
          exact N35 x8 _ _ _ h hP hD hS (lv_sub hl [0] rfl)
        · have h := h.2 c10
          refine lv_iconst (v := 1) hx hb dX8_kindAt_33 (by decide) ?_
          rw [← hQ]
          exact cRetI (v := 1) () hx hb hr hlocks hS hP hD h dX8_kindAt_34
    · have h := h.2 c7
      refine lv_iconst (v := 0) hx hb dX8_kindAt_12 (by decide) ?_
      rw [← hQ]
      exact cRetI (v := 0) () hx hb hr hlocks hS hP hD h dX8_kindAt_13
abbrev vsX8_step : List Cond := Cond.code yX8_step cX8_step 2 none :: WS
abbrev rmX8_step : Room := { frames := 1, cells := 0, slots := 0, locals := 23 }
set_option maxHeartbeats 4000000 in
set_option maxRecDepth 100000 in
theorem k_X8_step (l : Launch) (D : va_G) (C : Nat → ClassId) (sz : Nat) (a0 : Nat) (a1 : Nat)  (a_bytes : Nat → Int32) (a_length : Int32) (a_spot : Int32) (a_behind : Int32) (a_kind : Int32) (a_number : Int32)  {post : (Int32) → (Int32) → (Int32) → (Int32) → Prop} (h : P_X8_step a_bytes a_length a_spot a_behind a_kind a_number post) : Met l yX8_step vsX8_step rmX8_step (cPre D C [.ref a0] sz ([cTape a0 a1 C a_bytes a_length a_spot a_behind a_kind a_number])) (cQv D (fun (u : (Int32) × (Int32) × (Int32) × (Int32)) => post u.1 u.2.1 u.2.2.1 u.2.2.2) (fun u => [cTape a0 a1 C a_bytes a_length u.1 u.2.1 u.2.2.1 u.2.2.2]) (va_A (List.flatten ([cTape a0 a1 C a_bytes a_length a_spot a_behind a_kind a_number])) sz)) 0 0 (va_A (List.flatten ([cTape a0 a1 C a_bytes a_length a_spot a_behind a_kind a_number])) sz) := by
  refine cStart (QA := fun A => cQv D (fun (u : (Int32) × (Int32) × (Int32) × (Int32)) => post u.1 u.2.1 u.2.2.1 u.2.2.2) (fun u => [cTape a0 a1 C a_bytes a_length u.1 u.2.1 u.2.2.1 u.2.2.2]) A) (cc := cX8_step) (maxL := 2) (ret := none) (by decide) (Nat.le_of_ble_eq_true rfl) ?_
  intro p e s m args below meth c A ls hx hb hr hml hown hw hlocks hname hK hN hA hP hD hS hl
  generalize hQ : MQ below _ args s 0 0 A = Q
  have hl : lv_has ls 2 [(0, .ref a0)] := hl
  obtain ⟨H, hH⟩ : ∃ H, H = s.heap := ⟨_, rfl⟩
  obtain ⟨locs, hlo⟩ : ∃ z : List Loc, z = [] := ⟨_, rfl⟩
  have hP : va_P D vwCl (List.flatten ([cTape a0 a1 C a_bytes a_length a_spot a_behind a_kind a_number])) H := by rw [hH]; exact hP
  have hS : va_S A s.heap H locs := by rw [hH, hlo]; exact hS
  rw [show W p l e rmX8_step s m args below meth c s.heap [] 0 0 Q (F0 m 0 ls []) = W p l e rmX8_step s m args below meth c H locs 0 0 Q (F0 m 0 ls []) from by rw [hH, hlo]]
  have N82 : ∀ (a_spot : Int32) (a_kind : Int32) (n82 : Nat) (x1_ : Int32) (a_behind : Int32) (a_number : Int32) (H : Heap) (locs : List Loc) (ls : Array Slot), P_X8_step_82 a_bytes a_length post  a_spot a_kind n82 x1_ a_behind a_number → va_P D vwCl (List.flatten ([cTape a0 a1 C a_bytes a_length a_spot a_behind a_kind a_number])) H → va_D A (List.flatten ([cTape a0 a1 C a_bytes a_length a_spot a_behind a_kind a_number])) → va_S A s.heap H locs → lv_has ls 2 [(0, .ref a0), (1, .int x1_)] → W p l e rmX8_step s m args below meth c H locs 0 0 Q (F0 m 82 ls []) := by
    intro a_spot a_kind
    intro n82
    induction n82 with
    | zero => intro x1_ a_behind a_number H locs ls h hP hD hS hl; exact False.elim h
    | succ n82 ih82 =>
      have N160 : ∀ (a_behind : Int32) (a_number : Int32) (H : Heap) (locs : List Loc) (ls : Array Slot), P_X8_step_160 a_bytes a_length a_spot a_kind post (P_X8_step_82 a_bytes a_length post  a_spot a_kind n82) a_behind a_number → va_P D vwCl (List.flatten ([cTape a0 a1 C a_bytes a_length a_spot a_behind a_kind a_number])) H → va_D A (List.flatten ([cTape a0 a1 C a_bytes a_length a_spot a_behind a_kind a_number])) → va_S A s.heap H locs → lv_has ls 2 [(0, .ref a0)] → W p l e rmX8_step s m args below meth c H locs 0 0 Q (F0 m 160 ls []) := by
        intro a_behind a_number H locs ls h hP hD hS hl
        refine lv_aload_n hx hb dX8_step_160 rfl (lv_at hl 0 rfl) ?_
        refine lv_aload_n hx hb dX8_step_161 rfl (lv_at hl 0 rfl) ?_
        refine va_get (D := D) (ci := 8) (v := .int a_behind) (C := RX8) (T := TX8) (N := 6) hx hb hw inW_X8 hown hK hP 0 rfl rfl 3 (by decide) (hw _ mw_1_46) (fun _ h9 => h9) rfl dX8_step_162 ?_
        refine cGoAI (cRunAV (As := [.int a_behind]) (rest := []) ⟨hx, hb, hml, hown, hw⟩ hK hN hP hD (k_X8_kindAt l D C _ a0 a1  a_bytes a_length a_spot a_behind a_kind a_number a_behind h) (cwV 1 hw (goodV mw_2_200 mw_2_202 mw_s5 mw_1_3 mw_2_203) rfl rfl rfl (by decide +kernel) ⟨Nat.le_of_ble_eq_true rfl, Nat.le_of_ble_eq_true rfl⟩) rfl rfl rfl hl.1 rfl (Nat.le_of_ble_eq_true rfl) dX8_step_165 ⟨Nat.zero_le _, Nat.zero_le _⟩) hP hD hS hA (fun r1 u H locs h hP hD hS => ?_)
        have hP : va_P D vwCl (List.flatten ([cTape a0 a1 C a_bytes a_length a_spot a_behind a_kind a_number])) H := hP
        have hD : va_D A (List.flatten ([cTape a0 a1 C a_bytes a_length a_spot a_behind a_kind a_number])) := hD
        refine lv_aload_n hx hb dX8_step_168 rfl (lv_at hl 0 rfl) ?_
        refine va_get (D := D) (ci := 8) (v := .int a_kind) (C := RX8) (T := TX8) (N := 6) hx hb hw inW_X8 hown hK hP 0 rfl rfl 4 (by decide) (hw _ mw_1_48) (fun _ h9 => h9) rfl dX8_step_169 ?_
        refine lv_icmp_ne (tgt := 179) hx hb dX8_step_172 (by decide) (fun c2 => ?_) (fun c2 => ?_)
        · have h := h.1 c2
          refine lv_iconst (v := 0) hx hb dX8_step_179 (by decide) ?_
          refine lv_istore_n (lv' := [(1, .int 0), (0, .ref a0)]) hx hb dX8_step_180 rfl hl (by decide) rfl (fun ls hl => ?_)
          refine lv_goto (tgt := 82) hx hb dX8_step_181 (by decide) ?_
          exact ih82 0 a_behind a_number _ _ _ h hP hD hS (lv_sub hl [1, 0] rfl)
        · have h := h.2 c2
          refine lv_iconst (v := 1) hx hb dX8_step_175 (by decide) ?_
          refine lv_goto (tgt := 180) hx hb dX8_step_176 (by decide) ?_
          refine lv_istore_n (lv' := [(1, .int 1), (0, .ref a0)]) hx hb dX8_step_180 rfl hl (by decide) rfl (fun ls hl => ?_)
          refine lv_goto (tgt := 82) hx hb dX8_step_181 (by decide) ?_
          exact ih82 1 a_behind a_number _ _ _ h hP hD hS (lv_sub hl [1, 0] rfl)
      have N134 : ∀ (a_behind : Int32) (a_number : Int32) (H : Heap) (locs : List Loc) (ls : Array Slot), P_X8_step_134 a_bytes a_length a_spot a_kind post (P_X8_step_82 a_bytes a_length post  a_spot a_kind n82) a_behind a_number → va_P D vwCl (List.flatten ([cTape a0 a1 C a_bytes a_length a_spot a_behind a_kind a_number])) H → va_D A (List.flatten ([cTape a0 a1 C a_bytes a_length a_spot a_behind a_kind a_number])) → va_S A s.heap H locs → lv_has ls 2 [(0, .ref a0)] → W p l e rmX8_step s m args below meth c H locs 0 0 Q (F0 m 134 ls []) := by
        intro a_behind a_number H locs ls h hP hD hS hl
        refine lv_aload_n hx hb dX8_step_134 rfl (lv_at hl 0 rfl) ?_
        refine lv_dup hx hb dX8_step_135 rfl ?_
        refine va_get (D := D) (ci := 8) (v := .int a_behind) (C := RX8) (T := TX8) (N := 6) hx hb hw inW_X8 hown hK hP 0 rfl rfl 3 (by decide) (hw _ mw_1_46) (fun _ h9 => h9) rfl dX8_step_136 ?_
        refine lv_iconst (v := 1) hx hb dX8_step_139 (by decide) ?_
        refine lv_iadd hx hb dX8_step_140 ?_
        refine lv_topi (fun x3 ex3 => ?_)
        have h := h x3 ex3
        refine va_put (D := D) (ci := 8) (v := .int x3) (ty := .int) (C := RX8) (T := TX8) (N := 6) hx hb hw inW_X8 tyX8 tyX8_ok nmX8 hown hK hP hD hS 0 rfl rfl 3 (by decide) (hw _ mw_1_46) (fun _ h9 => h9) rfl (by decide +kernel) rfl rfl (Nat.le_of_ble_eq_true rfl) dX8_step_141 (fun H locs hP hD hS => ?_)
        refine lv_aload_n hx hb dX8_step_144 rfl (lv_at hl 0 rfl) ?_
        refine va_get (D := D) (ci := 8) (v := .int a_kind) (C := RX8) (T := TX8) (N := 6) hx hb hw inW_X8 hown hK hP 0 rfl rfl 4 (by decide) (hw _ mw_1_48) (fun _ h9 => h9) rfl dX8_step_145 ?_
        refine lv_iconst (v := 1) hx hb dX8_step_148 (by decide) ?_
        refine lv_icmp_eq (tgt := 160) hx hb dX8_step_149 (by decide) (fun c4 => ?_) (fun c4 => ?_)
        · have h := h.1 c4
          have hP : va_P D vwCl (List.flatten ([cTape a0 a1 C a_bytes a_length a_spot x3 a_kind a_number])) H := hP
          have hD : va_D A (List.flatten ([cTape a0 a1 C a_bytes a_length a_spot x3 a_kind a_number])) := hD
          exact N160 x3 a_number _ _ _ h hP hD hS (lv_sub hl [0] rfl)
        · have h := h.2 c4
          refine lv_aload_n hx hb dX8_step_152 rfl (lv_at hl 0 rfl) ?_
          refine va_get (D := D) (ci := 8) (v := .int a_kind) (C := RX8) (T := TX8) (N := 6) hx hb hw inW_X8 hown hK hP 0 rfl rfl 4 (by decide) (hw _ mw_1_48) (fun _ h9 => h9) rfl dX8_step_153 ?_
          refine lv_iconst (v := 2) hx hb dX8_step_156 (by decide) ?_
          refine lv_icmp_ne (tgt := 179) hx hb dX8_step_157 (by decide) (fun c5 => ?_) (fun c5 => ?_)
          · have h := h.1 c5
            refine lv_iconst (v := 0) hx hb dX8_step_179 (by decide) ?_
            refine lv_istore_n (lv' := [(1, .int 0), (0, .ref a0)]) hx hb dX8_step_180 rfl hl (by decide) rfl (fun ls hl => ?_)
            refine lv_goto (tgt := 82) hx hb dX8_step_181 (by decide) ?_
            have hP : va_P D vwCl (List.flatten ([cTape a0 a1 C a_bytes a_length a_spot x3 a_kind a_number])) H := hP
            have hD : va_D A (List.flatten ([cTape a0 a1 C a_bytes a_length a_spot x3 a_kind a_number])) := hD
            exact ih82 0 x3 a_number _ _ _ h hP hD hS (lv_sub hl [1, 0] rfl)
          · have h := h.2 c5
            have hP : va_P D vwCl (List.flatten ([cTape a0 a1 C a_bytes a_length a_spot x3 a_kind a_number])) H := hP
            have hD : va_D A (List.flatten ([cTape a0 a1 C a_bytes a_length a_spot x3 a_kind a_number])) := hD
            exact N160 x3 a_number _ _ _ h hP hD hS (lv_sub hl [0] rfl)
      intro x1_ a_behind a_number H locs ls h hP hD hS hl
      refine lv_iload_n hx hb dX8_step_82 rfl (lv_at hl 1 rfl) ?_
      refine lv_if_eq (tgt := 184) hx hb dX8_step_83 (by decide) (fun c6 => ?_) (fun c6 => ?_)
      · have h := h.1 c6
        rw [← hQ]
        exact cRetV (a_spot, a_behind, a_kind, a_number) hx hb hr hlocks hS hP hD h dX8_step_184
      · have h := h.2 c6
        refine lv_aload_n hx hb dX8_step_86 rfl (lv_at hl 0 rfl) ?_
        refine va_get (D := D) (ci := 8) (v := .int a_behind) (C := RX8) (T := TX8) (N := 6) hx hb hw inW_X8 hown hK hP 0 rfl rfl 3 (by decide) (hw _ mw_1_46) (fun _ h9 => h9) rfl dX8_step_87 ?_
        refine lv_aload_n hx hb dX8_step_90 rfl (lv_at hl 0 rfl) ?_
        refine va_get (D := D) (ci := 8) (v := .int a_length) (C := RX8) (T := TX8) (N := 6) hx hb hw inW_X8 hown hK hP 0 rfl rfl 1 (by decide) (hw _ mw_1_42) (fun _ h9 => h9) rfl dX8_step_91 ?_
        refine lv_icmp_ge (tgt := 184) hx hb dX8_step_94 (by decide) (fun c7 => ?_) (fun c7 => ?_)
        · have h := h.1 c7
          rw [← hQ]
          exact cRetV (a_spot, a_behind, a_kind, a_number) hx hb hr hlocks hS hP hD h dX8_step_184
        · have h := h.2 c7
          refine lv_aload_n hx hb dX8_step_97 rfl (lv_at hl 0 rfl) ?_
          refine va_get (D := D) (ci := 8) (v := .int a_kind) (C := RX8) (T := TX8) (N := 6) hx hb hw inW_X8 hown hK hP 0 rfl rfl 4 (by decide) (hw _ mw_1_48) (fun _ h9 => h9) rfl dX8_step_98 ?_
          refine lv_iconst (v := 2) hx hb dX8_step_101 (by decide) ?_
          refine lv_icmp_ne (tgt := 134) hx hb dX8_step_102 (by decide) (fun c8 => ?_) (fun c8 => ?_)
          · have h := h.1 c8
            exact N134 a_behind a_number _ _ _ h hP hD hS (lv_sub hl [0] rfl)
          · have h := h.2 c8
            refine lv_aload_n hx hb dX8_step_105 rfl (lv_at hl 0 rfl) ?_
            refine lv_ldc (v := 1000000) hx hb hown (hw _ mw_2_204) dX8_step_106 ?_
            refine lv_bipush (v := 10) hx hb dX8_step_108 (by decide) ?_
            refine lv_aload_n hx hb dX8_step_110 rfl (lv_at hl 0 rfl) ?_
            refine va_get (D := D) (ci := 8) (v := .int a_number) (C := RX8) (T := TX8) (N := 6) hx hb hw inW_X8 hown hK hP 0 rfl rfl 5 (by decide) (hw _ mw_1_49) (fun _ h9 => h9) rfl dX8_step_111 ?_
            refine lv_imul hx hb dX8_step_114 ?_
            refine lv_aload_n hx hb dX8_step_115 rfl (lv_at hl 0 rfl) ?_
            refine va_get (D := D) (ci := 8) (v := .ref a1) (C := RX8) (T := TX8) (N := 6) hx hb hw inW_X8 hown hK hP 0 rfl rfl 0 (by decide) (hw _ mw_1_41) (fun _ h9 => h9) rfl dX8_step_116 ?_
            refine lv_aload_n hx hb dX8_step_119 rfl (lv_at hl 0 rfl) ?_
            refine va_get (D := D) (ci := 8) (v := .int a_behind) (C := RX8) (T := TX8) (N := 6) hx hb hw inW_X8 hown hK hP 0 rfl rfl 3 (by decide) (hw _ mw_1_46) (fun _ h9 => h9) rfl dX8_step_120 ?_
            refine cBald hx hb hK hP 1 2 rfl rfl a_behind.toNatClampNeg rfl h.1 dX8_step_123 ?_
            have h := h.2
            refine lv_iadd hx hb dX8_step_124 ?_
            refine lv_bipush (v := 48) hx hb dX8_step_125 (by decide) ?_
            refine lv_isub hx hb dX8_step_127 ?_
            refine va_mmin hx hb (hml.trans hl.1.symm) hown (hw _ mw_2_205) (hw _ mw_2_206) (hw _ mw_1_14) (hw _ mw_2_207) (Nat.le_of_ble_eq_true rfl) (Nat.le_of_ble_eq_true rfl) (Nat.zero_le _) (Nat.zero_le _) dX8_step_128 ?_
            refine lv_topi (fun x9 ex9 => ?_)
            have h := h x9 ex9
            refine va_put (D := D) (ci := 8) (v := .int x9) (ty := .int) (C := RX8) (T := TX8) (N := 6) hx hb hw inW_X8 tyX8 tyX8_ok nmX8 hown hK hP hD hS 0 rfl rfl 5 (by decide) (hw _ mw_1_49) (fun _ h9 => h9) rfl (by decide +kernel) rfl rfl (Nat.le_of_ble_eq_true rfl) dX8_step_131 (fun H locs hP hD hS => ?_)
            have hP : va_P D vwCl (List.flatten ([cTape a0 a1 C a_bytes a_length a_spot a_behind a_kind x9])) H := hP
            have hD : va_D A (List.flatten ([cTape a0 a1 C a_bytes a_length a_spot a_behind a_kind x9])) := hD
            exact N134 a_behind x9 _ _ _ h hP hD hS (lv_sub hl [0] rfl)
  have N44 : ∀ (a_spot : Int32) (a_behind : Int32) (a_kind : Int32) (a_number : Int32) (H : Heap) (locs : List Loc) (ls : Array Slot), P_X8_step_44 a_bytes a_length post  a_spot a_behind a_kind a_number → va_P D vwCl (List.flatten ([cTape a0 a1 C a_bytes a_length a_spot a_behind a_kind a_number])) H → va_D A (List.flatten ([cTape a0 a1 C a_bytes a_length a_spot a_behind a_kind a_number])) → va_S A s.heap H locs → lv_has ls 2 [(0, .ref a0)] → W p l e rmX8_step s m args below meth c H locs 0 0 Q (F0 m 44 ls []) := by
    intro a_spot a_behind a_kind a_number H locs ls h hP hD hS hl
    refine lv_aload_n hx hb dX8_step_44 rfl (lv_at hl 0 rfl) ?_
    refine lv_aload_n hx hb dX8_step_45 rfl (lv_at hl 0 rfl) ?_
    refine lv_aload_n hx hb dX8_step_46 rfl (lv_at hl 0 rfl) ?_
    refine va_get (D := D) (ci := 8) (v := .int a_spot) (C := RX8) (T := TX8) (N := 6) hx hb hw inW_X8 hown hK hP 0 rfl rfl 2 (by decide) (hw _ mw_1_44) (fun _ h9 => h9) rfl dX8_step_47 ?_
    refine cGoAI (cRunAV (As := [.int a_spot]) (rest := [.ref a0]) ⟨hx, hb, hml, hown, hw⟩ hK hN hP hD (k_X8_kindAt l D C _ a0 a1  a_bytes a_length a_spot a_behind a_kind a_number a_spot h) (cwV 1 hw (goodV mw_2_200 mw_2_202 mw_s5 mw_1_3 mw_2_203) rfl rfl rfl (by decide +kernel) ⟨Nat.le_of_ble_eq_true rfl, Nat.le_of_ble_eq_true rfl⟩) rfl rfl rfl hl.1 rfl (Nat.le_of_ble_eq_true rfl) dX8_step_50 ⟨Nat.zero_le _, Nat.zero_le _⟩) hP hD hS hA (fun r10 u H locs h hP hD hS => ?_)
    have hP : va_P D vwCl (List.flatten ([cTape a0 a1 C a_bytes a_length a_spot a_behind a_kind a_number])) H := hP
    have hD : va_D A (List.flatten ([cTape a0 a1 C a_bytes a_length a_spot a_behind a_kind a_number])) := hD
    refine va_put (D := D) (ci := 8) (v := .int r10) (ty := .int) (C := RX8) (T := TX8) (N := 6) hx hb hw inW_X8 tyX8 tyX8_ok nmX8 hown hK hP hD hS 0 rfl rfl 4 (by decide) (hw _ mw_1_48) (fun _ h9 => h9) rfl (by decide +kernel) rfl rfl (Nat.le_of_ble_eq_true rfl) dX8_step_53 (fun H locs hP hD hS => ?_)
    refine lv_aload_n hx hb dX8_step_56 rfl (lv_at hl 0 rfl) ?_
    refine lv_iconst (v := 0) hx hb dX8_step_57 (by decide) ?_
    refine va_put (D := D) (ci := 8) (v := .int 0) (ty := .int) (C := RX8) (T := TX8) (N := 6) hx hb hw inW_X8 tyX8 tyX8_ok nmX8 hown hK hP hD hS 0 rfl rfl 5 (by decide) (hw _ mw_1_49) (fun _ h9 => h9) rfl (by decide +kernel) rfl rfl (Nat.le_of_ble_eq_true rfl) dX8_step_58 (fun H locs hP hD hS => ?_)
    refine lv_aload_n hx hb dX8_step_61 rfl (lv_at hl 0 rfl) ?_
    refine lv_aload_n hx hb dX8_step_62 rfl (lv_at hl 0 rfl) ?_
    refine va_get (D := D) (ci := 8) (v := .int a_spot) (C := RX8) (T := TX8) (N := 6) hx hb hw inW_X8 hown hK hP 0 rfl rfl 2 (by decide) (hw _ mw_1_44) (fun _ h9 => h9) rfl dX8_step_63 ?_
    refine va_put (D := D) (ci := 8) (v := .int a_spot) (ty := .int) (C := RX8) (T := TX8) (N := 6) hx hb hw inW_X8 tyX8 tyX8_ok nmX8 hown hK hP hD hS 0 rfl rfl 3 (by decide) (hw _ mw_1_46) (fun _ h9 => h9) rfl (by decide +kernel) rfl rfl (Nat.le_of_ble_eq_true rfl) dX8_step_66 (fun H locs hP hD hS => ?_)
    refine lv_aload_n hx hb dX8_step_69 rfl (lv_at hl 0 rfl) ?_
    refine va_get (D := D) (ci := 8) (v := .int r10) (C := RX8) (T := TX8) (N := 6) hx hb hw inW_X8 hown hK hP 0 rfl rfl 4 (by decide) (hw _ mw_1_48) (fun _ h9 => h9) rfl dX8_step_70 ?_
    refine lv_if_eq (tgt := 80) hx hb dX8_step_73 (by decide) (fun c11 => ?_) (fun c11 => ?_)
    · have h := h.1 c11
      refine lv_iconst (v := 0) hx hb dX8_step_80 (by decide) ?_
      refine lv_istore_n (lv' := [(1, .int 0), (0, .ref a0)]) hx hb dX8_step_81 rfl hl (by decide) rfl (fun ls hl => ?_)
      have hP : va_P D vwCl (List.flatten ([cTape a0 a1 C a_bytes a_length a_spot a_spot r10 0])) H := hP
      have hD : va_D A (List.flatten ([cTape a0 a1 C a_bytes a_length a_spot a_spot r10 0])) := hD
      obtain ⟨n, h⟩ := h
      exact N82 a_spot r10 n 0 a_spot 0 _ _ _ h hP hD hS (lv_sub hl [1, 0] rfl)
    · have h := h.2 c11
      refine lv_iconst (v := 1) hx hb dX8_step_76 (by decide) ?_
      refine lv_goto (tgt := 81) hx hb dX8_step_77 (by decide) ?_
      refine lv_istore_n (lv' := [(1, .int 1), (0, .ref a0)]) hx hb dX8_step_81 rfl hl (by decide) rfl (fun ls hl => ?_)
      have hP : va_P D vwCl (List.flatten ([cTape a0 a1 C a_bytes a_length a_spot a_spot r10 0])) H := hP
      have hD : va_D A (List.flatten ([cTape a0 a1 C a_bytes a_length a_spot a_spot r10 0])) := hD
      obtain ⟨n, h⟩ := h
      exact N82 a_spot r10 n 1 a_spot 0 _ _ _ h hP hD hS (lv_sub hl [1, 0] rfl)
  have N8 : ∀ (a_behind : Int32) (a_kind : Int32) (a_number : Int32) (n8 : Nat) (a_spot : Int32) (H : Heap) (locs : List Loc) (ls : Array Slot), P_X8_step_8 a_bytes a_length post (fun (a_spot : Int32) (a_behind : Int32) (a_kind : Int32) (a_number : Int32) => P_X8_step_44 a_bytes a_length post  a_spot a_behind a_kind a_number) a_behind a_kind a_number n8 a_spot → va_P D vwCl (List.flatten ([cTape a0 a1 C a_bytes a_length a_spot a_behind a_kind a_number])) H → va_D A (List.flatten ([cTape a0 a1 C a_bytes a_length a_spot a_behind a_kind a_number])) → va_S A s.heap H locs → lv_has ls 2 [(0, .ref a0)] → W p l e rmX8_step s m args below meth c H locs 0 0 Q (F0 m 8 ls []) := by
    intro a_behind a_kind a_number
    intro n8
    induction n8 with
    | zero => intro a_spot H locs ls h hP hD hS hl; exact False.elim h
    | succ n8 ih8 =>
      intro a_spot H locs ls h hP hD hS hl
      refine lv_aload_n hx hb dX8_step_8 rfl (lv_at hl 0 rfl) ?_
      refine va_get (D := D) (ci := 8) (v := .int a_spot) (C := RX8) (T := TX8) (N := 6) hx hb hw inW_X8 hown hK hP 0 rfl rfl 2 (by decide) (hw _ mw_1_44) (fun _ h9 => h9) rfl dX8_step_9 ?_
      refine lv_aload_n hx hb dX8_step_12 rfl (lv_at hl 0 rfl) ?_
      refine va_get (D := D) (ci := 8) (v := .int a_length) (C := RX8) (T := TX8) (N := 6) hx hb hw inW_X8 hown hK hP 0 rfl rfl 1 (by decide) (hw _ mw_1_42) (fun _ h9 => h9) rfl dX8_step_13 ?_
      refine lv_icmp_ge (tgt := 44) hx hb dX8_step_16 (by decide) (fun c12 => ?_) (fun c12 => ?_)
      · have h := h.1 c12
        exact N44 a_spot a_behind a_kind a_number _ _ _ h hP hD hS (lv_sub hl [0] rfl)
      · have h := h.2 c12
        refine lv_aload_n hx hb dX8_step_19 rfl (lv_at hl 0 rfl) ?_
        refine lv_aload_n hx hb dX8_step_20 rfl (lv_at hl 0 rfl) ?_
        refine va_get (D := D) (ci := 8) (v := .int a_spot) (C := RX8) (T := TX8) (N := 6) hx hb hw inW_X8 hown hK hP 0 rfl rfl 2 (by decide) (hw _ mw_1_44) (fun _ h9 => h9) rfl dX8_step_21 ?_
        refine cGoAI (cRunAV (As := [.int a_spot]) (rest := []) ⟨hx, hb, hml, hown, hw⟩ hK hN hP hD (k_X8_kindAt l D C _ a0 a1  a_bytes a_length a_spot a_behind a_kind a_number a_spot h) (cwV 1 hw (goodV mw_2_200 mw_2_202 mw_s5 mw_1_3 mw_2_203) rfl rfl rfl (by decide +kernel) ⟨Nat.le_of_ble_eq_true rfl, Nat.le_of_ble_eq_true rfl⟩) rfl rfl rfl hl.1 rfl (Nat.le_of_ble_eq_true rfl) dX8_step_24 ⟨Nat.zero_le _, Nat.zero_le _⟩) hP hD hS hA (fun r13 u H locs h hP hD hS => ?_)
        have hP : va_P D vwCl (List.flatten ([cTape a0 a1 C a_bytes a_length a_spot a_behind a_kind a_number])) H := hP
        have hD : va_D A (List.flatten ([cTape a0 a1 C a_bytes a_length a_spot a_behind a_kind a_number])) := hD
        refine lv_iconst (v := 4) hx hb dX8_step_27 (by decide) ?_
        refine lv_icmp_ne (tgt := 44) hx hb dX8_step_28 (by decide) (fun c14 => ?_) (fun c14 => ?_)
        · have h := h.1 c14
          exact N44 a_spot a_behind a_kind a_number _ _ _ h hP hD hS (lv_sub hl [0] rfl)
        · have h := h.2 c14
          refine lv_aload_n hx hb dX8_step_31 rfl (lv_at hl 0 rfl) ?_
          refine lv_dup hx hb dX8_step_32 rfl ?_
          refine va_get (D := D) (ci := 8) (v := .int a_spot) (C := RX8) (T := TX8) (N := 6) hx hb hw inW_X8 hown hK hP 0 rfl rfl 2 (by decide) (hw _ mw_1_44) (fun _ h9 => h9) rfl dX8_step_33 ?_
          refine lv_iconst (v := 1) hx hb dX8_step_36 (by decide) ?_
          refine lv_iadd hx hb dX8_step_37 ?_
          refine lv_topi (fun x15 ex15 => ?_)
          have h := h x15 ex15
          refine va_put (D := D) (ci := 8) (v := .int x15) (ty := .int) (C := RX8) (T := TX8) (N := 6) hx hb hw inW_X8 tyX8 tyX8_ok nmX8 hown hK hP hD hS 0 rfl rfl 2 (by decide) (hw _ mw_1_44) (fun _ h9 => h9) rfl (by decide +kernel) rfl rfl (Nat.le_of_ble_eq_true rfl) dX8_step_38 (fun H locs hP hD hS => ?_)
          refine lv_goto (tgt := 8) hx hb dX8_step_41 (by decide) ?_
          have hP : va_P D vwCl (List.flatten ([cTape a0 a1 C a_bytes a_length x15 a_behind a_kind a_number])) H := hP
          have hD : va_D A (List.flatten ([cTape a0 a1 C a_bytes a_length x15 a_behind a_kind a_number])) := hD
          exact ih8 x15 _ _ _ h hP hD hS (lv_sub hl [0] rfl)
  refine lv_aload_n hx hb dX8_step_0 rfl (lv_at hl 0 rfl) ?_
  refine lv_aload_n hx hb dX8_step_1 rfl (lv_at hl 0 rfl) ?_
  refine va_get (D := D) (ci := 8) (v := .int a_behind) (C := RX8) (T := TX8) (N := 6) hx hb hw inW_X8 hown hK hP 0 rfl rfl 3 (by decide) (hw _ mw_1_46) (fun _ h9 => h9) rfl dX8_step_2 ?_
  refine va_put (D := D) (ci := 8) (v := .int a_behind) (ty := .int) (C := RX8) (T := TX8) (N := 6) hx hb hw inW_X8 tyX8 tyX8_ok nmX8 hown hK hP hD hS 0 rfl rfl 2 (by decide) (hw _ mw_1_44) (fun _ h9 => h9) rfl (by decide +kernel) rfl rfl (Nat.le_of_ble_eq_true rfl) dX8_step_5 (fun H locs hP hD hS => ?_)
  have hP : va_P D vwCl (List.flatten ([cTape a0 a1 C a_bytes a_length a_behind a_behind a_kind a_number])) H := hP
  have hD : va_D A (List.flatten ([cTape a0 a1 C a_bytes a_length a_behind a_behind a_kind a_number])) := hD
  obtain ⟨n, h⟩ := h
  exact N8 a_behind a_kind a_number n a_behind _ _ _ h hP hD hS (lv_sub hl [0] rfl)
abbrev vsX8_rewind : List Cond := Cond.code yX8_rewind cX8_rewind 1 none :: WS
abbrev rmX8_rewind : Room := { frames := 2, cells := 0, slots := 0, locals := 44 }
set_option maxHeartbeats 4000000 in
set_option maxRecDepth 100000 in
theorem k_X8_rewind (l : Launch) (D : va_G) (C : Nat → ClassId) (sz : Nat) (a0 : Nat) (a1 : Nat)  (a_bytes : Nat → Int32) (a_length : Int32) (a_spot : Int32) (a_behind : Int32) (a_kind : Int32) (a_number : Int32)  {post : (Int32) → (Int32) → (Int32) → (Int32) → Prop} (h : P_X8_rewind a_bytes a_length a_spot a_behind a_kind a_number post) : Met l yX8_rewind vsX8_rewind rmX8_rewind (cPre D C [.ref a0] sz ([cTape a0 a1 C a_bytes a_length a_spot a_behind a_kind a_number])) (cQv D (fun (u : (Int32) × (Int32) × (Int32) × (Int32)) => post u.1 u.2.1 u.2.2.1 u.2.2.2) (fun u => [cTape a0 a1 C a_bytes a_length u.1 u.2.1 u.2.2.1 u.2.2.2]) (va_A (List.flatten ([cTape a0 a1 C a_bytes a_length a_spot a_behind a_kind a_number])) sz)) 0 0 (va_A (List.flatten ([cTape a0 a1 C a_bytes a_length a_spot a_behind a_kind a_number])) sz) := by
  refine cStart (QA := fun A => cQv D (fun (u : (Int32) × (Int32) × (Int32) × (Int32)) => post u.1 u.2.1 u.2.2.1 u.2.2.2) (fun u => [cTape a0 a1 C a_bytes a_length u.1 u.2.1 u.2.2.1 u.2.2.2]) A) (cc := cX8_rewind) (maxL := 1) (ret := none) (by decide) (Nat.le_of_ble_eq_true rfl) ?_
  intro p e s m args below meth c A ls hx hb hr hml hown hw hlocks hname hK hN hA hP hD hS hl
  generalize hQ : MQ below _ args s 0 0 A = Q
  have hl : lv_has ls 1 [(0, .ref a0)] := hl
  obtain ⟨H, hH⟩ : ∃ H, H = s.heap := ⟨_, rfl⟩
  obtain ⟨locs, hlo⟩ : ∃ z : List Loc, z = [] := ⟨_, rfl⟩
  have hP : va_P D vwCl (List.flatten ([cTape a0 a1 C a_bytes a_length a_spot a_behind a_kind a_number])) H := by rw [hH]; exact hP
  have hS : va_S A s.heap H locs := by rw [hH, hlo]; exact hS
  rw [show W p l e rmX8_rewind s m args below meth c s.heap [] 0 0 Q (F0 m 0 ls []) = W p l e rmX8_rewind s m args below meth c H locs 0 0 Q (F0 m 0 ls []) from by rw [hH, hlo]]
  refine lv_aload_n hx hb dX8_rewind_0 rfl (lv_at hl 0 rfl) ?_
  refine lv_iconst (v := 0) hx hb dX8_rewind_1 (by decide) ?_
  refine va_put (D := D) (ci := 8) (v := .int 0) (ty := .int) (C := RX8) (T := TX8) (N := 6) hx hb hw inW_X8 tyX8 tyX8_ok nmX8 hown hK hP hD hS 0 rfl rfl 3 (by decide) (hw _ mw_1_46) (fun _ h9 => h9) rfl (by decide +kernel) rfl rfl (Nat.le_of_ble_eq_true rfl) dX8_rewind_2 (fun H locs hP hD hS => ?_)
  refine lv_aload_n hx hb dX8_rewind_5 rfl (lv_at hl 0 rfl) ?_
  have hP : va_P D vwCl (List.flatten ([cTape a0 a1 C a_bytes a_length a_spot 0 a_kind a_number])) H := hP
  have hD : va_D A (List.flatten ([cTape a0 a1 C a_bytes a_length a_spot 0 a_kind a_number])) := hD
  refine cGoAV (cRunAV (As := []) (rest := []) ⟨hx, hb, hml, hown, hw⟩ hK hN hP hD (k_X8_step l D C _ a0 a1  a_bytes a_length a_spot 0 a_kind a_number  h) (cwV 0 hw (goodV mw_2_196 mw_2_198 mw_s4 mw_1_3 mw_2_199) rfl rfl rfl (by decide +kernel) ⟨Nat.le_of_ble_eq_true rfl, Nat.le_of_ble_eq_true rfl⟩) rfl rfl rfl hl.1 rfl (Nat.le_of_ble_eq_true rfl) dX8_rewind_6 ⟨Nat.zero_le _, Nat.zero_le _⟩) hP hD hS hA (fun u H locs h hP hD hS => ?_)
  obtain ⟨spo_1, beh_2, kin_3, num_4⟩ := u
  have hP : va_P D vwCl (List.flatten ([cTape a0 a1 C a_bytes a_length spo_1 beh_2 kin_3 num_4])) H := hP
  have hD : va_D A (List.flatten ([cTape a0 a1 C a_bytes a_length spo_1 beh_2 kin_3 num_4])) := hD
  rw [← hQ]
  exact cRetV (spo_1, beh_2, kin_3, num_4) hx hb hr hlocks hS hP hD h dX8_rewind_9
abbrev vsX1_add : List Cond := Cond.code yX1_add cX1_add 3 none :: WS
abbrev rmX1_add : Room := { frames := 0, cells := 0, slots := 0, locals := 0 }
set_option maxHeartbeats 4000000 in
set_option maxRecDepth 100000 in
theorem k_X1_add (l : Launch) (D : va_G) (C : Nat → ClassId) (sz : Nat) (a0 : Nat) (a1 : Nat) (a2 : Nat)  (a_count : Int32) (a_place : Nat → Int32) (a_bright : Nat → Int32) (p1 : Int32) (p2 : Int32) {post : (Int32) → (Nat → Int32) → (Nat → Int32) → Prop} (h : P_X1_add a_count a_place a_bright p1 p2 post) : Met l yX1_add vsX1_add rmX1_add (cPre D C [.ref a0, .int p1, .int p2] sz ([cLamps a0 a1 a2 C a_count a_place a_bright])) (cQv D (fun (u : (Int32) × (Nat → Int32) × (Nat → Int32)) => post u.1 u.2.1 u.2.2) (fun u => [cLamps a0 a1 a2 C u.1 u.2.1 u.2.2]) (va_A (List.flatten ([cLamps a0 a1 a2 C a_count a_place a_bright])) sz)) 0 0 (va_A (List.flatten ([cLamps a0 a1 a2 C a_count a_place a_bright])) sz) := by
  refine cStart (QA := fun A => cQv D (fun (u : (Int32) × (Nat → Int32) × (Nat → Int32)) => post u.1 u.2.1 u.2.2) (fun u => [cLamps a0 a1 a2 C u.1 u.2.1 u.2.2]) A) (cc := cX1_add) (maxL := 3) (ret := none) (by decide) (Nat.le_of_ble_eq_true rfl) ?_
  intro p e s m args below meth c A ls hx hb hr hml hown hw hlocks hname hK hN hA hP hD hS hl
  generalize hQ : MQ below _ args s 0 0 A = Q
  have hl : lv_has ls 3 [(0, .ref a0), (1, .int p1), (2, .int p2)] := hl
  obtain ⟨H, hH⟩ : ∃ H, H = s.heap := ⟨_, rfl⟩
  obtain ⟨locs, hlo⟩ : ∃ z : List Loc, z = [] := ⟨_, rfl⟩
  have hP : va_P D vwCl (List.flatten ([cLamps a0 a1 a2 C a_count a_place a_bright])) H := by rw [hH]; exact hP
  have hS : va_S A s.heap H locs := by rw [hH, hlo]; exact hS
  rw [show W p l e rmX1_add s m args below meth c s.heap [] 0 0 Q (F0 m 0 ls []) = W p l e rmX1_add s m args below meth c H locs 0 0 Q (F0 m 0 ls []) from by rw [hH, hlo]]
  refine lv_aload_n hx hb dX1_add_0 rfl (lv_at hl 0 rfl) ?_
  refine va_get (D := D) (ci := 1) (v := .int a_count) (C := RX1) (T := TX1) (N := 3) hx hb hw inW_X1 hown hK hP 0 rfl rfl 0 (by decide) (hw _ mw_1_90) (fun _ h9 => h9) rfl dX1_add_1 ?_
  refine lv_iconst (v := 4) hx hb dX1_add_4 (by decide) ?_
  refine lv_icmp_gt (tgt := 38) hx hb dX1_add_5 (by decide) (fun c1 => ?_) (fun c1 => ?_)
  · have h := h.1 c1
    rw [← hQ]
    exact cRetV (a_count, a_place, a_bright) hx hb hr hlocks hS hP hD h dX1_add_38
  · have h := h.2 c1
    refine lv_aload_n hx hb dX1_add_8 rfl (lv_at hl 0 rfl) ?_
    refine va_get (D := D) (ci := 1) (v := .ref a1) (C := RX1) (T := TX1) (N := 3) hx hb hw inW_X1 hown hK hP 0 rfl rfl 1 (by decide) (hw _ mw_1_94) (fun _ h9 => h9) rfl dX1_add_9 ?_
    refine lv_aload_n hx hb dX1_add_12 rfl (lv_at hl 0 rfl) ?_
    refine va_get (D := D) (ci := 1) (v := .int a_count) (C := RX1) (T := TX1) (N := 3) hx hb hw inW_X1 hown hK hP 0 rfl rfl 0 (by decide) (hw _ mw_1_90) (fun _ h9 => h9) rfl dX1_add_13 ?_
    refine lv_iload_n hx hb dX1_add_16 rfl (lv_at hl 1 rfl) ?_
    refine cIast hx hb hK hP hD hS 1 0 rfl rfl a_count.toNatClampNeg rfl h.1 dX1_add_17 (fun H locs hP hD hS => ?_)
    have h := h.2
    refine lv_aload_n hx hb dX1_add_18 rfl (lv_at hl 0 rfl) ?_
    refine va_get (D := D) (ci := 1) (v := .ref a2) (C := RX1) (T := TX1) (N := 3) hx hb hw inW_X1 hown hK hP 0 rfl rfl 2 (by decide) (hw _ mw_1_96) (fun _ h9 => h9) rfl dX1_add_19 ?_
    refine lv_aload_n hx hb dX1_add_22 rfl (lv_at hl 0 rfl) ?_
    refine va_get (D := D) (ci := 1) (v := .int a_count) (C := RX1) (T := TX1) (N := 3) hx hb hw inW_X1 hown hK hP 0 rfl rfl 0 (by decide) (hw _ mw_1_90) (fun _ h9 => h9) rfl dX1_add_23 ?_
    refine lv_iload_n hx hb dX1_add_26 rfl (lv_at hl 2 rfl) ?_
    refine cIast hx hb hK hP hD hS 2 0 rfl rfl a_count.toNatClampNeg rfl h.1 dX1_add_27 (fun H locs hP hD hS => ?_)
    have h := h.2
    refine lv_aload_n hx hb dX1_add_28 rfl (lv_at hl 0 rfl) ?_
    refine lv_dup hx hb dX1_add_29 rfl ?_
    refine va_get (D := D) (ci := 1) (v := .int a_count) (C := RX1) (T := TX1) (N := 3) hx hb hw inW_X1 hown hK hP 0 rfl rfl 0 (by decide) (hw _ mw_1_90) (fun _ h9 => h9) rfl dX1_add_30 ?_
    refine lv_iconst (v := 1) hx hb dX1_add_33 (by decide) ?_
    refine lv_iadd hx hb dX1_add_34 ?_
    refine lv_topi (fun x2 ex2 => ?_)
    have h := h x2 ex2
    refine va_put (D := D) (ci := 1) (v := .int x2) (ty := .int) (C := RX1) (T := TX1) (N := 3) hx hb hw inW_X1 tyX1 tyX1_ok nmX1 hown hK hP hD hS 0 rfl rfl 0 (by decide) (hw _ mw_1_90) (fun _ h9 => h9) rfl (by decide +kernel) rfl rfl (Nat.le_of_ble_eq_true rfl) dX1_add_35 (fun H locs hP hD hS => ?_)
    have hP : va_P D vwCl (List.flatten ([cLamps a0 a1 a2 C x2 (upd a_place a_count.toNatClampNeg p1) (upd a_bright a_count.toNatClampNeg p2)])) H := hP
    have hD : va_D A (List.flatten ([cLamps a0 a1 a2 C x2 (upd a_place a_count.toNatClampNeg p1) (upd a_bright a_count.toNatClampNeg p2)])) := hD
    rw [← hQ]
    exact cRetV (x2, (upd a_place a_count.toNatClampNeg p1), (upd a_bright a_count.toNatClampNeg p2)) hx hb hr hlocks hS hP hD h dX1_add_38
abbrev vsX2_add : List Cond := Cond.code yX2_add cX2_add 5 none :: WS
abbrev rmX2_add : Room := { frames := 0, cells := 0, slots := 0, locals := 0 }
set_option maxHeartbeats 4000000 in
set_option maxRecDepth 100000 in
theorem k_X2_add (l : Launch) (D : va_G) (C : Nat → ClassId) (sz : Nat) (a0 : Nat) (a1 : Nat) (a2 : Nat)  (a_count : Int32) (a_price : Nat → Int32) (a_cuts : Nat → Int32) (p1 : Int32) (p2 : Int32) (p3 : Int32) (p4 : Int32) {post : (Int32) → (Nat → Int32) → (Nat → Int32) → Prop} (h : P_X2_add a_count a_price a_cuts p1 p2 p3 p4 post) : Met l yX2_add vsX2_add rmX2_add (cPre D C [.ref a0, .int p1, .int p2, .int p3, .int p4] sz ([cLocks a0 a1 a2 C a_count a_price a_cuts])) (cQv D (fun (u : (Int32) × (Nat → Int32) × (Nat → Int32)) => post u.1 u.2.1 u.2.2) (fun u => [cLocks a0 a1 a2 C u.1 u.2.1 u.2.2]) (va_A (List.flatten ([cLocks a0 a1 a2 C a_count a_price a_cuts])) sz)) 0 0 (va_A (List.flatten ([cLocks a0 a1 a2 C a_count a_price a_cuts])) sz) := by
  refine cStart (QA := fun A => cQv D (fun (u : (Int32) × (Nat → Int32) × (Nat → Int32)) => post u.1 u.2.1 u.2.2) (fun u => [cLocks a0 a1 a2 C u.1 u.2.1 u.2.2]) A) (cc := cX2_add) (maxL := 5) (ret := none) (by decide) (Nat.le_of_ble_eq_true rfl) ?_
  intro p e s m args below meth c A ls hx hb hr hml hown hw hlocks hname hK hN hA hP hD hS hl
  generalize hQ : MQ below _ args s 0 0 A = Q
  have hl : lv_has ls 5 [(0, .ref a0), (1, .int p1), (2, .int p2), (3, .int p3), (4, .int p4)] := hl
  obtain ⟨H, hH⟩ : ∃ H, H = s.heap := ⟨_, rfl⟩
  obtain ⟨locs, hlo⟩ : ∃ z : List Loc, z = [] := ⟨_, rfl⟩
  have hP : va_P D vwCl (List.flatten ([cLocks a0 a1 a2 C a_count a_price a_cuts])) H := by rw [hH]; exact hP
  have hS : va_S A s.heap H locs := by rw [hH, hlo]; exact hS
  rw [show W p l e rmX2_add s m args below meth c s.heap [] 0 0 Q (F0 m 0 ls []) = W p l e rmX2_add s m args below meth c H locs 0 0 Q (F0 m 0 ls []) from by rw [hH, hlo]]
  refine lv_aload_n hx hb dX2_add_0 rfl (lv_at hl 0 rfl) ?_
  refine va_get (D := D) (ci := 2) (v := .int a_count) (C := RX2) (T := TX2) (N := 3) hx hb hw inW_X2 hown hK hP 0 rfl rfl 0 (by decide) (hw _ mw_1_112) (fun _ h9 => h9) rfl dX2_add_1 ?_
  refine lv_iconst (v := 5) hx hb dX2_add_4 (by decide) ?_
  refine lv_icmp_ge (tgt := 69) hx hb dX2_add_5 (by decide) (fun c1 => ?_) (fun c1 => ?_)
  · have h := h.1 c1
    rw [← hQ]
    exact cRetV (a_count, a_price, a_cuts) hx hb hr hlocks hS hP hD h dX2_add_69
  · have h := h.2 c1
    refine lv_aload_n hx hb dX2_add_8 rfl (lv_at hl 0 rfl) ?_
    refine va_get (D := D) (ci := 2) (v := .ref a1) (C := RX2) (T := TX2) (N := 3) hx hb hw inW_X2 hown hK hP 0 rfl rfl 1 (by decide) (hw _ mw_1_116) (fun _ h9 => h9) rfl dX2_add_9 ?_
    refine lv_aload_n hx hb dX2_add_12 rfl (lv_at hl 0 rfl) ?_
    refine va_get (D := D) (ci := 2) (v := .int a_count) (C := RX2) (T := TX2) (N := 3) hx hb hw inW_X2 hown hK hP 0 rfl rfl 0 (by decide) (hw _ mw_1_112) (fun _ h9 => h9) rfl dX2_add_13 ?_
    refine lv_iload_n hx hb dX2_add_16 rfl (lv_at hl 1 rfl) ?_
    refine cIast hx hb hK hP hD hS 1 0 rfl rfl a_count.toNatClampNeg rfl h.1 dX2_add_17 (fun H locs hP hD hS => ?_)
    have h := h.2
    refine lv_aload_n hx hb dX2_add_18 rfl (lv_at hl 0 rfl) ?_
    refine va_get (D := D) (ci := 2) (v := .ref a2) (C := RX2) (T := TX2) (N := 3) hx hb hw inW_X2 hown hK hP 0 rfl rfl 2 (by decide) (hw _ mw_1_118) (fun _ h9 => h9) rfl dX2_add_19 ?_
    refine lv_iconst (v := 3) hx hb dX2_add_22 (by decide) ?_
    refine lv_aload_n hx hb dX2_add_23 rfl (lv_at hl 0 rfl) ?_
    refine va_get (D := D) (ci := 2) (v := .int a_count) (C := RX2) (T := TX2) (N := 3) hx hb hw inW_X2 hown hK hP 0 rfl rfl 0 (by decide) (hw _ mw_1_112) (fun _ h9 => h9) rfl dX2_add_24 ?_
    refine lv_imul hx hb dX2_add_27 ?_
    refine lv_iload_n hx hb dX2_add_28 rfl (lv_at hl 2 rfl) ?_
    refine cIast hx hb hK hP hD hS 2 0 rfl rfl ((3 * a_count).toNatClampNeg) rfl h.1 dX2_add_29 (fun H locs hP hD hS => ?_)
    have h := h.2
    refine lv_aload_n hx hb dX2_add_30 rfl (lv_at hl 0 rfl) ?_
    refine va_get (D := D) (ci := 2) (v := .ref a2) (C := RX2) (T := TX2) (N := 3) hx hb hw inW_X2 hown hK hP 0 rfl rfl 2 (by decide) (hw _ mw_1_118) (fun _ h9 => h9) rfl dX2_add_31 ?_
    refine lv_iconst (v := 3) hx hb dX2_add_34 (by decide) ?_
    refine lv_aload_n hx hb dX2_add_35 rfl (lv_at hl 0 rfl) ?_
    refine va_get (D := D) (ci := 2) (v := .int a_count) (C := RX2) (T := TX2) (N := 3) hx hb hw inW_X2 hown hK hP 0 rfl rfl 0 (by decide) (hw _ mw_1_112) (fun _ h9 => h9) rfl dX2_add_36 ?_
    refine lv_imul hx hb dX2_add_39 ?_
    refine lv_iconst (v := 1) hx hb dX2_add_40 (by decide) ?_
    refine lv_iadd hx hb dX2_add_41 ?_
    refine lv_iload_n hx hb dX2_add_42 rfl (lv_at hl 3 rfl) ?_
    refine cIast hx hb hK hP hD hS 2 0 rfl rfl (((3 * a_count) + 1).toNatClampNeg) rfl h.1 dX2_add_43 (fun H locs hP hD hS => ?_)
    have h := h.2
    refine lv_aload_n hx hb dX2_add_44 rfl (lv_at hl 0 rfl) ?_
    refine va_get (D := D) (ci := 2) (v := .ref a2) (C := RX2) (T := TX2) (N := 3) hx hb hw inW_X2 hown hK hP 0 rfl rfl 2 (by decide) (hw _ mw_1_118) (fun _ h9 => h9) rfl dX2_add_45 ?_
    refine lv_iconst (v := 3) hx hb dX2_add_48 (by decide) ?_
    refine lv_aload_n hx hb dX2_add_49 rfl (lv_at hl 0 rfl) ?_
    refine va_get (D := D) (ci := 2) (v := .int a_count) (C := RX2) (T := TX2) (N := 3) hx hb hw inW_X2 hown hK hP 0 rfl rfl 0 (by decide) (hw _ mw_1_112) (fun _ h9 => h9) rfl dX2_add_50 ?_
    refine lv_imul hx hb dX2_add_53 ?_
    refine lv_iconst (v := 2) hx hb dX2_add_54 (by decide) ?_
    refine lv_iadd hx hb dX2_add_55 ?_
    refine lv_iload hx hb dX2_add_56 (lv_at hl 4 rfl) ?_
    refine cIast hx hb hK hP hD hS 2 0 rfl rfl (((3 * a_count) + 2).toNatClampNeg) rfl h.1 dX2_add_58 (fun H locs hP hD hS => ?_)
    have h := h.2
    refine lv_aload_n hx hb dX2_add_59 rfl (lv_at hl 0 rfl) ?_
    refine lv_dup hx hb dX2_add_60 rfl ?_
    refine va_get (D := D) (ci := 2) (v := .int a_count) (C := RX2) (T := TX2) (N := 3) hx hb hw inW_X2 hown hK hP 0 rfl rfl 0 (by decide) (hw _ mw_1_112) (fun _ h9 => h9) rfl dX2_add_61 ?_
    refine lv_iconst (v := 1) hx hb dX2_add_64 (by decide) ?_
    refine lv_iadd hx hb dX2_add_65 ?_
    refine lv_topi (fun x2 ex2 => ?_)
    have h := h x2 ex2
    refine va_put (D := D) (ci := 2) (v := .int x2) (ty := .int) (C := RX2) (T := TX2) (N := 3) hx hb hw inW_X2 tyX2 tyX2_ok nmX2 hown hK hP hD hS 0 rfl rfl 0 (by decide) (hw _ mw_1_112) (fun _ h9 => h9) rfl (by decide +kernel) rfl rfl (Nat.le_of_ble_eq_true rfl) dX2_add_66 (fun H locs hP hD hS => ?_)
    have hP : va_P D vwCl (List.flatten ([cLocks a0 a1 a2 C x2 (upd a_price a_count.toNatClampNeg p1) (upd (upd (upd a_cuts ((3 * a_count).toNatClampNeg) p2) (((3 * a_count) + 1).toNatClampNeg) p3) (((3 * a_count) + 2).toNatClampNeg) p4)])) H := hP
    have hD : va_D A (List.flatten ([cLocks a0 a1 a2 C x2 (upd a_price a_count.toNatClampNeg p1) (upd (upd (upd a_cuts ((3 * a_count).toNatClampNeg) p2) (((3 * a_count) + 1).toNatClampNeg) p3) (((3 * a_count) + 2).toNatClampNeg) p4)])) := hD
    rw [← hQ]
    exact cRetV (x2, (upd a_price a_count.toNatClampNeg p1), (upd (upd (upd a_cuts ((3 * a_count).toNatClampNeg) p2) (((3 * a_count) + 1).toNatClampNeg) p3) (((3 * a_count) + 2).toNatClampNeg) p4)) hx hb hr hlocks hS hP hD h dX2_add_69
abbrev vsX0_standingAt : List Cond := Cond.code yX0_standingAt cX0_standingAt 3 (some .int) :: WS
abbrev rmX0_standingAt : Room := { frames := 0, cells := 0, slots := 0, locals := 0 }
set_option maxHeartbeats 4000000 in
set_option maxRecDepth 100000 in
theorem k_X0_standingAt (l : Launch) (D : va_G) (C : Nat → ClassId) (sz : Nat) (a0 : Nat) (a1 : Nat) (a2 : Nat) (a3 : Nat) (a4 : Nat) (a5 : Nat)  (a_count : Int32) (a_worth : Nat → Int32) (a_seems : Nat → Int32) (a_place : Nat → Int32) (a_lock : Nat → Int32) (a_marked : Nat → Int32) (p1 : Int32) {post : Int32 → Prop} (h : P_X0_standingAt a_count a_place p1 post) : Met l yX0_standingAt vsX0_standingAt rmX0_standingAt (cPre D C [.ref a0, .int p1] sz ([cBikes a0 a1 a2 a3 a4 a5 C a_count a_worth a_seems a_place a_lock a_marked])) (cQi D (fun (r : Int32) (u : Unit) => post r ) (fun u => [cBikes a0 a1 a2 a3 a4 a5 C a_count a_worth a_seems a_place a_lock a_marked]) (va_A (List.flatten ([cBikes a0 a1 a2 a3 a4 a5 C a_count a_worth a_seems a_place a_lock a_marked])) sz)) 0 0 (va_A (List.flatten ([cBikes a0 a1 a2 a3 a4 a5 C a_count a_worth a_seems a_place a_lock a_marked])) sz) := by
  refine cStart (QA := fun A => cQi D (fun (r : Int32) (u : Unit) => post r ) (fun u => [cBikes a0 a1 a2 a3 a4 a5 C a_count a_worth a_seems a_place a_lock a_marked]) A) (cc := cX0_standingAt) (maxL := 3) (ret := (some .int)) (by decide) (Nat.le_of_ble_eq_true rfl) ?_
  intro p e s m args below meth c A ls hx hb hr hml hown hw hlocks hname hK hN hA hP hD hS hl
  generalize hQ : MQ below _ args s 0 0 A = Q
  have hl : lv_has ls 3 [(0, .ref a0), (1, .int p1)] := hl
  obtain ⟨H, hH⟩ : ∃ H, H = s.heap := ⟨_, rfl⟩
  obtain ⟨locs, hlo⟩ : ∃ z : List Loc, z = [] := ⟨_, rfl⟩
  have hP : va_P D vwCl (List.flatten ([cBikes a0 a1 a2 a3 a4 a5 C a_count a_worth a_seems a_place a_lock a_marked])) H := by rw [hH]; exact hP
  have hS : va_S A s.heap H locs := by rw [hH, hlo]; exact hS
  rw [show W p l e rmX0_standingAt s m args below meth c s.heap [] 0 0 Q (F0 m 0 ls []) = W p l e rmX0_standingAt s m args below meth c H locs 0 0 Q (F0 m 0 ls []) from by rw [hH, hlo]]
  have N2 : ∀  (n2 : Nat) (x2_ : Int32) (H : Heap) (locs : List Loc) (ls : Array Slot), P_X0_standingAt_2 a_count a_place p1 post   n2 x2_ → va_P D vwCl (List.flatten ([cBikes a0 a1 a2 a3 a4 a5 C a_count a_worth a_seems a_place a_lock a_marked])) H → va_D A (List.flatten ([cBikes a0 a1 a2 a3 a4 a5 C a_count a_worth a_seems a_place a_lock a_marked])) → va_S A s.heap H locs → lv_has ls 3 [(0, .ref a0), (1, .int p1), (2, .int x2_)] → W p l e rmX0_standingAt s m args below meth c H locs 0 0 Q (F0 m 2 ls []) := by
    intro n2
    induction n2 with
    | zero => intro x2_ H locs ls h hP hD hS hl; exact False.elim h
    | succ n2 ih2 =>
      intro x2_ H locs ls h hP hD hS hl
      refine lv_iload_n hx hb dX0_standingAt_2 rfl (lv_at hl 2 rfl) ?_
      refine lv_aload_n hx hb dX0_standingAt_3 rfl (lv_at hl 0 rfl) ?_
      refine va_get (D := D) (ci := 0) (v := .int a_count) (C := RX0) (T := TX0) (N := 6) hx hb hw inW_X0 hown hK hP 0 rfl rfl 0 (by decide) (hw _ mw_1_133) (fun _ h9 => h9) rfl dX0_standingAt_4 ?_
      refine lv_icmp_ge (tgt := 28) hx hb dX0_standingAt_7 (by decide) (fun c1 => ?_) (fun c1 => ?_)
      · have h := h.1 c1
        refine lv_iconst (v := (-1)) hx hb dX0_standingAt_28 (by decide) ?_
        rw [← hQ]
        exact cRetI (v := (-1)) () hx hb hr hlocks hS hP hD h dX0_standingAt_29
      · have h := h.2 c1
        refine lv_aload_n hx hb dX0_standingAt_10 rfl (lv_at hl 0 rfl) ?_
        refine va_get (D := D) (ci := 0) (v := .ref a3) (C := RX0) (T := TX0) (N := 6) hx hb hw inW_X0 hown hK hP 0 rfl rfl 3 (by decide) (hw _ mw_1_145) (fun _ h9 => h9) rfl dX0_standingAt_11 ?_
        refine lv_iload_n hx hb dX0_standingAt_14 rfl (lv_at hl 2 rfl) ?_
        refine cIald hx hb hK hP 3 0 rfl rfl x2_.toNatClampNeg rfl h.1 dX0_standingAt_15 ?_
        have h := h.2
        refine lv_iload_n hx hb dX0_standingAt_16 rfl (lv_at hl 1 rfl) ?_
        refine lv_icmp_ne (tgt := 22) hx hb dX0_standingAt_17 (by decide) (fun c2 => ?_) (fun c2 => ?_)
        · have h := h.1 c2
          refine lv_iinc (v := (x2_ + 1)) (lv' := [(2, .int (x2_ + 1)), (0, .ref a0), (1, .int p1)]) hx hb dX0_standingAt_22 hl (k := 2) rfl rfl (by decide) rfl (fun ls hl => ?_)
          refine lv_goto (tgt := 2) hx hb dX0_standingAt_25 (by decide) ?_
          exact ih2 (x2_ + 1) _ _ _ h hP hD hS (lv_sub hl [1, 2, 0] rfl)
        · have h := h.2 c2
          refine lv_iload_n hx hb dX0_standingAt_20 rfl (lv_at hl 2 rfl) ?_
          rw [← hQ]
          exact cRetI (v := x2_) () hx hb hr hlocks hS hP hD h dX0_standingAt_21
  refine lv_iconst (v := 0) hx hb dX0_standingAt_0 (by decide) ?_
  refine lv_istore_n (lv' := [(2, .int 0), (0, .ref a0), (1, .int p1)]) hx hb dX0_standingAt_1 rfl hl (by decide) rfl (fun ls hl => ?_)
  obtain ⟨n, h⟩ := h
  exact N2  n 0 _ _ _ h hP hD hS (lv_sub hl [1, 2, 0] rfl)
abbrev vsX0_add : List Cond := Cond.code yX0_add cX0_add 6 none :: WS
abbrev rmX0_add : Room := { frames := 0, cells := 0, slots := 0, locals := 0 }
set_option maxHeartbeats 4000000 in
set_option maxRecDepth 100000 in
theorem k_X0_add (l : Launch) (D : va_G) (C : Nat → ClassId) (sz : Nat) (a0 : Nat) (a1 : Nat) (a2 : Nat) (a3 : Nat) (a4 : Nat) (a5 : Nat)  (a_count : Int32) (a_worth : Nat → Int32) (a_seems : Nat → Int32) (a_place : Nat → Int32) (a_lock : Nat → Int32) (a_marked : Nat → Int32) (p1 : Int32) (p2 : Int32) (p3 : Int32) (p4 : Int32) (p5 : Int32) {post : (Int32) → (Nat → Int32) → (Nat → Int32) → (Nat → Int32) → (Nat → Int32) → (Nat → Int32) → Prop} (h : P_X0_add a_count a_worth a_seems a_place a_lock a_marked p1 p2 p3 p4 p5 post) : Met l yX0_add vsX0_add rmX0_add (cPre D C [.ref a0, .int p1, .int p2, .int p3, .int p4, .int p5] sz ([cBikes a0 a1 a2 a3 a4 a5 C a_count a_worth a_seems a_place a_lock a_marked])) (cQv D (fun (u : (Int32) × (Nat → Int32) × (Nat → Int32) × (Nat → Int32) × (Nat → Int32) × (Nat → Int32)) => post u.1 u.2.1 u.2.2.1 u.2.2.2.1 u.2.2.2.2.1 u.2.2.2.2.2) (fun u => [cBikes a0 a1 a2 a3 a4 a5 C u.1 u.2.1 u.2.2.1 u.2.2.2.1 u.2.2.2.2.1 u.2.2.2.2.2]) (va_A (List.flatten ([cBikes a0 a1 a2 a3 a4 a5 C a_count a_worth a_seems a_place a_lock a_marked])) sz)) 0 0 (va_A (List.flatten ([cBikes a0 a1 a2 a3 a4 a5 C a_count a_worth a_seems a_place a_lock a_marked])) sz) := by
  refine cStart (QA := fun A => cQv D (fun (u : (Int32) × (Nat → Int32) × (Nat → Int32) × (Nat → Int32) × (Nat → Int32) × (Nat → Int32)) => post u.1 u.2.1 u.2.2.1 u.2.2.2.1 u.2.2.2.2.1 u.2.2.2.2.2) (fun u => [cBikes a0 a1 a2 a3 a4 a5 C u.1 u.2.1 u.2.2.1 u.2.2.2.1 u.2.2.2.2.1 u.2.2.2.2.2]) A) (cc := cX0_add) (maxL := 6) (ret := none) (by decide) (Nat.le_of_ble_eq_true rfl) ?_
  intro p e s m args below meth c A ls hx hb hr hml hown hw hlocks hname hK hN hA hP hD hS hl
  generalize hQ : MQ below _ args s 0 0 A = Q
  have hl : lv_has ls 6 [(0, .ref a0), (1, .int p1), (2, .int p2), (3, .int p3), (4, .int p4), (5, .int p5)] := hl
  obtain ⟨H, hH⟩ : ∃ H, H = s.heap := ⟨_, rfl⟩
  obtain ⟨locs, hlo⟩ : ∃ z : List Loc, z = [] := ⟨_, rfl⟩
  have hP : va_P D vwCl (List.flatten ([cBikes a0 a1 a2 a3 a4 a5 C a_count a_worth a_seems a_place a_lock a_marked])) H := by rw [hH]; exact hP
  have hS : va_S A s.heap H locs := by rw [hH, hlo]; exact hS
  rw [show W p l e rmX0_add s m args below meth c s.heap [] 0 0 Q (F0 m 0 ls []) = W p l e rmX0_add s m args below meth c H locs 0 0 Q (F0 m 0 ls []) from by rw [hH, hlo]]
  refine lv_aload_n hx hb dX0_add_0 rfl (lv_at hl 0 rfl) ?_
  refine va_get (D := D) (ci := 0) (v := .int a_count) (C := RX0) (T := TX0) (N := 6) hx hb hw inW_X0 hown hK hP 0 rfl rfl 0 (by decide) (hw _ mw_1_133) (fun _ h9 => h9) rfl dX0_add_1 ?_
  refine lv_bipush (v := 10) hx hb dX0_add_4 (by decide) ?_
  refine lv_icmp_ge (tgt := 71) hx hb dX0_add_6 (by decide) (fun c1 => ?_) (fun c1 => ?_)
  · have h := h.1 c1
    rw [← hQ]
    exact cRetV (a_count, a_worth, a_seems, a_place, a_lock, a_marked) hx hb hr hlocks hS hP hD h dX0_add_71
  · have h := h.2 c1
    refine lv_aload_n hx hb dX0_add_9 rfl (lv_at hl 0 rfl) ?_
    refine va_get (D := D) (ci := 0) (v := .ref a1) (C := RX0) (T := TX0) (N := 6) hx hb hw inW_X0 hown hK hP 0 rfl rfl 1 (by decide) (hw _ mw_1_138) (fun _ h9 => h9) rfl dX0_add_10 ?_
    refine lv_aload_n hx hb dX0_add_13 rfl (lv_at hl 0 rfl) ?_
    refine va_get (D := D) (ci := 0) (v := .int a_count) (C := RX0) (T := TX0) (N := 6) hx hb hw inW_X0 hown hK hP 0 rfl rfl 0 (by decide) (hw _ mw_1_133) (fun _ h9 => h9) rfl dX0_add_14 ?_
    refine lv_iload_n hx hb dX0_add_17 rfl (lv_at hl 1 rfl) ?_
    refine cIast hx hb hK hP hD hS 1 0 rfl rfl a_count.toNatClampNeg rfl h.1 dX0_add_18 (fun H locs hP hD hS => ?_)
    have h := h.2
    refine lv_aload_n hx hb dX0_add_19 rfl (lv_at hl 0 rfl) ?_
    refine va_get (D := D) (ci := 0) (v := .ref a2) (C := RX0) (T := TX0) (N := 6) hx hb hw inW_X0 hown hK hP 0 rfl rfl 2 (by decide) (hw _ mw_1_142) (fun _ h9 => h9) rfl dX0_add_20 ?_
    refine lv_aload_n hx hb dX0_add_23 rfl (lv_at hl 0 rfl) ?_
    refine va_get (D := D) (ci := 0) (v := .int a_count) (C := RX0) (T := TX0) (N := 6) hx hb hw inW_X0 hown hK hP 0 rfl rfl 0 (by decide) (hw _ mw_1_133) (fun _ h9 => h9) rfl dX0_add_24 ?_
    refine lv_iload_n hx hb dX0_add_27 rfl (lv_at hl 2 rfl) ?_
    refine cIast hx hb hK hP hD hS 2 0 rfl rfl a_count.toNatClampNeg rfl h.1 dX0_add_28 (fun H locs hP hD hS => ?_)
    have h := h.2
    refine lv_aload_n hx hb dX0_add_29 rfl (lv_at hl 0 rfl) ?_
    refine va_get (D := D) (ci := 0) (v := .ref a3) (C := RX0) (T := TX0) (N := 6) hx hb hw inW_X0 hown hK hP 0 rfl rfl 3 (by decide) (hw _ mw_1_145) (fun _ h9 => h9) rfl dX0_add_30 ?_
    refine lv_aload_n hx hb dX0_add_33 rfl (lv_at hl 0 rfl) ?_
    refine va_get (D := D) (ci := 0) (v := .int a_count) (C := RX0) (T := TX0) (N := 6) hx hb hw inW_X0 hown hK hP 0 rfl rfl 0 (by decide) (hw _ mw_1_133) (fun _ h9 => h9) rfl dX0_add_34 ?_
    refine lv_iload_n hx hb dX0_add_37 rfl (lv_at hl 3 rfl) ?_
    refine cIast hx hb hK hP hD hS 3 0 rfl rfl a_count.toNatClampNeg rfl h.1 dX0_add_38 (fun H locs hP hD hS => ?_)
    have h := h.2
    refine lv_aload_n hx hb dX0_add_39 rfl (lv_at hl 0 rfl) ?_
    refine va_get (D := D) (ci := 0) (v := .ref a4) (C := RX0) (T := TX0) (N := 6) hx hb hw inW_X0 hown hK hP 0 rfl rfl 4 (by decide) (hw _ mw_1_148) (fun _ h9 => h9) rfl dX0_add_40 ?_
    refine lv_aload_n hx hb dX0_add_43 rfl (lv_at hl 0 rfl) ?_
    refine va_get (D := D) (ci := 0) (v := .int a_count) (C := RX0) (T := TX0) (N := 6) hx hb hw inW_X0 hown hK hP 0 rfl rfl 0 (by decide) (hw _ mw_1_133) (fun _ h9 => h9) rfl dX0_add_44 ?_
    refine lv_iload hx hb dX0_add_47 (lv_at hl 4 rfl) ?_
    refine cIast hx hb hK hP hD hS 4 0 rfl rfl a_count.toNatClampNeg rfl h.1 dX0_add_49 (fun H locs hP hD hS => ?_)
    have h := h.2
    refine lv_aload_n hx hb dX0_add_50 rfl (lv_at hl 0 rfl) ?_
    refine va_get (D := D) (ci := 0) (v := .ref a5) (C := RX0) (T := TX0) (N := 6) hx hb hw inW_X0 hown hK hP 0 rfl rfl 5 (by decide) (hw _ mw_1_151) (fun _ h9 => h9) rfl dX0_add_51 ?_
    refine lv_aload_n hx hb dX0_add_54 rfl (lv_at hl 0 rfl) ?_
    refine va_get (D := D) (ci := 0) (v := .int a_count) (C := RX0) (T := TX0) (N := 6) hx hb hw inW_X0 hown hK hP 0 rfl rfl 0 (by decide) (hw _ mw_1_133) (fun _ h9 => h9) rfl dX0_add_55 ?_
    refine lv_iload hx hb dX0_add_58 (lv_at hl 5 rfl) ?_
    refine cZast hx hb hK hP hD hS 5 3 rfl rfl a_count.toNatClampNeg rfl h.1 h.2.1 dX0_add_60 (fun H locs hP hD hS => ?_)
    have h := h.2
    have h := h.2
    refine lv_aload_n hx hb dX0_add_61 rfl (lv_at hl 0 rfl) ?_
    refine lv_dup hx hb dX0_add_62 rfl ?_
    refine va_get (D := D) (ci := 0) (v := .int a_count) (C := RX0) (T := TX0) (N := 6) hx hb hw inW_X0 hown hK hP 0 rfl rfl 0 (by decide) (hw _ mw_1_133) (fun _ h9 => h9) rfl dX0_add_63 ?_
    refine lv_iconst (v := 1) hx hb dX0_add_66 (by decide) ?_
    refine lv_iadd hx hb dX0_add_67 ?_
    refine lv_topi (fun x2 ex2 => ?_)
    have h := h x2 ex2
    refine va_put (D := D) (ci := 0) (v := .int x2) (ty := .int) (C := RX0) (T := TX0) (N := 6) hx hb hw inW_X0 tyX0 tyX0_ok nmX0 hown hK hP hD hS 0 rfl rfl 0 (by decide) (hw _ mw_1_133) (fun _ h9 => h9) rfl (by decide +kernel) rfl rfl (Nat.le_of_ble_eq_true rfl) dX0_add_68 (fun H locs hP hD hS => ?_)
    have hP : va_P D vwCl (List.flatten ([cBikes a0 a1 a2 a3 a4 a5 C x2 (upd a_worth a_count.toNatClampNeg p1) (upd a_seems a_count.toNatClampNeg p2) (upd a_place a_count.toNatClampNeg p3) (upd a_lock a_count.toNatClampNeg p4) (upd a_marked a_count.toNatClampNeg p5)])) H := hP
    have hD : va_D A (List.flatten ([cBikes a0 a1 a2 a3 a4 a5 C x2 (upd a_worth a_count.toNatClampNeg p1) (upd a_seems a_count.toNatClampNeg p2) (upd a_place a_count.toNatClampNeg p3) (upd a_lock a_count.toNatClampNeg p4) (upd a_marked a_count.toNatClampNeg p5)])) := hD
    rw [← hQ]
    exact cRetV (x2, (upd a_worth a_count.toNatClampNeg p1), (upd a_seems a_count.toNatClampNeg p2), (upd a_place a_count.toNatClampNeg p3), (upd a_lock a_count.toNatClampNeg p4), (upd a_marked a_count.toNatClampNeg p5)) hx hb hr hlocks hS hP hD h dX0_add_71
abbrev vsX9_add : List Cond := Cond.code yX9_add cX9_add 6 none :: WS
abbrev rmX9_add : Room := { frames := 0, cells := 0, slots := 0, locals := 0 }
set_option maxHeartbeats 4000000 in
set_option maxRecDepth 100000 in
theorem k_X9_add (l : Launch) (D : va_G) (C : Nat → ClassId) (sz : Nat) (a0 : Nat) (a1 : Nat) (a2 : Nat) (a3 : Nat) (a4 : Nat) (a5 : Nat)  (a_count : Int32) (a_tool : Nat → Int32) (a_comes : Nat → Int32) (a_fears : Nat → Int32) (a_kind : Nat → Int32) (a_just : Nat → Int32) (p1 : Int32) (p2 : Int32) (p3 : Int32) (p4 : Int32) (p5 : Int32) {post : (Int32) → (Nat → Int32) → (Nat → Int32) → (Nat → Int32) → (Nat → Int32) → (Nat → Int32) → Prop} (h : P_X9_add a_count a_tool a_comes a_fears a_kind a_just p1 p2 p3 p4 p5 post) : Met l yX9_add vsX9_add rmX9_add (cPre D C [.ref a0, .int p1, .int p2, .int p3, .int p4, .int p5] sz ([cThieves a0 a1 a2 a3 a4 a5 C a_count a_tool a_comes a_fears a_kind a_just])) (cQv D (fun (u : (Int32) × (Nat → Int32) × (Nat → Int32) × (Nat → Int32) × (Nat → Int32) × (Nat → Int32)) => post u.1 u.2.1 u.2.2.1 u.2.2.2.1 u.2.2.2.2.1 u.2.2.2.2.2) (fun u => [cThieves a0 a1 a2 a3 a4 a5 C u.1 u.2.1 u.2.2.1 u.2.2.2.1 u.2.2.2.2.1 u.2.2.2.2.2]) (va_A (List.flatten ([cThieves a0 a1 a2 a3 a4 a5 C a_count a_tool a_comes a_fears a_kind a_just])) sz)) 0 0 (va_A (List.flatten ([cThieves a0 a1 a2 a3 a4 a5 C a_count a_tool a_comes a_fears a_kind a_just])) sz) := by
  refine cStart (QA := fun A => cQv D (fun (u : (Int32) × (Nat → Int32) × (Nat → Int32) × (Nat → Int32) × (Nat → Int32) × (Nat → Int32)) => post u.1 u.2.1 u.2.2.1 u.2.2.2.1 u.2.2.2.2.1 u.2.2.2.2.2) (fun u => [cThieves a0 a1 a2 a3 a4 a5 C u.1 u.2.1 u.2.2.1 u.2.2.2.1 u.2.2.2.2.1 u.2.2.2.2.2]) A) (cc := cX9_add) (maxL := 6) (ret := none) (by decide) (Nat.le_of_ble_eq_true rfl) ?_
  intro p e s m args below meth c A ls hx hb hr hml hown hw hlocks hname hK hN hA hP hD hS hl
  generalize hQ : MQ below _ args s 0 0 A = Q
  have hl : lv_has ls 6 [(0, .ref a0), (1, .int p1), (2, .int p2), (3, .int p3), (4, .int p4), (5, .int p5)] := hl
  obtain ⟨H, hH⟩ : ∃ H, H = s.heap := ⟨_, rfl⟩
  obtain ⟨locs, hlo⟩ : ∃ z : List Loc, z = [] := ⟨_, rfl⟩
  have hP : va_P D vwCl (List.flatten ([cThieves a0 a1 a2 a3 a4 a5 C a_count a_tool a_comes a_fears a_kind a_just])) H := by rw [hH]; exact hP
  have hS : va_S A s.heap H locs := by rw [hH, hlo]; exact hS
  rw [show W p l e rmX9_add s m args below meth c s.heap [] 0 0 Q (F0 m 0 ls []) = W p l e rmX9_add s m args below meth c H locs 0 0 Q (F0 m 0 ls []) from by rw [hH, hlo]]
  refine lv_aload_n hx hb dX9_add_0 rfl (lv_at hl 0 rfl) ?_
  refine va_get (D := D) (ci := 9) (v := .int a_count) (C := RX9) (T := TX9) (N := 6) hx hb hw inW_X9 hown hK hP 0 rfl rfl 0 (by decide) (hw _ mw_1_174) (fun _ h9 => h9) rfl dX9_add_1 ?_
  refine lv_bipush (v := 6) hx hb dX9_add_4 (by decide) ?_
  refine lv_icmp_ge (tgt := 71) hx hb dX9_add_6 (by decide) (fun c1 => ?_) (fun c1 => ?_)
  · have h := h.1 c1
    rw [← hQ]
    exact cRetV (a_count, a_tool, a_comes, a_fears, a_kind, a_just) hx hb hr hlocks hS hP hD h dX9_add_71
  · have h := h.2 c1
    refine lv_aload_n hx hb dX9_add_9 rfl (lv_at hl 0 rfl) ?_
    refine va_get (D := D) (ci := 9) (v := .ref a1) (C := RX9) (T := TX9) (N := 6) hx hb hw inW_X9 hown hK hP 0 rfl rfl 1 (by decide) (hw _ mw_1_179) (fun _ h9 => h9) rfl dX9_add_10 ?_
    refine lv_aload_n hx hb dX9_add_13 rfl (lv_at hl 0 rfl) ?_
    refine va_get (D := D) (ci := 9) (v := .int a_count) (C := RX9) (T := TX9) (N := 6) hx hb hw inW_X9 hown hK hP 0 rfl rfl 0 (by decide) (hw _ mw_1_174) (fun _ h9 => h9) rfl dX9_add_14 ?_
    refine lv_iload_n hx hb dX9_add_17 rfl (lv_at hl 1 rfl) ?_
    refine cIast hx hb hK hP hD hS 1 0 rfl rfl a_count.toNatClampNeg rfl h.1 dX9_add_18 (fun H locs hP hD hS => ?_)
    have h := h.2
    refine lv_aload_n hx hb dX9_add_19 rfl (lv_at hl 0 rfl) ?_
    refine va_get (D := D) (ci := 9) (v := .ref a2) (C := RX9) (T := TX9) (N := 6) hx hb hw inW_X9 hown hK hP 0 rfl rfl 2 (by decide) (hw _ mw_1_181) (fun _ h9 => h9) rfl dX9_add_20 ?_
    refine lv_aload_n hx hb dX9_add_23 rfl (lv_at hl 0 rfl) ?_
    refine va_get (D := D) (ci := 9) (v := .int a_count) (C := RX9) (T := TX9) (N := 6) hx hb hw inW_X9 hown hK hP 0 rfl rfl 0 (by decide) (hw _ mw_1_174) (fun _ h9 => h9) rfl dX9_add_24 ?_
    refine lv_iload_n hx hb dX9_add_27 rfl (lv_at hl 2 rfl) ?_
    refine cIast hx hb hK hP hD hS 2 0 rfl rfl a_count.toNatClampNeg rfl h.1 dX9_add_28 (fun H locs hP hD hS => ?_)
    have h := h.2
    refine lv_aload_n hx hb dX9_add_29 rfl (lv_at hl 0 rfl) ?_
    refine va_get (D := D) (ci := 9) (v := .ref a3) (C := RX9) (T := TX9) (N := 6) hx hb hw inW_X9 hown hK hP 0 rfl rfl 3 (by decide) (hw _ mw_1_183) (fun _ h9 => h9) rfl dX9_add_30 ?_
    refine lv_aload_n hx hb dX9_add_33 rfl (lv_at hl 0 rfl) ?_
    refine va_get (D := D) (ci := 9) (v := .int a_count) (C := RX9) (T := TX9) (N := 6) hx hb hw inW_X9 hown hK hP 0 rfl rfl 0 (by decide) (hw _ mw_1_174) (fun _ h9 => h9) rfl dX9_add_34 ?_
    refine lv_iload_n hx hb dX9_add_37 rfl (lv_at hl 3 rfl) ?_
    refine cIast hx hb hK hP hD hS 3 0 rfl rfl a_count.toNatClampNeg rfl h.1 dX9_add_38 (fun H locs hP hD hS => ?_)
    have h := h.2
    refine lv_aload_n hx hb dX9_add_39 rfl (lv_at hl 0 rfl) ?_
    refine va_get (D := D) (ci := 9) (v := .ref a4) (C := RX9) (T := TX9) (N := 6) hx hb hw inW_X9 hown hK hP 0 rfl rfl 4 (by decide) (hw _ mw_1_185) (fun _ h9 => h9) rfl dX9_add_40 ?_
    refine lv_aload_n hx hb dX9_add_43 rfl (lv_at hl 0 rfl) ?_
    refine va_get (D := D) (ci := 9) (v := .int a_count) (C := RX9) (T := TX9) (N := 6) hx hb hw inW_X9 hown hK hP 0 rfl rfl 0 (by decide) (hw _ mw_1_174) (fun _ h9 => h9) rfl dX9_add_44 ?_
    refine lv_iload hx hb dX9_add_47 (lv_at hl 4 rfl) ?_
    refine cIast hx hb hK hP hD hS 4 0 rfl rfl a_count.toNatClampNeg rfl h.1 dX9_add_49 (fun H locs hP hD hS => ?_)
    have h := h.2
    refine lv_aload_n hx hb dX9_add_50 rfl (lv_at hl 0 rfl) ?_
    refine va_get (D := D) (ci := 9) (v := .ref a5) (C := RX9) (T := TX9) (N := 6) hx hb hw inW_X9 hown hK hP 0 rfl rfl 5 (by decide) (hw _ mw_1_187) (fun _ h9 => h9) rfl dX9_add_51 ?_
    refine lv_aload_n hx hb dX9_add_54 rfl (lv_at hl 0 rfl) ?_
    refine va_get (D := D) (ci := 9) (v := .int a_count) (C := RX9) (T := TX9) (N := 6) hx hb hw inW_X9 hown hK hP 0 rfl rfl 0 (by decide) (hw _ mw_1_174) (fun _ h9 => h9) rfl dX9_add_55 ?_
    refine lv_iload hx hb dX9_add_58 (lv_at hl 5 rfl) ?_
    refine cIast hx hb hK hP hD hS 5 0 rfl rfl a_count.toNatClampNeg rfl h.1 dX9_add_60 (fun H locs hP hD hS => ?_)
    have h := h.2
    refine lv_aload_n hx hb dX9_add_61 rfl (lv_at hl 0 rfl) ?_
    refine lv_dup hx hb dX9_add_62 rfl ?_
    refine va_get (D := D) (ci := 9) (v := .int a_count) (C := RX9) (T := TX9) (N := 6) hx hb hw inW_X9 hown hK hP 0 rfl rfl 0 (by decide) (hw _ mw_1_174) (fun _ h9 => h9) rfl dX9_add_63 ?_
    refine lv_iconst (v := 1) hx hb dX9_add_66 (by decide) ?_
    refine lv_iadd hx hb dX9_add_67 ?_
    refine lv_topi (fun x2 ex2 => ?_)
    have h := h x2 ex2
    refine va_put (D := D) (ci := 9) (v := .int x2) (ty := .int) (C := RX9) (T := TX9) (N := 6) hx hb hw inW_X9 tyX9 tyX9_ok nmX9 hown hK hP hD hS 0 rfl rfl 0 (by decide) (hw _ mw_1_174) (fun _ h9 => h9) rfl (by decide +kernel) rfl rfl (Nat.le_of_ble_eq_true rfl) dX9_add_68 (fun H locs hP hD hS => ?_)
    have hP : va_P D vwCl (List.flatten ([cThieves a0 a1 a2 a3 a4 a5 C x2 (upd a_tool a_count.toNatClampNeg p1) (upd a_comes a_count.toNatClampNeg p2) (upd a_fears a_count.toNatClampNeg p3) (upd a_kind a_count.toNatClampNeg p4) (upd a_just a_count.toNatClampNeg p5)])) H := hP
    have hD : va_D A (List.flatten ([cThieves a0 a1 a2 a3 a4 a5 C x2 (upd a_tool a_count.toNatClampNeg p1) (upd a_comes a_count.toNatClampNeg p2) (upd a_fears a_count.toNatClampNeg p3) (upd a_kind a_count.toNatClampNeg p4) (upd a_just a_count.toNatClampNeg p5)])) := hD
    rw [← hQ]
    exact cRetV (x2, (upd a_tool a_count.toNatClampNeg p1), (upd a_comes a_count.toNatClampNeg p2), (upd a_fears a_count.toNatClampNeg p3), (upd a_kind a_count.toNatClampNeg p4), (upd a_just a_count.toNatClampNeg p5)) hx hb hr hlocks hS hP hD h dX9_add_71
abbrev vsX1_copyFrom : List Cond := Cond.code yX1_copyFrom cX1_copyFrom 2 none :: WS
abbrev rmX1_copyFrom : Room := { frames := 1, cells := 0, slots := 0, locals := 40 }
set_option maxHeartbeats 4000000 in
set_option maxRecDepth 100000 in
theorem k_X1_copyFrom (l : Launch) (D : va_G) (C : Nat → ClassId) (sz : Nat) (a0 : Nat) (a1 : Nat) (a2 : Nat) (e0 : Nat) (e1 : Nat) (e2 : Nat)  (a_count : Int32) (a_place : Nat → Int32) (a_bright : Nat → Int32) (e_count : Int32) (e_place : Nat → Int32) (e_bright : Nat → Int32)  {post : (Int32) → (Nat → Int32) → (Nat → Int32) → Prop} (h : P_X1_copyFrom a_count a_place a_bright e_count e_place e_bright post) : Met l yX1_copyFrom vsX1_copyFrom rmX1_copyFrom (cPre D C [.ref a0, .ref e0] sz ([cLamps a0 a1 a2 C a_count a_place a_bright] ++ ([cLamps e0 e1 e2 C e_count e_place e_bright]))) (cQv D (fun (u : (Int32) × (Nat → Int32) × (Nat → Int32)) => post u.1 u.2.1 u.2.2) (fun u => [cLamps a0 a1 a2 C u.1 u.2.1 u.2.2] ++ ([cLamps e0 e1 e2 C e_count e_place e_bright])) (va_A (List.flatten ([cLamps a0 a1 a2 C a_count a_place a_bright] ++ ([cLamps e0 e1 e2 C e_count e_place e_bright]))) sz)) 0 0 (va_A (List.flatten ([cLamps a0 a1 a2 C a_count a_place a_bright] ++ ([cLamps e0 e1 e2 C e_count e_place e_bright]))) sz) := by
  refine cStart (QA := fun A => cQv D (fun (u : (Int32) × (Nat → Int32) × (Nat → Int32)) => post u.1 u.2.1 u.2.2) (fun u => [cLamps a0 a1 a2 C u.1 u.2.1 u.2.2] ++ ([cLamps e0 e1 e2 C e_count e_place e_bright])) A) (cc := cX1_copyFrom) (maxL := 2) (ret := none) (by decide) (Nat.le_of_ble_eq_true rfl) ?_
  intro p e s m args below meth c A ls hx hb hr hml hown hw hlocks hname hK hN hA hP hD hS hl
  generalize hQ : MQ below _ args s 0 0 A = Q
  have hl : lv_has ls 2 [(0, .ref a0), (1, .ref e0)] := hl
  obtain ⟨H, hH⟩ : ∃ H, H = s.heap := ⟨_, rfl⟩
  obtain ⟨locs, hlo⟩ : ∃ z : List Loc, z = [] := ⟨_, rfl⟩
  have hP : va_P D vwCl (List.flatten ([cLamps a0 a1 a2 C a_count a_place a_bright] ++ ([cLamps e0 e1 e2 C e_count e_place e_bright]))) H := by rw [hH]; exact hP
  have hS : va_S A s.heap H locs := by rw [hH, hlo]; exact hS
  rw [show W p l e rmX1_copyFrom s m args below meth c s.heap [] 0 0 Q (F0 m 0 ls []) = W p l e rmX1_copyFrom s m args below meth c H locs 0 0 Q (F0 m 0 ls []) from by rw [hH, hlo]]
  refine lv_aload_n hx hb dX1_copyFrom_0 rfl (lv_at hl 0 rfl) ?_
  refine lv_aload_n hx hb dX1_copyFrom_1 rfl (lv_at hl 1 rfl) ?_
  refine va_get (D := D) (ci := 1) (v := .int e_count) (C := RX1) (T := TX1) (N := 3) hx hb hw inW_X1 hown hK hP 3 rfl rfl 0 (by decide) (hw _ mw_1_90) (fun _ h9 => h9) rfl dX1_copyFrom_2 ?_
  refine va_put (D := D) (ci := 1) (v := .int e_count) (ty := .int) (C := RX1) (T := TX1) (N := 3) hx hb hw inW_X1 tyX1 tyX1_ok nmX1 hown hK hP hD hS 0 rfl rfl 0 (by decide) (hw _ mw_1_90) (fun _ h9 => h9) rfl (by decide +kernel) rfl rfl (Nat.le_of_ble_eq_true rfl) dX1_copyFrom_5 (fun H locs hP hD hS => ?_)
  refine lv_aload_n hx hb dX1_copyFrom_8 rfl (lv_at hl 1 rfl) ?_
  refine va_get (D := D) (ci := 1) (v := .ref e1) (C := RX1) (T := TX1) (N := 3) hx hb hw inW_X1 hown hK hP 3 rfl rfl 1 (by decide) (hw _ mw_1_94) (fun _ h9 => h9) rfl dX1_copyFrom_9 ?_
  refine lv_iconst (v := 0) hx hb dX1_copyFrom_12 (by decide) ?_
  refine lv_aload_n hx hb dX1_copyFrom_13 rfl (lv_at hl 0 rfl) ?_
  refine va_get (D := D) (ci := 1) (v := .ref a1) (C := RX1) (T := TX1) (N := 3) hx hb hw inW_X1 hown hK hP 0 rfl rfl 1 (by decide) (hw _ mw_1_94) (fun _ h9 => h9) rfl dX1_copyFrom_14 ?_
  refine lv_iconst (v := 0) hx hb dX1_copyFrom_17 (by decide) ?_
  refine lv_aload_n hx hb dX1_copyFrom_18 rfl (lv_at hl 0 rfl) ?_
  refine va_get (D := D) (ci := 1) (v := .ref a1) (C := RX1) (T := TX1) (N := 3) hx hb hw inW_X1 hown hK hP 0 rfl rfl 1 (by decide) (hw _ mw_1_94) (fun _ h9 => h9) rfl dX1_copyFrom_19 ?_
  refine va_alen (v := 5) hx hb hK hP 1 0 rfl rfl rfl dX1_copyFrom_22 ?_
  refine cCopyI hx hb (hml.trans hl.1.symm) hown (hw _ mw_3_131) (hw _ mw_3_133) (hw _ mw_3_132) (hw _ mw_1_19) hK hP hD hS 4 1 0 rfl rfl rfl 0 0 5 (by decide +kernel) (by decide +kernel) (by decide +kernel) (by decide) (by decide) (by decide) (by decide) (by decide) (Nat.le_of_ble_eq_true rfl) (Nat.le_of_ble_eq_true rfl) dX1_copyFrom_23 (fun H locs hP hD hS => ?_)
  refine lv_aload_n hx hb dX1_copyFrom_26 rfl (lv_at hl 1 rfl) ?_
  refine va_get (D := D) (ci := 1) (v := .ref e2) (C := RX1) (T := TX1) (N := 3) hx hb hw inW_X1 hown hK hP 3 rfl rfl 2 (by decide) (hw _ mw_1_96) (fun _ h9 => h9) rfl dX1_copyFrom_27 ?_
  refine lv_iconst (v := 0) hx hb dX1_copyFrom_30 (by decide) ?_
  refine lv_aload_n hx hb dX1_copyFrom_31 rfl (lv_at hl 0 rfl) ?_
  refine va_get (D := D) (ci := 1) (v := .ref a2) (C := RX1) (T := TX1) (N := 3) hx hb hw inW_X1 hown hK hP 0 rfl rfl 2 (by decide) (hw _ mw_1_96) (fun _ h9 => h9) rfl dX1_copyFrom_32 ?_
  refine lv_iconst (v := 0) hx hb dX1_copyFrom_35 (by decide) ?_
  refine lv_aload_n hx hb dX1_copyFrom_36 rfl (lv_at hl 0 rfl) ?_
  refine va_get (D := D) (ci := 1) (v := .ref a2) (C := RX1) (T := TX1) (N := 3) hx hb hw inW_X1 hown hK hP 0 rfl rfl 2 (by decide) (hw _ mw_1_96) (fun _ h9 => h9) rfl dX1_copyFrom_37 ?_
  refine va_alen (v := 5) hx hb hK hP 2 0 rfl rfl rfl dX1_copyFrom_40 ?_
  refine cCopyI hx hb (hml.trans hl.1.symm) hown (hw _ mw_3_131) (hw _ mw_3_133) (hw _ mw_3_132) (hw _ mw_1_19) hK hP hD hS 5 2 0 rfl rfl rfl 0 0 5 (by decide +kernel) (by decide +kernel) (by decide +kernel) (by decide) (by decide) (by decide) (by decide) (by decide) (Nat.le_of_ble_eq_true rfl) (Nat.le_of_ble_eq_true rfl) dX1_copyFrom_41 (fun H locs hP hD hS => ?_)
  have hP : va_P D vwCl (List.flatten ([cLamps a0 a1 a2 C e_count (va_cpy e_place a_place 0 0 5) (va_cpy e_bright a_bright 0 0 5)] ++ ([cLamps e0 e1 e2 C e_count e_place e_bright]))) H := hP
  have hD : va_D A (List.flatten ([cLamps a0 a1 a2 C e_count (va_cpy e_place a_place 0 0 5) (va_cpy e_bright a_bright 0 0 5)] ++ ([cLamps e0 e1 e2 C e_count e_place e_bright]))) := hD
  rw [← hQ]
  exact cRetV (e_count, (va_cpy e_place a_place 0 0 5), (va_cpy e_bright a_bright 0 0 5)) hx hb hr hlocks hS hP hD h dX1_copyFrom_44
abbrev vsX2_copyFrom : List Cond := Cond.code yX2_copyFrom cX2_copyFrom 2 none :: WS
abbrev rmX2_copyFrom : Room := { frames := 1, cells := 0, slots := 0, locals := 40 }
set_option maxHeartbeats 4000000 in
set_option maxRecDepth 100000 in
theorem k_X2_copyFrom (l : Launch) (D : va_G) (C : Nat → ClassId) (sz : Nat) (a0 : Nat) (a1 : Nat) (a2 : Nat) (e0 : Nat) (e1 : Nat) (e2 : Nat)  (a_count : Int32) (a_price : Nat → Int32) (a_cuts : Nat → Int32) (e_count : Int32) (e_price : Nat → Int32) (e_cuts : Nat → Int32)  {post : (Int32) → (Nat → Int32) → (Nat → Int32) → Prop} (h : P_X2_copyFrom a_count a_price a_cuts e_count e_price e_cuts post) : Met l yX2_copyFrom vsX2_copyFrom rmX2_copyFrom (cPre D C [.ref a0, .ref e0] sz ([cLocks a0 a1 a2 C a_count a_price a_cuts] ++ ([cLocks e0 e1 e2 C e_count e_price e_cuts]))) (cQv D (fun (u : (Int32) × (Nat → Int32) × (Nat → Int32)) => post u.1 u.2.1 u.2.2) (fun u => [cLocks a0 a1 a2 C u.1 u.2.1 u.2.2] ++ ([cLocks e0 e1 e2 C e_count e_price e_cuts])) (va_A (List.flatten ([cLocks a0 a1 a2 C a_count a_price a_cuts] ++ ([cLocks e0 e1 e2 C e_count e_price e_cuts]))) sz)) 0 0 (va_A (List.flatten ([cLocks a0 a1 a2 C a_count a_price a_cuts] ++ ([cLocks e0 e1 e2 C e_count e_price e_cuts]))) sz) := by
  refine cStart (QA := fun A => cQv D (fun (u : (Int32) × (Nat → Int32) × (Nat → Int32)) => post u.1 u.2.1 u.2.2) (fun u => [cLocks a0 a1 a2 C u.1 u.2.1 u.2.2] ++ ([cLocks e0 e1 e2 C e_count e_price e_cuts])) A) (cc := cX2_copyFrom) (maxL := 2) (ret := none) (by decide) (Nat.le_of_ble_eq_true rfl) ?_
  intro p e s m args below meth c A ls hx hb hr hml hown hw hlocks hname hK hN hA hP hD hS hl
  generalize hQ : MQ below _ args s 0 0 A = Q
  have hl : lv_has ls 2 [(0, .ref a0), (1, .ref e0)] := hl
  obtain ⟨H, hH⟩ : ∃ H, H = s.heap := ⟨_, rfl⟩
  obtain ⟨locs, hlo⟩ : ∃ z : List Loc, z = [] := ⟨_, rfl⟩
  have hP : va_P D vwCl (List.flatten ([cLocks a0 a1 a2 C a_count a_price a_cuts] ++ ([cLocks e0 e1 e2 C e_count e_price e_cuts]))) H := by rw [hH]; exact hP
  have hS : va_S A s.heap H locs := by rw [hH, hlo]; exact hS
  rw [show W p l e rmX2_copyFrom s m args below meth c s.heap [] 0 0 Q (F0 m 0 ls []) = W p l e rmX2_copyFrom s m args below meth c H locs 0 0 Q (F0 m 0 ls []) from by rw [hH, hlo]]
  refine lv_aload_n hx hb dX2_copyFrom_0 rfl (lv_at hl 0 rfl) ?_
  refine lv_aload_n hx hb dX2_copyFrom_1 rfl (lv_at hl 1 rfl) ?_
  refine va_get (D := D) (ci := 2) (v := .int e_count) (C := RX2) (T := TX2) (N := 3) hx hb hw inW_X2 hown hK hP 3 rfl rfl 0 (by decide) (hw _ mw_1_112) (fun _ h9 => h9) rfl dX2_copyFrom_2 ?_
  refine va_put (D := D) (ci := 2) (v := .int e_count) (ty := .int) (C := RX2) (T := TX2) (N := 3) hx hb hw inW_X2 tyX2 tyX2_ok nmX2 hown hK hP hD hS 0 rfl rfl 0 (by decide) (hw _ mw_1_112) (fun _ h9 => h9) rfl (by decide +kernel) rfl rfl (Nat.le_of_ble_eq_true rfl) dX2_copyFrom_5 (fun H locs hP hD hS => ?_)
  refine lv_aload_n hx hb dX2_copyFrom_8 rfl (lv_at hl 1 rfl) ?_
  refine va_get (D := D) (ci := 2) (v := .ref e1) (C := RX2) (T := TX2) (N := 3) hx hb hw inW_X2 hown hK hP 3 rfl rfl 1 (by decide) (hw _ mw_1_116) (fun _ h9 => h9) rfl dX2_copyFrom_9 ?_
  refine lv_iconst (v := 0) hx hb dX2_copyFrom_12 (by decide) ?_
  refine lv_aload_n hx hb dX2_copyFrom_13 rfl (lv_at hl 0 rfl) ?_
  refine va_get (D := D) (ci := 2) (v := .ref a1) (C := RX2) (T := TX2) (N := 3) hx hb hw inW_X2 hown hK hP 0 rfl rfl 1 (by decide) (hw _ mw_1_116) (fun _ h9 => h9) rfl dX2_copyFrom_14 ?_
  refine lv_iconst (v := 0) hx hb dX2_copyFrom_17 (by decide) ?_
  refine lv_aload_n hx hb dX2_copyFrom_18 rfl (lv_at hl 0 rfl) ?_
  refine va_get (D := D) (ci := 2) (v := .ref a1) (C := RX2) (T := TX2) (N := 3) hx hb hw inW_X2 hown hK hP 0 rfl rfl 1 (by decide) (hw _ mw_1_116) (fun _ h9 => h9) rfl dX2_copyFrom_19 ?_
  refine va_alen (v := 5) hx hb hK hP 1 0 rfl rfl rfl dX2_copyFrom_22 ?_
  refine cCopyI hx hb (hml.trans hl.1.symm) hown (hw _ mw_3_138) (hw _ mw_3_133) (hw _ mw_3_132) (hw _ mw_1_19) hK hP hD hS 4 1 0 rfl rfl rfl 0 0 5 (by decide +kernel) (by decide +kernel) (by decide +kernel) (by decide) (by decide) (by decide) (by decide) (by decide) (Nat.le_of_ble_eq_true rfl) (Nat.le_of_ble_eq_true rfl) dX2_copyFrom_23 (fun H locs hP hD hS => ?_)
  refine lv_aload_n hx hb dX2_copyFrom_26 rfl (lv_at hl 1 rfl) ?_
  refine va_get (D := D) (ci := 2) (v := .ref e2) (C := RX2) (T := TX2) (N := 3) hx hb hw inW_X2 hown hK hP 3 rfl rfl 2 (by decide) (hw _ mw_1_118) (fun _ h9 => h9) rfl dX2_copyFrom_27 ?_
  refine lv_iconst (v := 0) hx hb dX2_copyFrom_30 (by decide) ?_
  refine lv_aload_n hx hb dX2_copyFrom_31 rfl (lv_at hl 0 rfl) ?_
  refine va_get (D := D) (ci := 2) (v := .ref a2) (C := RX2) (T := TX2) (N := 3) hx hb hw inW_X2 hown hK hP 0 rfl rfl 2 (by decide) (hw _ mw_1_118) (fun _ h9 => h9) rfl dX2_copyFrom_32 ?_
  refine lv_iconst (v := 0) hx hb dX2_copyFrom_35 (by decide) ?_
  refine lv_aload_n hx hb dX2_copyFrom_36 rfl (lv_at hl 0 rfl) ?_
  refine va_get (D := D) (ci := 2) (v := .ref a2) (C := RX2) (T := TX2) (N := 3) hx hb hw inW_X2 hown hK hP 0 rfl rfl 2 (by decide) (hw _ mw_1_118) (fun _ h9 => h9) rfl dX2_copyFrom_37 ?_
  refine va_alen (v := 15) hx hb hK hP 2 0 rfl rfl rfl dX2_copyFrom_40 ?_
  refine cCopyI hx hb (hml.trans hl.1.symm) hown (hw _ mw_3_138) (hw _ mw_3_133) (hw _ mw_3_132) (hw _ mw_1_19) hK hP hD hS 5 2 0 rfl rfl rfl 0 0 15 (by decide +kernel) (by decide +kernel) (by decide +kernel) (by decide) (by decide) (by decide) (by decide) (by decide) (Nat.le_of_ble_eq_true rfl) (Nat.le_of_ble_eq_true rfl) dX2_copyFrom_41 (fun H locs hP hD hS => ?_)
  have hP : va_P D vwCl (List.flatten ([cLocks a0 a1 a2 C e_count (va_cpy e_price a_price 0 0 5) (va_cpy e_cuts a_cuts 0 0 15)] ++ ([cLocks e0 e1 e2 C e_count e_price e_cuts]))) H := hP
  have hD : va_D A (List.flatten ([cLocks a0 a1 a2 C e_count (va_cpy e_price a_price 0 0 5) (va_cpy e_cuts a_cuts 0 0 15)] ++ ([cLocks e0 e1 e2 C e_count e_price e_cuts]))) := hD
  rw [← hQ]
  exact cRetV (e_count, (va_cpy e_price a_price 0 0 5), (va_cpy e_cuts a_cuts 0 0 15)) hx hb hr hlocks hS hP hD h dX2_copyFrom_44
abbrev vsX0_copyFrom : List Cond := Cond.code yX0_copyFrom cX0_copyFrom 3 none :: WS
abbrev rmX0_copyFrom : Room := { frames := 1, cells := 0, slots := 0, locals := 40 }
set_option maxHeartbeats 4000000 in
set_option maxRecDepth 100000 in
theorem k_X0_copyFrom (l : Launch) (D : va_G) (C : Nat → ClassId) (sz : Nat) (a0 : Nat) (a1 : Nat) (a2 : Nat) (a3 : Nat) (a4 : Nat) (a5 : Nat) (e0 : Nat) (e1 : Nat) (e2 : Nat) (e3 : Nat) (e4 : Nat) (e5 : Nat)  (a_count : Int32) (a_worth : Nat → Int32) (a_seems : Nat → Int32) (a_place : Nat → Int32) (a_lock : Nat → Int32) (a_marked : Nat → Int32) (e_count : Int32) (e_worth : Nat → Int32) (e_seems : Nat → Int32) (e_place : Nat → Int32) (e_lock : Nat → Int32) (e_marked : Nat → Int32)  {post : (Int32) → (Nat → Int32) → (Nat → Int32) → (Nat → Int32) → (Nat → Int32) → (Nat → Int32) → Prop} (h : P_X0_copyFrom a_count a_worth a_seems a_place a_lock a_marked e_count e_worth e_seems e_place e_lock e_marked post) : Met l yX0_copyFrom vsX0_copyFrom rmX0_copyFrom (cPre D C [.ref a0, .ref e0] sz ([cBikes a0 a1 a2 a3 a4 a5 C a_count a_worth a_seems a_place a_lock a_marked] ++ ([cBikes e0 e1 e2 e3 e4 e5 C e_count e_worth e_seems e_place e_lock e_marked]))) (cQv D (fun (u : (Int32) × (Nat → Int32) × (Nat → Int32) × (Nat → Int32) × (Nat → Int32) × (Nat → Int32)) => post u.1 u.2.1 u.2.2.1 u.2.2.2.1 u.2.2.2.2.1 u.2.2.2.2.2) (fun u => [cBikes a0 a1 a2 a3 a4 a5 C u.1 u.2.1 u.2.2.1 u.2.2.2.1 u.2.2.2.2.1 u.2.2.2.2.2] ++ ([cBikes e0 e1 e2 e3 e4 e5 C e_count e_worth e_seems e_place e_lock e_marked])) (va_A (List.flatten ([cBikes a0 a1 a2 a3 a4 a5 C a_count a_worth a_seems a_place a_lock a_marked] ++ ([cBikes e0 e1 e2 e3 e4 e5 C e_count e_worth e_seems e_place e_lock e_marked]))) sz)) 0 0 (va_A (List.flatten ([cBikes a0 a1 a2 a3 a4 a5 C a_count a_worth a_seems a_place a_lock a_marked] ++ ([cBikes e0 e1 e2 e3 e4 e5 C e_count e_worth e_seems e_place e_lock e_marked]))) sz) := by
  refine cStart (QA := fun A => cQv D (fun (u : (Int32) × (Nat → Int32) × (Nat → Int32) × (Nat → Int32) × (Nat → Int32) × (Nat → Int32)) => post u.1 u.2.1 u.2.2.1 u.2.2.2.1 u.2.2.2.2.1 u.2.2.2.2.2) (fun u => [cBikes a0 a1 a2 a3 a4 a5 C u.1 u.2.1 u.2.2.1 u.2.2.2.1 u.2.2.2.2.1 u.2.2.2.2.2] ++ ([cBikes e0 e1 e2 e3 e4 e5 C e_count e_worth e_seems e_place e_lock e_marked])) A) (cc := cX0_copyFrom) (maxL := 3) (ret := none) (by decide) (Nat.le_of_ble_eq_true rfl) ?_
  intro p e s m args below meth c A ls hx hb hr hml hown hw hlocks hname hK hN hA hP hD hS hl
  generalize hQ : MQ below _ args s 0 0 A = Q
  have hl : lv_has ls 3 [(0, .ref a0), (1, .ref e0)] := hl
  obtain ⟨H, hH⟩ : ∃ H, H = s.heap := ⟨_, rfl⟩
  obtain ⟨locs, hlo⟩ : ∃ z : List Loc, z = [] := ⟨_, rfl⟩
  have hP : va_P D vwCl (List.flatten ([cBikes a0 a1 a2 a3 a4 a5 C a_count a_worth a_seems a_place a_lock a_marked] ++ ([cBikes e0 e1 e2 e3 e4 e5 C e_count e_worth e_seems e_place e_lock e_marked]))) H := by rw [hH]; exact hP
  have hS : va_S A s.heap H locs := by rw [hH, hlo]; exact hS
  rw [show W p l e rmX0_copyFrom s m args below meth c s.heap [] 0 0 Q (F0 m 0 ls []) = W p l e rmX0_copyFrom s m args below meth c H locs 0 0 Q (F0 m 0 ls []) from by rw [hH, hlo]]
  have N82 : ∀ (a_count : Int32) (a_worth : Nat → Int32) (a_seems : Nat → Int32) (a_place : Nat → Int32) (a_lock : Nat → Int32) (n82 : Nat) (x2_ : Int32) (a_marked : Nat → Int32) (H : Heap) (locs : List Loc) (ls : Array Slot), P_X0_copyFrom_82 e_count e_worth e_seems e_place e_lock e_marked post  a_count a_worth a_seems a_place a_lock n82 x2_ a_marked → va_P D vwCl (List.flatten ([cBikes a0 a1 a2 a3 a4 a5 C a_count a_worth a_seems a_place a_lock a_marked] ++ ([cBikes e0 e1 e2 e3 e4 e5 C e_count e_worth e_seems e_place e_lock e_marked]))) H → va_D A (List.flatten ([cBikes a0 a1 a2 a3 a4 a5 C a_count a_worth a_seems a_place a_lock a_marked] ++ ([cBikes e0 e1 e2 e3 e4 e5 C e_count e_worth e_seems e_place e_lock e_marked]))) → va_S A s.heap H locs → lv_has ls 3 [(0, .ref a0), (1, .ref e0), (2, .int x2_)] → W p l e rmX0_copyFrom s m args below meth c H locs 0 0 Q (F0 m 82 ls []) := by
    intro a_count a_worth a_seems a_place a_lock
    intro n82
    induction n82 with
    | zero => intro x2_ a_marked H locs ls h hP hD hS hl; exact False.elim h
    | succ n82 ih82 =>
      intro x2_ a_marked H locs ls h hP hD hS hl
      refine lv_iload_n hx hb dX0_copyFrom_82 rfl (lv_at hl 2 rfl) ?_
      refine lv_bipush (v := 10) hx hb dX0_copyFrom_83 (by decide) ?_
      refine lv_icmp_ge (tgt := 106) hx hb dX0_copyFrom_85 (by decide) (fun c1 => ?_) (fun c1 => ?_)
      · have h := h.1 c1
        rw [← hQ]
        exact cRetV (a_count, a_worth, a_seems, a_place, a_lock, a_marked) hx hb hr hlocks hS hP hD h dX0_copyFrom_106
      · have h := h.2 c1
        refine lv_aload_n hx hb dX0_copyFrom_88 rfl (lv_at hl 0 rfl) ?_
        refine va_get (D := D) (ci := 0) (v := .ref a5) (C := RX0) (T := TX0) (N := 6) hx hb hw inW_X0 hown hK hP 0 rfl rfl 5 (by decide) (hw _ mw_1_151) (fun _ h9 => h9) rfl dX0_copyFrom_89 ?_
        refine lv_iload_n hx hb dX0_copyFrom_92 rfl (lv_at hl 2 rfl) ?_
        refine lv_aload_n hx hb dX0_copyFrom_93 rfl (lv_at hl 1 rfl) ?_
        refine va_get (D := D) (ci := 0) (v := .ref e5) (C := RX0) (T := TX0) (N := 6) hx hb hw inW_X0 hown hK hP 6 rfl rfl 5 (by decide) (hw _ mw_1_151) (fun _ h9 => h9) rfl dX0_copyFrom_94 ?_
        refine lv_iload_n hx hb dX0_copyFrom_97 rfl (lv_at hl 2 rfl) ?_
        refine cZald hx hb hK hP 11 3 rfl rfl x2_.toNatClampNeg rfl h.1 dX0_copyFrom_98 ?_
        have h := h.2
        refine cZast hx hb hK hP hD hS 5 3 rfl rfl x2_.toNatClampNeg rfl h.1 h.2.1 dX0_copyFrom_99 (fun H locs hP hD hS => ?_)
        have h := h.2
        have h := h.2
        refine lv_iinc (v := (x2_ + 1)) (lv' := [(2, .int (x2_ + 1)), (0, .ref a0), (1, .ref e0)]) hx hb dX0_copyFrom_100 hl (k := 2) rfl rfl (by decide) rfl (fun ls hl => ?_)
        refine lv_goto (tgt := 82) hx hb dX0_copyFrom_103 (by decide) ?_
        have hP : va_P D vwCl (List.flatten ([cBikes a0 a1 a2 a3 a4 a5 C a_count a_worth a_seems a_place a_lock (upd a_marked x2_.toNatClampNeg (e_marked x2_.toNatClampNeg))] ++ ([cBikes e0 e1 e2 e3 e4 e5 C e_count e_worth e_seems e_place e_lock e_marked]))) H := hP
        have hD : va_D A (List.flatten ([cBikes a0 a1 a2 a3 a4 a5 C a_count a_worth a_seems a_place a_lock (upd a_marked x2_.toNatClampNeg (e_marked x2_.toNatClampNeg))] ++ ([cBikes e0 e1 e2 e3 e4 e5 C e_count e_worth e_seems e_place e_lock e_marked]))) := hD
        exact ih82 (x2_ + 1) (upd a_marked x2_.toNatClampNeg (e_marked x2_.toNatClampNeg)) _ _ _ h hP hD hS (lv_sub hl [1, 2, 0] rfl)
  refine lv_aload_n hx hb dX0_copyFrom_0 rfl (lv_at hl 0 rfl) ?_
  refine lv_aload_n hx hb dX0_copyFrom_1 rfl (lv_at hl 1 rfl) ?_
  refine va_get (D := D) (ci := 0) (v := .int e_count) (C := RX0) (T := TX0) (N := 6) hx hb hw inW_X0 hown hK hP 6 rfl rfl 0 (by decide) (hw _ mw_1_133) (fun _ h9 => h9) rfl dX0_copyFrom_2 ?_
  refine va_put (D := D) (ci := 0) (v := .int e_count) (ty := .int) (C := RX0) (T := TX0) (N := 6) hx hb hw inW_X0 tyX0 tyX0_ok nmX0 hown hK hP hD hS 0 rfl rfl 0 (by decide) (hw _ mw_1_133) (fun _ h9 => h9) rfl (by decide +kernel) rfl rfl (Nat.le_of_ble_eq_true rfl) dX0_copyFrom_5 (fun H locs hP hD hS => ?_)
  refine lv_aload_n hx hb dX0_copyFrom_8 rfl (lv_at hl 1 rfl) ?_
  refine va_get (D := D) (ci := 0) (v := .ref e1) (C := RX0) (T := TX0) (N := 6) hx hb hw inW_X0 hown hK hP 6 rfl rfl 1 (by decide) (hw _ mw_1_138) (fun _ h9 => h9) rfl dX0_copyFrom_9 ?_
  refine lv_iconst (v := 0) hx hb dX0_copyFrom_12 (by decide) ?_
  refine lv_aload_n hx hb dX0_copyFrom_13 rfl (lv_at hl 0 rfl) ?_
  refine va_get (D := D) (ci := 0) (v := .ref a1) (C := RX0) (T := TX0) (N := 6) hx hb hw inW_X0 hown hK hP 0 rfl rfl 1 (by decide) (hw _ mw_1_138) (fun _ h9 => h9) rfl dX0_copyFrom_14 ?_
  refine lv_iconst (v := 0) hx hb dX0_copyFrom_17 (by decide) ?_
  refine lv_aload_n hx hb dX0_copyFrom_18 rfl (lv_at hl 0 rfl) ?_
  refine va_get (D := D) (ci := 0) (v := .ref a1) (C := RX0) (T := TX0) (N := 6) hx hb hw inW_X0 hown hK hP 0 rfl rfl 1 (by decide) (hw _ mw_1_138) (fun _ h9 => h9) rfl dX0_copyFrom_19 ?_
  refine va_alen (v := 10) hx hb hK hP 1 0 rfl rfl rfl dX0_copyFrom_22 ?_
  refine cCopyI hx hb (hml.trans hl.1.symm) hown (hw _ mw_3_143) (hw _ mw_3_133) (hw _ mw_3_132) (hw _ mw_1_19) hK hP hD hS 7 1 0 rfl rfl rfl 0 0 10 (by decide +kernel) (by decide +kernel) (by decide +kernel) (by decide) (by decide) (by decide) (by decide) (by decide) (Nat.le_of_ble_eq_true rfl) (Nat.le_of_ble_eq_true rfl) dX0_copyFrom_23 (fun H locs hP hD hS => ?_)
  refine lv_aload_n hx hb dX0_copyFrom_26 rfl (lv_at hl 1 rfl) ?_
  refine va_get (D := D) (ci := 0) (v := .ref e2) (C := RX0) (T := TX0) (N := 6) hx hb hw inW_X0 hown hK hP 6 rfl rfl 2 (by decide) (hw _ mw_1_142) (fun _ h9 => h9) rfl dX0_copyFrom_27 ?_
  refine lv_iconst (v := 0) hx hb dX0_copyFrom_30 (by decide) ?_
  refine lv_aload_n hx hb dX0_copyFrom_31 rfl (lv_at hl 0 rfl) ?_
  refine va_get (D := D) (ci := 0) (v := .ref a2) (C := RX0) (T := TX0) (N := 6) hx hb hw inW_X0 hown hK hP 0 rfl rfl 2 (by decide) (hw _ mw_1_142) (fun _ h9 => h9) rfl dX0_copyFrom_32 ?_
  refine lv_iconst (v := 0) hx hb dX0_copyFrom_35 (by decide) ?_
  refine lv_aload_n hx hb dX0_copyFrom_36 rfl (lv_at hl 0 rfl) ?_
  refine va_get (D := D) (ci := 0) (v := .ref a2) (C := RX0) (T := TX0) (N := 6) hx hb hw inW_X0 hown hK hP 0 rfl rfl 2 (by decide) (hw _ mw_1_142) (fun _ h9 => h9) rfl dX0_copyFrom_37 ?_
  refine va_alen (v := 10) hx hb hK hP 2 0 rfl rfl rfl dX0_copyFrom_40 ?_
  refine cCopyI hx hb (hml.trans hl.1.symm) hown (hw _ mw_3_143) (hw _ mw_3_133) (hw _ mw_3_132) (hw _ mw_1_19) hK hP hD hS 8 2 0 rfl rfl rfl 0 0 10 (by decide +kernel) (by decide +kernel) (by decide +kernel) (by decide) (by decide) (by decide) (by decide) (by decide) (Nat.le_of_ble_eq_true rfl) (Nat.le_of_ble_eq_true rfl) dX0_copyFrom_41 (fun H locs hP hD hS => ?_)
  refine lv_aload_n hx hb dX0_copyFrom_44 rfl (lv_at hl 1 rfl) ?_
  refine va_get (D := D) (ci := 0) (v := .ref e3) (C := RX0) (T := TX0) (N := 6) hx hb hw inW_X0 hown hK hP 6 rfl rfl 3 (by decide) (hw _ mw_1_145) (fun _ h9 => h9) rfl dX0_copyFrom_45 ?_
  refine lv_iconst (v := 0) hx hb dX0_copyFrom_48 (by decide) ?_
  refine lv_aload_n hx hb dX0_copyFrom_49 rfl (lv_at hl 0 rfl) ?_
  refine va_get (D := D) (ci := 0) (v := .ref a3) (C := RX0) (T := TX0) (N := 6) hx hb hw inW_X0 hown hK hP 0 rfl rfl 3 (by decide) (hw _ mw_1_145) (fun _ h9 => h9) rfl dX0_copyFrom_50 ?_
  refine lv_iconst (v := 0) hx hb dX0_copyFrom_53 (by decide) ?_
  refine lv_aload_n hx hb dX0_copyFrom_54 rfl (lv_at hl 0 rfl) ?_
  refine va_get (D := D) (ci := 0) (v := .ref a3) (C := RX0) (T := TX0) (N := 6) hx hb hw inW_X0 hown hK hP 0 rfl rfl 3 (by decide) (hw _ mw_1_145) (fun _ h9 => h9) rfl dX0_copyFrom_55 ?_
  refine va_alen (v := 10) hx hb hK hP 3 0 rfl rfl rfl dX0_copyFrom_58 ?_
  refine cCopyI hx hb (hml.trans hl.1.symm) hown (hw _ mw_3_143) (hw _ mw_3_133) (hw _ mw_3_132) (hw _ mw_1_19) hK hP hD hS 9 3 0 rfl rfl rfl 0 0 10 (by decide +kernel) (by decide +kernel) (by decide +kernel) (by decide) (by decide) (by decide) (by decide) (by decide) (Nat.le_of_ble_eq_true rfl) (Nat.le_of_ble_eq_true rfl) dX0_copyFrom_59 (fun H locs hP hD hS => ?_)
  refine lv_aload_n hx hb dX0_copyFrom_62 rfl (lv_at hl 1 rfl) ?_
  refine va_get (D := D) (ci := 0) (v := .ref e4) (C := RX0) (T := TX0) (N := 6) hx hb hw inW_X0 hown hK hP 6 rfl rfl 4 (by decide) (hw _ mw_1_148) (fun _ h9 => h9) rfl dX0_copyFrom_63 ?_
  refine lv_iconst (v := 0) hx hb dX0_copyFrom_66 (by decide) ?_
  refine lv_aload_n hx hb dX0_copyFrom_67 rfl (lv_at hl 0 rfl) ?_
  refine va_get (D := D) (ci := 0) (v := .ref a4) (C := RX0) (T := TX0) (N := 6) hx hb hw inW_X0 hown hK hP 0 rfl rfl 4 (by decide) (hw _ mw_1_148) (fun _ h9 => h9) rfl dX0_copyFrom_68 ?_
  refine lv_iconst (v := 0) hx hb dX0_copyFrom_71 (by decide) ?_
  refine lv_aload_n hx hb dX0_copyFrom_72 rfl (lv_at hl 0 rfl) ?_
  refine va_get (D := D) (ci := 0) (v := .ref a4) (C := RX0) (T := TX0) (N := 6) hx hb hw inW_X0 hown hK hP 0 rfl rfl 4 (by decide) (hw _ mw_1_148) (fun _ h9 => h9) rfl dX0_copyFrom_73 ?_
  refine va_alen (v := 10) hx hb hK hP 4 0 rfl rfl rfl dX0_copyFrom_76 ?_
  refine cCopyI hx hb (hml.trans hl.1.symm) hown (hw _ mw_3_143) (hw _ mw_3_133) (hw _ mw_3_132) (hw _ mw_1_19) hK hP hD hS 10 4 0 rfl rfl rfl 0 0 10 (by decide +kernel) (by decide +kernel) (by decide +kernel) (by decide) (by decide) (by decide) (by decide) (by decide) (Nat.le_of_ble_eq_true rfl) (Nat.le_of_ble_eq_true rfl) dX0_copyFrom_77 (fun H locs hP hD hS => ?_)
  refine lv_iconst (v := 0) hx hb dX0_copyFrom_80 (by decide) ?_
  refine lv_istore_n (lv' := [(2, .int 0), (0, .ref a0), (1, .ref e0)]) hx hb dX0_copyFrom_81 rfl hl (by decide) rfl (fun ls hl => ?_)
  have hP : va_P D vwCl (List.flatten ([cBikes a0 a1 a2 a3 a4 a5 C e_count (va_cpy e_worth a_worth 0 0 10) (va_cpy e_seems a_seems 0 0 10) (va_cpy e_place a_place 0 0 10) (va_cpy e_lock a_lock 0 0 10) a_marked] ++ ([cBikes e0 e1 e2 e3 e4 e5 C e_count e_worth e_seems e_place e_lock e_marked]))) H := hP
  have hD : va_D A (List.flatten ([cBikes a0 a1 a2 a3 a4 a5 C e_count (va_cpy e_worth a_worth 0 0 10) (va_cpy e_seems a_seems 0 0 10) (va_cpy e_place a_place 0 0 10) (va_cpy e_lock a_lock 0 0 10) a_marked] ++ ([cBikes e0 e1 e2 e3 e4 e5 C e_count e_worth e_seems e_place e_lock e_marked]))) := hD
  obtain ⟨n, h⟩ := h
  exact N82 e_count (va_cpy e_worth a_worth 0 0 10) (va_cpy e_seems a_seems 0 0 10) (va_cpy e_place a_place 0 0 10) (va_cpy e_lock a_lock 0 0 10) n 0 a_marked _ _ _ h hP hD hS (lv_sub hl [1, 2, 0] rfl)
abbrev vsX9_copyFrom : List Cond := Cond.code yX9_copyFrom cX9_copyFrom 2 none :: WS
abbrev rmX9_copyFrom : Room := { frames := 1, cells := 0, slots := 0, locals := 40 }
set_option maxHeartbeats 4000000 in
set_option maxRecDepth 100000 in
theorem k_X9_copyFrom (l : Launch) (D : va_G) (C : Nat → ClassId) (sz : Nat) (a0 : Nat) (a1 : Nat) (a2 : Nat) (a3 : Nat) (a4 : Nat) (a5 : Nat) (e0 : Nat) (e1 : Nat) (e2 : Nat) (e3 : Nat) (e4 : Nat) (e5 : Nat)  (a_count : Int32) (a_tool : Nat → Int32) (a_comes : Nat → Int32) (a_fears : Nat → Int32) (a_kind : Nat → Int32) (a_just : Nat → Int32) (e_count : Int32) (e_tool : Nat → Int32) (e_comes : Nat → Int32) (e_fears : Nat → Int32) (e_kind : Nat → Int32) (e_just : Nat → Int32)  {post : (Int32) → (Nat → Int32) → (Nat → Int32) → (Nat → Int32) → (Nat → Int32) → (Nat → Int32) → Prop} (h : P_X9_copyFrom a_count a_tool a_comes a_fears a_kind a_just e_count e_tool e_comes e_fears e_kind e_just post) : Met l yX9_copyFrom vsX9_copyFrom rmX9_copyFrom (cPre D C [.ref a0, .ref e0] sz ([cThieves a0 a1 a2 a3 a4 a5 C a_count a_tool a_comes a_fears a_kind a_just] ++ ([cThieves e0 e1 e2 e3 e4 e5 C e_count e_tool e_comes e_fears e_kind e_just]))) (cQv D (fun (u : (Int32) × (Nat → Int32) × (Nat → Int32) × (Nat → Int32) × (Nat → Int32) × (Nat → Int32)) => post u.1 u.2.1 u.2.2.1 u.2.2.2.1 u.2.2.2.2.1 u.2.2.2.2.2) (fun u => [cThieves a0 a1 a2 a3 a4 a5 C u.1 u.2.1 u.2.2.1 u.2.2.2.1 u.2.2.2.2.1 u.2.2.2.2.2] ++ ([cThieves e0 e1 e2 e3 e4 e5 C e_count e_tool e_comes e_fears e_kind e_just])) (va_A (List.flatten ([cThieves a0 a1 a2 a3 a4 a5 C a_count a_tool a_comes a_fears a_kind a_just] ++ ([cThieves e0 e1 e2 e3 e4 e5 C e_count e_tool e_comes e_fears e_kind e_just]))) sz)) 0 0 (va_A (List.flatten ([cThieves a0 a1 a2 a3 a4 a5 C a_count a_tool a_comes a_fears a_kind a_just] ++ ([cThieves e0 e1 e2 e3 e4 e5 C e_count e_tool e_comes e_fears e_kind e_just]))) sz) := by
  refine cStart (QA := fun A => cQv D (fun (u : (Int32) × (Nat → Int32) × (Nat → Int32) × (Nat → Int32) × (Nat → Int32) × (Nat → Int32)) => post u.1 u.2.1 u.2.2.1 u.2.2.2.1 u.2.2.2.2.1 u.2.2.2.2.2) (fun u => [cThieves a0 a1 a2 a3 a4 a5 C u.1 u.2.1 u.2.2.1 u.2.2.2.1 u.2.2.2.2.1 u.2.2.2.2.2] ++ ([cThieves e0 e1 e2 e3 e4 e5 C e_count e_tool e_comes e_fears e_kind e_just])) A) (cc := cX9_copyFrom) (maxL := 2) (ret := none) (by decide) (Nat.le_of_ble_eq_true rfl) ?_
  intro p e s m args below meth c A ls hx hb hr hml hown hw hlocks hname hK hN hA hP hD hS hl
  generalize hQ : MQ below _ args s 0 0 A = Q
  have hl : lv_has ls 2 [(0, .ref a0), (1, .ref e0)] := hl
  obtain ⟨H, hH⟩ : ∃ H, H = s.heap := ⟨_, rfl⟩
  obtain ⟨locs, hlo⟩ : ∃ z : List Loc, z = [] := ⟨_, rfl⟩
  have hP : va_P D vwCl (List.flatten ([cThieves a0 a1 a2 a3 a4 a5 C a_count a_tool a_comes a_fears a_kind a_just] ++ ([cThieves e0 e1 e2 e3 e4 e5 C e_count e_tool e_comes e_fears e_kind e_just]))) H := by rw [hH]; exact hP
  have hS : va_S A s.heap H locs := by rw [hH, hlo]; exact hS
  rw [show W p l e rmX9_copyFrom s m args below meth c s.heap [] 0 0 Q (F0 m 0 ls []) = W p l e rmX9_copyFrom s m args below meth c H locs 0 0 Q (F0 m 0 ls []) from by rw [hH, hlo]]
  refine lv_aload_n hx hb dX9_copyFrom_0 rfl (lv_at hl 0 rfl) ?_
  refine lv_aload_n hx hb dX9_copyFrom_1 rfl (lv_at hl 1 rfl) ?_
  refine va_get (D := D) (ci := 9) (v := .int e_count) (C := RX9) (T := TX9) (N := 6) hx hb hw inW_X9 hown hK hP 6 rfl rfl 0 (by decide) (hw _ mw_1_174) (fun _ h9 => h9) rfl dX9_copyFrom_2 ?_
  refine va_put (D := D) (ci := 9) (v := .int e_count) (ty := .int) (C := RX9) (T := TX9) (N := 6) hx hb hw inW_X9 tyX9 tyX9_ok nmX9 hown hK hP hD hS 0 rfl rfl 0 (by decide) (hw _ mw_1_174) (fun _ h9 => h9) rfl (by decide +kernel) rfl rfl (Nat.le_of_ble_eq_true rfl) dX9_copyFrom_5 (fun H locs hP hD hS => ?_)
  refine lv_aload_n hx hb dX9_copyFrom_8 rfl (lv_at hl 1 rfl) ?_
  refine va_get (D := D) (ci := 9) (v := .ref e1) (C := RX9) (T := TX9) (N := 6) hx hb hw inW_X9 hown hK hP 6 rfl rfl 1 (by decide) (hw _ mw_1_179) (fun _ h9 => h9) rfl dX9_copyFrom_9 ?_
  refine lv_iconst (v := 0) hx hb dX9_copyFrom_12 (by decide) ?_
  refine lv_aload_n hx hb dX9_copyFrom_13 rfl (lv_at hl 0 rfl) ?_
  refine va_get (D := D) (ci := 9) (v := .ref a1) (C := RX9) (T := TX9) (N := 6) hx hb hw inW_X9 hown hK hP 0 rfl rfl 1 (by decide) (hw _ mw_1_179) (fun _ h9 => h9) rfl dX9_copyFrom_14 ?_
  refine lv_iconst (v := 0) hx hb dX9_copyFrom_17 (by decide) ?_
  refine lv_aload_n hx hb dX9_copyFrom_18 rfl (lv_at hl 0 rfl) ?_
  refine va_get (D := D) (ci := 9) (v := .ref a1) (C := RX9) (T := TX9) (N := 6) hx hb hw inW_X9 hown hK hP 0 rfl rfl 1 (by decide) (hw _ mw_1_179) (fun _ h9 => h9) rfl dX9_copyFrom_19 ?_
  refine va_alen (v := 6) hx hb hK hP 1 0 rfl rfl rfl dX9_copyFrom_22 ?_
  refine cCopyI hx hb (hml.trans hl.1.symm) hown (hw _ mw_3_148) (hw _ mw_3_133) (hw _ mw_3_132) (hw _ mw_1_19) hK hP hD hS 7 1 0 rfl rfl rfl 0 0 6 (by decide +kernel) (by decide +kernel) (by decide +kernel) (by decide) (by decide) (by decide) (by decide) (by decide) (Nat.le_of_ble_eq_true rfl) (Nat.le_of_ble_eq_true rfl) dX9_copyFrom_23 (fun H locs hP hD hS => ?_)
  refine lv_aload_n hx hb dX9_copyFrom_26 rfl (lv_at hl 1 rfl) ?_
  refine va_get (D := D) (ci := 9) (v := .ref e2) (C := RX9) (T := TX9) (N := 6) hx hb hw inW_X9 hown hK hP 6 rfl rfl 2 (by decide) (hw _ mw_1_181) (fun _ h9 => h9) rfl dX9_copyFrom_27 ?_
  refine lv_iconst (v := 0) hx hb dX9_copyFrom_30 (by decide) ?_
  refine lv_aload_n hx hb dX9_copyFrom_31 rfl (lv_at hl 0 rfl) ?_
  refine va_get (D := D) (ci := 9) (v := .ref a2) (C := RX9) (T := TX9) (N := 6) hx hb hw inW_X9 hown hK hP 0 rfl rfl 2 (by decide) (hw _ mw_1_181) (fun _ h9 => h9) rfl dX9_copyFrom_32 ?_
  refine lv_iconst (v := 0) hx hb dX9_copyFrom_35 (by decide) ?_
  refine lv_aload_n hx hb dX9_copyFrom_36 rfl (lv_at hl 0 rfl) ?_
  refine va_get (D := D) (ci := 9) (v := .ref a2) (C := RX9) (T := TX9) (N := 6) hx hb hw inW_X9 hown hK hP 0 rfl rfl 2 (by decide) (hw _ mw_1_181) (fun _ h9 => h9) rfl dX9_copyFrom_37 ?_
  refine va_alen (v := 6) hx hb hK hP 2 0 rfl rfl rfl dX9_copyFrom_40 ?_
  refine cCopyI hx hb (hml.trans hl.1.symm) hown (hw _ mw_3_148) (hw _ mw_3_133) (hw _ mw_3_132) (hw _ mw_1_19) hK hP hD hS 8 2 0 rfl rfl rfl 0 0 6 (by decide +kernel) (by decide +kernel) (by decide +kernel) (by decide) (by decide) (by decide) (by decide) (by decide) (Nat.le_of_ble_eq_true rfl) (Nat.le_of_ble_eq_true rfl) dX9_copyFrom_41 (fun H locs hP hD hS => ?_)
  refine lv_aload_n hx hb dX9_copyFrom_44 rfl (lv_at hl 1 rfl) ?_
  refine va_get (D := D) (ci := 9) (v := .ref e3) (C := RX9) (T := TX9) (N := 6) hx hb hw inW_X9 hown hK hP 6 rfl rfl 3 (by decide) (hw _ mw_1_183) (fun _ h9 => h9) rfl dX9_copyFrom_45 ?_
  refine lv_iconst (v := 0) hx hb dX9_copyFrom_48 (by decide) ?_
  refine lv_aload_n hx hb dX9_copyFrom_49 rfl (lv_at hl 0 rfl) ?_
  refine va_get (D := D) (ci := 9) (v := .ref a3) (C := RX9) (T := TX9) (N := 6) hx hb hw inW_X9 hown hK hP 0 rfl rfl 3 (by decide) (hw _ mw_1_183) (fun _ h9 => h9) rfl dX9_copyFrom_50 ?_
  refine lv_iconst (v := 0) hx hb dX9_copyFrom_53 (by decide) ?_
  refine lv_aload_n hx hb dX9_copyFrom_54 rfl (lv_at hl 0 rfl) ?_
  refine va_get (D := D) (ci := 9) (v := .ref a3) (C := RX9) (T := TX9) (N := 6) hx hb hw inW_X9 hown hK hP 0 rfl rfl 3 (by decide) (hw _ mw_1_183) (fun _ h9 => h9) rfl dX9_copyFrom_55 ?_
  refine va_alen (v := 6) hx hb hK hP 3 0 rfl rfl rfl dX9_copyFrom_58 ?_
  refine cCopyI hx hb (hml.trans hl.1.symm) hown (hw _ mw_3_148) (hw _ mw_3_133) (hw _ mw_3_132) (hw _ mw_1_19) hK hP hD hS 9 3 0 rfl rfl rfl 0 0 6 (by decide +kernel) (by decide +kernel) (by decide +kernel) (by decide) (by decide) (by decide) (by decide) (by decide) (Nat.le_of_ble_eq_true rfl) (Nat.le_of_ble_eq_true rfl) dX9_copyFrom_59 (fun H locs hP hD hS => ?_)
  refine lv_aload_n hx hb dX9_copyFrom_62 rfl (lv_at hl 1 rfl) ?_
  refine va_get (D := D) (ci := 9) (v := .ref e4) (C := RX9) (T := TX9) (N := 6) hx hb hw inW_X9 hown hK hP 6 rfl rfl 4 (by decide) (hw _ mw_1_185) (fun _ h9 => h9) rfl dX9_copyFrom_63 ?_
  refine lv_iconst (v := 0) hx hb dX9_copyFrom_66 (by decide) ?_
  refine lv_aload_n hx hb dX9_copyFrom_67 rfl (lv_at hl 0 rfl) ?_
  refine va_get (D := D) (ci := 9) (v := .ref a4) (C := RX9) (T := TX9) (N := 6) hx hb hw inW_X9 hown hK hP 0 rfl rfl 4 (by decide) (hw _ mw_1_185) (fun _ h9 => h9) rfl dX9_copyFrom_68 ?_
  refine lv_iconst (v := 0) hx hb dX9_copyFrom_71 (by decide) ?_
  refine lv_aload_n hx hb dX9_copyFrom_72 rfl (lv_at hl 0 rfl) ?_
  refine va_get (D := D) (ci := 9) (v := .ref a4) (C := RX9) (T := TX9) (N := 6) hx hb hw inW_X9 hown hK hP 0 rfl rfl 4 (by decide) (hw _ mw_1_185) (fun _ h9 => h9) rfl dX9_copyFrom_73 ?_
  refine va_alen (v := 6) hx hb hK hP 4 0 rfl rfl rfl dX9_copyFrom_76 ?_
  refine cCopyI hx hb (hml.trans hl.1.symm) hown (hw _ mw_3_148) (hw _ mw_3_133) (hw _ mw_3_132) (hw _ mw_1_19) hK hP hD hS 10 4 0 rfl rfl rfl 0 0 6 (by decide +kernel) (by decide +kernel) (by decide +kernel) (by decide) (by decide) (by decide) (by decide) (by decide) (Nat.le_of_ble_eq_true rfl) (Nat.le_of_ble_eq_true rfl) dX9_copyFrom_77 (fun H locs hP hD hS => ?_)
  refine lv_aload_n hx hb dX9_copyFrom_80 rfl (lv_at hl 1 rfl) ?_
  refine va_get (D := D) (ci := 9) (v := .ref e5) (C := RX9) (T := TX9) (N := 6) hx hb hw inW_X9 hown hK hP 6 rfl rfl 5 (by decide) (hw _ mw_1_187) (fun _ h9 => h9) rfl dX9_copyFrom_81 ?_
  refine lv_iconst (v := 0) hx hb dX9_copyFrom_84 (by decide) ?_
  refine lv_aload_n hx hb dX9_copyFrom_85 rfl (lv_at hl 0 rfl) ?_
  refine va_get (D := D) (ci := 9) (v := .ref a5) (C := RX9) (T := TX9) (N := 6) hx hb hw inW_X9 hown hK hP 0 rfl rfl 5 (by decide) (hw _ mw_1_187) (fun _ h9 => h9) rfl dX9_copyFrom_86 ?_
  refine lv_iconst (v := 0) hx hb dX9_copyFrom_89 (by decide) ?_
  refine lv_aload_n hx hb dX9_copyFrom_90 rfl (lv_at hl 0 rfl) ?_
  refine va_get (D := D) (ci := 9) (v := .ref a5) (C := RX9) (T := TX9) (N := 6) hx hb hw inW_X9 hown hK hP 0 rfl rfl 5 (by decide) (hw _ mw_1_187) (fun _ h9 => h9) rfl dX9_copyFrom_91 ?_
  refine va_alen (v := 6) hx hb hK hP 5 0 rfl rfl rfl dX9_copyFrom_94 ?_
  refine cCopyI hx hb (hml.trans hl.1.symm) hown (hw _ mw_3_148) (hw _ mw_3_133) (hw _ mw_3_132) (hw _ mw_1_19) hK hP hD hS 11 5 0 rfl rfl rfl 0 0 6 (by decide +kernel) (by decide +kernel) (by decide +kernel) (by decide) (by decide) (by decide) (by decide) (by decide) (Nat.le_of_ble_eq_true rfl) (Nat.le_of_ble_eq_true rfl) dX9_copyFrom_95 (fun H locs hP hD hS => ?_)
  have hP : va_P D vwCl (List.flatten ([cThieves a0 a1 a2 a3 a4 a5 C e_count (va_cpy e_tool a_tool 0 0 6) (va_cpy e_comes a_comes 0 0 6) (va_cpy e_fears a_fears 0 0 6) (va_cpy e_kind a_kind 0 0 6) (va_cpy e_just a_just 0 0 6)] ++ ([cThieves e0 e1 e2 e3 e4 e5 C e_count e_tool e_comes e_fears e_kind e_just]))) H := hP
  have hD : va_D A (List.flatten ([cThieves a0 a1 a2 a3 a4 a5 C e_count (va_cpy e_tool a_tool 0 0 6) (va_cpy e_comes a_comes 0 0 6) (va_cpy e_fears a_fears 0 0 6) (va_cpy e_kind a_kind 0 0 6) (va_cpy e_just a_just 0 0 6)] ++ ([cThieves e0 e1 e2 e3 e4 e5 C e_count e_tool e_comes e_fears e_kind e_just]))) := hD
  rw [← hQ]
  exact cRetV (e_count, (va_cpy e_tool a_tool 0 0 6), (va_cpy e_comes a_comes 0 0 6), (va_cpy e_fears a_fears 0 0 6), (va_cpy e_kind a_kind 0 0 6), (va_cpy e_just a_just 0 0 6)) hx hb hr hlocks hS hP hD h dX9_copyFrom_98
abbrev vsX10_copyFrom : List Cond := Cond.code yX10_copyFrom cX10_copyFrom 2 none :: WS
abbrev rmX10_copyFrom : Room := { frames := 1, cells := 0, slots := 0, locals := 40 }
set_option maxHeartbeats 4000000 in
set_option maxRecDepth 100000 in
theorem k_X10_copyFrom (l : Launch) (D : va_G) (C : Nat → ClassId) (sz : Nat) (a0 : Nat) (a1 : Nat) (a2 : Nat) (e0 : Nat) (e1 : Nat) (e2 : Nat)  (a_isThere : Int32) (a_taken : Nat → Int32) (a_took : Nat → Int32) (e_isThere : Int32) (e_taken : Nat → Int32) (e_took : Nat → Int32)  {post : (Int32) → (Nat → Int32) → (Nat → Int32) → Prop} (h : P_X10_copyFrom a_isThere a_taken a_took e_isThere e_taken e_took post) : Met l yX10_copyFrom vsX10_copyFrom rmX10_copyFrom (cPre D C [.ref a0, .ref e0] sz ([cYear a0 a1 a2 C a_isThere a_taken a_took] ++ ([cYear e0 e1 e2 C e_isThere e_taken e_took]))) (cQv D (fun (u : (Int32) × (Nat → Int32) × (Nat → Int32)) => post u.1 u.2.1 u.2.2) (fun u => [cYear a0 a1 a2 C u.1 u.2.1 u.2.2] ++ ([cYear e0 e1 e2 C e_isThere e_taken e_took])) (va_A (List.flatten ([cYear a0 a1 a2 C a_isThere a_taken a_took] ++ ([cYear e0 e1 e2 C e_isThere e_taken e_took]))) sz)) 0 0 (va_A (List.flatten ([cYear a0 a1 a2 C a_isThere a_taken a_took] ++ ([cYear e0 e1 e2 C e_isThere e_taken e_took]))) sz) := by
  refine cStart (QA := fun A => cQv D (fun (u : (Int32) × (Nat → Int32) × (Nat → Int32)) => post u.1 u.2.1 u.2.2) (fun u => [cYear a0 a1 a2 C u.1 u.2.1 u.2.2] ++ ([cYear e0 e1 e2 C e_isThere e_taken e_took])) A) (cc := cX10_copyFrom) (maxL := 2) (ret := none) (by decide) (Nat.le_of_ble_eq_true rfl) ?_
  intro p e s m args below meth c A ls hx hb hr hml hown hw hlocks hname hK hN hA hP hD hS hl
  generalize hQ : MQ below _ args s 0 0 A = Q
  have hl : lv_has ls 2 [(0, .ref a0), (1, .ref e0)] := hl
  obtain ⟨H, hH⟩ : ∃ H, H = s.heap := ⟨_, rfl⟩
  obtain ⟨locs, hlo⟩ : ∃ z : List Loc, z = [] := ⟨_, rfl⟩
  have hP : va_P D vwCl (List.flatten ([cYear a0 a1 a2 C a_isThere a_taken a_took] ++ ([cYear e0 e1 e2 C e_isThere e_taken e_took]))) H := by rw [hH]; exact hP
  have hS : va_S A s.heap H locs := by rw [hH, hlo]; exact hS
  rw [show W p l e rmX10_copyFrom s m args below meth c s.heap [] 0 0 Q (F0 m 0 ls []) = W p l e rmX10_copyFrom s m args below meth c H locs 0 0 Q (F0 m 0 ls []) from by rw [hH, hlo]]
  refine lv_aload_n hx hb dX10_copyFrom_0 rfl (lv_at hl 0 rfl) ?_
  refine lv_aload_n hx hb dX10_copyFrom_1 rfl (lv_at hl 1 rfl) ?_
  refine va_get (D := D) (ci := 10) (v := .int e_isThere) (C := RX10) (T := TX10) (N := 3) hx hb hw inW_X10 hown hK hP 3 rfl rfl 0 (by decide) (hw _ mw_1_208) (fun _ h9 => h9) rfl dX10_copyFrom_2 ?_
  refine va_put (D := D) (ci := 10) (v := .int e_isThere) (ty := .boolean) (C := RX10) (T := TX10) (N := 3) hx hb hw inW_X10 tyX10 tyX10_ok nmX10 hown hK hP hD hS 0 rfl rfl 0 (by decide) (hw _ mw_1_208) (fun _ h9 => h9) rfl (by decide +kernel) (zb_n h.1) (zb_f h.1) (Nat.le_of_ble_eq_true rfl) dX10_copyFrom_5 (fun H locs hP hD hS => ?_)
  have h := h.2
  refine lv_aload_n hx hb dX10_copyFrom_8 rfl (lv_at hl 1 rfl) ?_
  refine va_get (D := D) (ci := 10) (v := .ref e1) (C := RX10) (T := TX10) (N := 3) hx hb hw inW_X10 hown hK hP 3 rfl rfl 1 (by decide) (hw _ mw_1_211) (fun _ h9 => h9) rfl dX10_copyFrom_9 ?_
  refine lv_iconst (v := 0) hx hb dX10_copyFrom_12 (by decide) ?_
  refine lv_aload_n hx hb dX10_copyFrom_13 rfl (lv_at hl 0 rfl) ?_
  refine va_get (D := D) (ci := 10) (v := .ref a1) (C := RX10) (T := TX10) (N := 3) hx hb hw inW_X10 hown hK hP 0 rfl rfl 1 (by decide) (hw _ mw_1_211) (fun _ h9 => h9) rfl dX10_copyFrom_14 ?_
  refine lv_iconst (v := 0) hx hb dX10_copyFrom_17 (by decide) ?_
  refine lv_aload_n hx hb dX10_copyFrom_18 rfl (lv_at hl 0 rfl) ?_
  refine va_get (D := D) (ci := 10) (v := .ref a1) (C := RX10) (T := TX10) (N := 3) hx hb hw inW_X10 hown hK hP 0 rfl rfl 1 (by decide) (hw _ mw_1_211) (fun _ h9 => h9) rfl dX10_copyFrom_19 ?_
  refine va_alen (v := 10) hx hb hK hP 1 0 rfl rfl rfl dX10_copyFrom_22 ?_
  refine cCopyI hx hb (hml.trans hl.1.symm) hown (hw _ mw_3_153) (hw _ mw_3_133) (hw _ mw_3_132) (hw _ mw_1_19) hK hP hD hS 4 1 0 rfl rfl rfl 0 0 10 (by decide +kernel) (by decide +kernel) (by decide +kernel) (by decide) (by decide) (by decide) (by decide) (by decide) (Nat.le_of_ble_eq_true rfl) (Nat.le_of_ble_eq_true rfl) dX10_copyFrom_23 (fun H locs hP hD hS => ?_)
  refine lv_aload_n hx hb dX10_copyFrom_26 rfl (lv_at hl 1 rfl) ?_
  refine va_get (D := D) (ci := 10) (v := .ref e2) (C := RX10) (T := TX10) (N := 3) hx hb hw inW_X10 hown hK hP 3 rfl rfl 2 (by decide) (hw _ mw_1_215) (fun _ h9 => h9) rfl dX10_copyFrom_27 ?_
  refine lv_iconst (v := 0) hx hb dX10_copyFrom_30 (by decide) ?_
  refine lv_aload_n hx hb dX10_copyFrom_31 rfl (lv_at hl 0 rfl) ?_
  refine va_get (D := D) (ci := 10) (v := .ref a2) (C := RX10) (T := TX10) (N := 3) hx hb hw inW_X10 hown hK hP 0 rfl rfl 2 (by decide) (hw _ mw_1_215) (fun _ h9 => h9) rfl dX10_copyFrom_32 ?_
  refine lv_iconst (v := 0) hx hb dX10_copyFrom_35 (by decide) ?_
  refine lv_aload_n hx hb dX10_copyFrom_36 rfl (lv_at hl 0 rfl) ?_
  refine va_get (D := D) (ci := 10) (v := .ref a2) (C := RX10) (T := TX10) (N := 3) hx hb hw inW_X10 hown hK hP 0 rfl rfl 2 (by decide) (hw _ mw_1_215) (fun _ h9 => h9) rfl dX10_copyFrom_37 ?_
  refine va_alen (v := 6) hx hb hK hP 2 0 rfl rfl rfl dX10_copyFrom_40 ?_
  refine cCopyI hx hb (hml.trans hl.1.symm) hown (hw _ mw_3_153) (hw _ mw_3_133) (hw _ mw_3_132) (hw _ mw_1_19) hK hP hD hS 5 2 0 rfl rfl rfl 0 0 6 (by decide +kernel) (by decide +kernel) (by decide +kernel) (by decide) (by decide) (by decide) (by decide) (by decide) (Nat.le_of_ble_eq_true rfl) (Nat.le_of_ble_eq_true rfl) dX10_copyFrom_41 (fun H locs hP hD hS => ?_)
  have hP : va_P D vwCl (List.flatten ([cYear a0 a1 a2 C e_isThere (va_cpy e_taken a_taken 0 0 10) (va_cpy e_took a_took 0 0 6)] ++ ([cYear e0 e1 e2 C e_isThere e_taken e_took]))) H := hP
  have hD : va_D A (List.flatten ([cYear a0 a1 a2 C e_isThere (va_cpy e_taken a_taken 0 0 10) (va_cpy e_took a_took 0 0 6)] ++ ([cYear e0 e1 e2 C e_isThere e_taken e_took]))) := hD
  rw [← hQ]
  exact cRetV (e_isThere, (va_cpy e_taken a_taken 0 0 10), (va_cpy e_took a_took 0 0 6)) hx hb hr hlocks hS hP hD h dX10_copyFrom_44
abbrev vsX0_markedOnes : List Cond := Cond.code yX0_markedOnes cX0_markedOnes 3 (some .int) :: WS
abbrev rmX0_markedOnes : Room := { frames := 0, cells := 0, slots := 0, locals := 0 }
set_option maxHeartbeats 4000000 in
set_option maxRecDepth 100000 in
theorem k_X0_markedOnes (l : Launch) (D : va_G) (C : Nat → ClassId) (sz : Nat) (a0 : Nat) (a1 : Nat) (a2 : Nat) (a3 : Nat) (a4 : Nat) (a5 : Nat)  (a_count : Int32) (a_worth : Nat → Int32) (a_seems : Nat → Int32) (a_place : Nat → Int32) (a_lock : Nat → Int32) (a_marked : Nat → Int32)  {post : Int32 → Prop} (h : P_X0_markedOnes a_count a_marked post) : Met l yX0_markedOnes vsX0_markedOnes rmX0_markedOnes (cPre D C [.ref a0] sz ([cBikes a0 a1 a2 a3 a4 a5 C a_count a_worth a_seems a_place a_lock a_marked])) (cQi D (fun (r : Int32) (u : Unit) => post r ) (fun u => [cBikes a0 a1 a2 a3 a4 a5 C a_count a_worth a_seems a_place a_lock a_marked]) (va_A (List.flatten ([cBikes a0 a1 a2 a3 a4 a5 C a_count a_worth a_seems a_place a_lock a_marked])) sz)) 0 0 (va_A (List.flatten ([cBikes a0 a1 a2 a3 a4 a5 C a_count a_worth a_seems a_place a_lock a_marked])) sz) := by
  refine cStart (QA := fun A => cQi D (fun (r : Int32) (u : Unit) => post r ) (fun u => [cBikes a0 a1 a2 a3 a4 a5 C a_count a_worth a_seems a_place a_lock a_marked]) A) (cc := cX0_markedOnes) (maxL := 3) (ret := (some .int)) (by decide) (Nat.le_of_ble_eq_true rfl) ?_
  intro p e s m args below meth c A ls hx hb hr hml hown hw hlocks hname hK hN hA hP hD hS hl
  generalize hQ : MQ below _ args s 0 0 A = Q
  have hl : lv_has ls 3 [(0, .ref a0)] := hl
  obtain ⟨H, hH⟩ : ∃ H, H = s.heap := ⟨_, rfl⟩
  obtain ⟨locs, hlo⟩ : ∃ z : List Loc, z = [] := ⟨_, rfl⟩
  have hP : va_P D vwCl (List.flatten ([cBikes a0 a1 a2 a3 a4 a5 C a_count a_worth a_seems a_place a_lock a_marked])) H := by rw [hH]; exact hP
  have hS : va_S A s.heap H locs := by rw [hH, hlo]; exact hS
  rw [show W p l e rmX0_markedOnes s m args below meth c s.heap [] 0 0 Q (F0 m 0 ls []) = W p l e rmX0_markedOnes s m args below meth c H locs 0 0 Q (F0 m 0 ls []) from by rw [hH, hlo]]
  have N4 : ∀  (n4 : Nat) (x1_ : Int32) (x2_ : Int32) (H : Heap) (locs : List Loc) (ls : Array Slot), P_X0_markedOnes_4 a_count a_marked post   n4 x1_ x2_ → va_P D vwCl (List.flatten ([cBikes a0 a1 a2 a3 a4 a5 C a_count a_worth a_seems a_place a_lock a_marked])) H → va_D A (List.flatten ([cBikes a0 a1 a2 a3 a4 a5 C a_count a_worth a_seems a_place a_lock a_marked])) → va_S A s.heap H locs → lv_has ls 3 [(0, .ref a0), (1, .int x1_), (2, .int x2_)] → W p l e rmX0_markedOnes s m args below meth c H locs 0 0 Q (F0 m 4 ls []) := by
    intro n4
    induction n4 with
    | zero => intro x1_ x2_ H locs ls h hP hD hS hl; exact False.elim h
    | succ n4 ih4 =>
      intro x1_ x2_ H locs ls h hP hD hS hl
      refine lv_iload_n hx hb dX0_markedOnes_4 rfl (lv_at hl 2 rfl) ?_
      refine lv_aload_n hx hb dX0_markedOnes_5 rfl (lv_at hl 0 rfl) ?_
      refine va_get (D := D) (ci := 0) (v := .int a_count) (C := RX0) (T := TX0) (N := 6) hx hb hw inW_X0 hown hK hP 0 rfl rfl 0 (by decide) (hw _ mw_1_133) (fun _ h9 => h9) rfl dX0_markedOnes_6 ?_
      refine lv_icmp_ge (tgt := 30) hx hb dX0_markedOnes_9 (by decide) (fun c1 => ?_) (fun c1 => ?_)
      · have h := h.1 c1
        refine lv_iload_n hx hb dX0_markedOnes_30 rfl (lv_at hl 1 rfl) ?_
        rw [← hQ]
        exact cRetI (v := x1_) () hx hb hr hlocks hS hP hD h dX0_markedOnes_31
      · have h := h.2 c1
        refine lv_aload_n hx hb dX0_markedOnes_12 rfl (lv_at hl 0 rfl) ?_
        refine va_get (D := D) (ci := 0) (v := .ref a5) (C := RX0) (T := TX0) (N := 6) hx hb hw inW_X0 hown hK hP 0 rfl rfl 5 (by decide) (hw _ mw_1_151) (fun _ h9 => h9) rfl dX0_markedOnes_13 ?_
        refine lv_iload_n hx hb dX0_markedOnes_16 rfl (lv_at hl 2 rfl) ?_
        refine cZald hx hb hK hP 5 3 rfl rfl x2_.toNatClampNeg rfl h.1 dX0_markedOnes_17 ?_
        have h := h.2
        refine lv_if_eq (tgt := 24) hx hb dX0_markedOnes_18 (by decide) (fun c2 => ?_) (fun c2 => ?_)
        · have h := h.1 c2
          refine lv_iinc (v := (x2_ + 1)) (lv' := [(2, .int (x2_ + 1)), (0, .ref a0), (1, .int x1_)]) hx hb dX0_markedOnes_24 hl (k := 2) rfl rfl (by decide) rfl (fun ls hl => ?_)
          refine lv_goto (tgt := 4) hx hb dX0_markedOnes_27 (by decide) ?_
          exact ih4 x1_ (x2_ + 1) _ _ _ h hP hD hS (lv_sub hl [1, 2, 0] rfl)
        · have h := h.2 c2
          refine lv_iinc (v := (x1_ + 1)) (lv' := [(1, .int (x1_ + 1)), (0, .ref a0), (2, .int x2_)]) hx hb dX0_markedOnes_21 hl (k := 1) rfl rfl (by decide) rfl (fun ls hl => ?_)
          refine lv_iinc (v := (x2_ + 1)) (lv' := [(2, .int (x2_ + 1)), (1, .int (x1_ + 1)), (0, .ref a0)]) hx hb dX0_markedOnes_24 hl (k := 2) rfl rfl (by decide) rfl (fun ls hl => ?_)
          refine lv_goto (tgt := 4) hx hb dX0_markedOnes_27 (by decide) ?_
          exact ih4 (x1_ + 1) (x2_ + 1) _ _ _ h hP hD hS (lv_sub hl [2, 1, 0] rfl)
  refine lv_iconst (v := 0) hx hb dX0_markedOnes_0 (by decide) ?_
  refine lv_istore_n (lv' := [(1, .int 0), (0, .ref a0)]) hx hb dX0_markedOnes_1 rfl hl (by decide) rfl (fun ls hl => ?_)
  refine lv_iconst (v := 0) hx hb dX0_markedOnes_2 (by decide) ?_
  refine lv_istore_n (lv' := [(2, .int 0), (1, .int 0), (0, .ref a0)]) hx hb dX0_markedOnes_3 rfl hl (by decide) rfl (fun ls hl => ?_)
  obtain ⟨n, h⟩ := h
  exact N4  n 0 0 _ _ _ h hP hD hS (lv_sub hl [2, 1, 0] rfl)
abbrev vsX7_wipe : List Cond := Cond.code yX7_wipe cX7_wipe 2 none :: WS
abbrev rmX7_wipe : Room := { frames := 0, cells := 0, slots := 0, locals := 0 }
set_option maxHeartbeats 4000000 in
set_option maxRecDepth 100000 in
theorem k_X7_wipe (l : Launch) (D : va_G) (C : Nat → ClassId) (sz : Nat) (a0 : Nat) (a1 : Nat) (a2 : Nat) (a3 : Nat) (a4 : Nat)  (a_size : Int32) (a_states : Nat → Int32) (a_parts : Nat → Int64) (a_slotOf : Nat → Int32) (a_table : Nat → Int32)  {post : (Int32) → (Nat → Int32) → Prop} (h : P_X7_wipe a_size a_slotOf a_table post) : Met l yX7_wipe vsX7_wipe rmX7_wipe (cPre D C [.ref a0] sz ([cSpread a0 a1 a2 a3 a4 C a_size a_states a_parts a_slotOf a_table])) (cQv D (fun (u : (Int32) × (Nat → Int32)) => post u.1 u.2) (fun u => [cSpread a0 a1 a2 a3 a4 C u.1 a_states a_parts a_slotOf u.2]) (va_A (List.flatten ([cSpread a0 a1 a2 a3 a4 C a_size a_states a_parts a_slotOf a_table])) sz)) 0 0 (va_A (List.flatten ([cSpread a0 a1 a2 a3 a4 C a_size a_states a_parts a_slotOf a_table])) sz) := by
  refine cStart (QA := fun A => cQv D (fun (u : (Int32) × (Nat → Int32)) => post u.1 u.2) (fun u => [cSpread a0 a1 a2 a3 a4 C u.1 a_states a_parts a_slotOf u.2]) A) (cc := cX7_wipe) (maxL := 2) (ret := none) (by decide) (Nat.le_of_ble_eq_true rfl) ?_
  intro p e s m args below meth c A ls hx hb hr hml hown hw hlocks hname hK hN hA hP hD hS hl
  generalize hQ : MQ below _ args s 0 0 A = Q
  have hl : lv_has ls 2 [(0, .ref a0)] := hl
  obtain ⟨H, hH⟩ : ∃ H, H = s.heap := ⟨_, rfl⟩
  obtain ⟨locs, hlo⟩ : ∃ z : List Loc, z = [] := ⟨_, rfl⟩
  have hP : va_P D vwCl (List.flatten ([cSpread a0 a1 a2 a3 a4 C a_size a_states a_parts a_slotOf a_table])) H := by rw [hH]; exact hP
  have hS : va_S A s.heap H locs := by rw [hH, hlo]; exact hS
  rw [show W p l e rmX7_wipe s m args below meth c s.heap [] 0 0 Q (F0 m 0 ls []) = W p l e rmX7_wipe s m args below meth c H locs 0 0 Q (F0 m 0 ls []) from by rw [hH, hlo]]
  have N2 : ∀ (a_size : Int32) (n2 : Nat) (x1_ : Int32) (a_table : Nat → Int32) (H : Heap) (locs : List Loc) (ls : Array Slot), P_X7_wipe_2 a_slotOf post  a_size n2 x1_ a_table → va_P D vwCl (List.flatten ([cSpread a0 a1 a2 a3 a4 C a_size a_states a_parts a_slotOf a_table])) H → va_D A (List.flatten ([cSpread a0 a1 a2 a3 a4 C a_size a_states a_parts a_slotOf a_table])) → va_S A s.heap H locs → lv_has ls 2 [(0, .ref a0), (1, .int x1_)] → W p l e rmX7_wipe s m args below meth c H locs 0 0 Q (F0 m 2 ls []) := by
    intro a_size
    intro n2
    induction n2 with
    | zero => intro x1_ a_table H locs ls h hP hD hS hl; exact False.elim h
    | succ n2 ih2 =>
      intro x1_ a_table H locs ls h hP hD hS hl
      refine lv_iload_n hx hb dX7_wipe_2 rfl (lv_at hl 1 rfl) ?_
      refine lv_aload_n hx hb dX7_wipe_3 rfl (lv_at hl 0 rfl) ?_
      refine va_get (D := D) (ci := 7) (v := .int a_size) (C := RX7) (T := TX7) (N := 5) hx hb hw inW_X7 hown hK hP 0 rfl rfl 0 (by decide) (hw _ mw_2_91) (fun _ h9 => h9) rfl dX7_wipe_4 ?_
      refine lv_icmp_ge (tgt := 28) hx hb dX7_wipe_7 (by decide) (fun c1 => ?_) (fun c1 => ?_)
      · have h := h.1 c1
        refine lv_aload_n hx hb dX7_wipe_28 rfl (lv_at hl 0 rfl) ?_
        refine lv_iconst (v := 0) hx hb dX7_wipe_29 (by decide) ?_
        refine va_put (D := D) (ci := 7) (v := .int 0) (ty := .int) (C := RX7) (T := TX7) (N := 5) hx hb hw inW_X7 tyX7 tyX7_ok nmX7 hown hK hP hD hS 0 rfl rfl 0 (by decide) (hw _ mw_2_91) (fun _ h9 => h9) rfl (by decide +kernel) rfl rfl (Nat.le_of_ble_eq_true rfl) dX7_wipe_30 (fun H locs hP hD hS => ?_)
        have hP : va_P D vwCl (List.flatten ([cSpread a0 a1 a2 a3 a4 C 0 a_states a_parts a_slotOf a_table])) H := hP
        have hD : va_D A (List.flatten ([cSpread a0 a1 a2 a3 a4 C 0 a_states a_parts a_slotOf a_table])) := hD
        rw [← hQ]
        exact cRetV (0, a_table) hx hb hr hlocks hS hP hD h dX7_wipe_33
      · have h := h.2 c1
        refine lv_aload_n hx hb dX7_wipe_10 rfl (lv_at hl 0 rfl) ?_
        refine va_get (D := D) (ci := 7) (v := .ref a4) (C := RX7) (T := TX7) (N := 5) hx hb hw inW_X7 hown hK hP 0 rfl rfl 4 (by decide) (hw _ mw_2_98) (fun _ h9 => h9) rfl dX7_wipe_11 ?_
        refine lv_aload_n hx hb dX7_wipe_14 rfl (lv_at hl 0 rfl) ?_
        refine va_get (D := D) (ci := 7) (v := .ref a3) (C := RX7) (T := TX7) (N := 5) hx hb hw inW_X7 hown hK hP 0 rfl rfl 3 (by decide) (hw _ mw_2_97) (fun _ h9 => h9) rfl dX7_wipe_15 ?_
        refine lv_iload_n hx hb dX7_wipe_18 rfl (lv_at hl 1 rfl) ?_
        refine cIald hx hb hK hP 3 0 rfl rfl x1_.toNatClampNeg rfl h.1 dX7_wipe_19 ?_
        have h := h.2
        refine lv_iconst (v := 0) hx hb dX7_wipe_20 (by decide) ?_
        refine cIast hx hb hK hP hD hS 4 0 rfl rfl ((a_slotOf x1_.toNatClampNeg).toNatClampNeg) rfl h.1 dX7_wipe_21 (fun H locs hP hD hS => ?_)
        have h := h.2
        refine lv_iinc (v := (x1_ + 1)) (lv' := [(1, .int (x1_ + 1)), (0, .ref a0)]) hx hb dX7_wipe_22 hl (k := 1) rfl rfl (by decide) rfl (fun ls hl => ?_)
        refine lv_goto (tgt := 2) hx hb dX7_wipe_25 (by decide) ?_
        have hP : va_P D vwCl (List.flatten ([cSpread a0 a1 a2 a3 a4 C a_size a_states a_parts a_slotOf (upd a_table ((a_slotOf x1_.toNatClampNeg).toNatClampNeg) 0)])) H := hP
        have hD : va_D A (List.flatten ([cSpread a0 a1 a2 a3 a4 C a_size a_states a_parts a_slotOf (upd a_table ((a_slotOf x1_.toNatClampNeg).toNatClampNeg) 0)])) := hD
        exact ih2 (x1_ + 1) (upd a_table ((a_slotOf x1_.toNatClampNeg).toNatClampNeg) 0) _ _ _ h hP hD hS (lv_sub hl [1, 0] rfl)
  refine lv_iconst (v := 0) hx hb dX7_wipe_0 (by decide) ?_
  refine lv_istore_n (lv' := [(1, .int 0), (0, .ref a0)]) hx hb dX7_wipe_1 rfl hl (by decide) rfl (fun ls hl => ?_)
  obtain ⟨n, h⟩ := h
  exact N2 a_size n 0 a_table _ _ _ h hP hD hS (lv_sub hl [1, 0] rfl)
abbrev vsX7_put : List Cond := Cond.code yX7_put cX7_put 7 none :: WS
abbrev rmX7_put : Room := { frames := 0, cells := 0, slots := 0, locals := 0 }
set_option maxHeartbeats 4000000 in
set_option maxRecDepth 100000 in
theorem k_X7_put (l : Launch) (D : va_G) (C : Nat → ClassId) (sz : Nat) (a0 : Nat) (a1 : Nat) (a2 : Nat) (a3 : Nat) (a4 : Nat)  (a_size : Int32) (a_states : Nat → Int32) (a_parts : Nat → Int64) (a_slotOf : Nat → Int32) (a_table : Nat → Int32) (p1 : Int32) (p2 : Int64) {post : (Int32) → (Nat → Int32) → (Nat → Int64) → (Nat → Int32) → (Nat → Int32) → Prop} (h : P_X7_put a_size a_states a_parts a_slotOf a_table p1 p2 post) : Met l yX7_put vsX7_put rmX7_put (cPre D C [.ref a0, .int p1, .long p2] sz ([cSpread a0 a1 a2 a3 a4 C a_size a_states a_parts a_slotOf a_table])) (cQv D (fun (u : (Int32) × (Nat → Int32) × (Nat → Int64) × (Nat → Int32) × (Nat → Int32)) => post u.1 u.2.1 u.2.2.1 u.2.2.2.1 u.2.2.2.2) (fun u => [cSpread a0 a1 a2 a3 a4 C u.1 u.2.1 u.2.2.1 u.2.2.2.1 u.2.2.2.2]) (va_A (List.flatten ([cSpread a0 a1 a2 a3 a4 C a_size a_states a_parts a_slotOf a_table])) sz)) 0 0 (va_A (List.flatten ([cSpread a0 a1 a2 a3 a4 C a_size a_states a_parts a_slotOf a_table])) sz) := by
  refine cStart (QA := fun A => cQv D (fun (u : (Int32) × (Nat → Int32) × (Nat → Int64) × (Nat → Int32) × (Nat → Int32)) => post u.1 u.2.1 u.2.2.1 u.2.2.2.1 u.2.2.2.2) (fun u => [cSpread a0 a1 a2 a3 a4 C u.1 u.2.1 u.2.2.1 u.2.2.2.1 u.2.2.2.2]) A) (cc := cX7_put) (maxL := 7) (ret := none) (by decide) (Nat.le_of_ble_eq_true rfl) ?_
  intro p e s m args below meth c A ls hx hb hr hml hown hw hlocks hname hK hN hA hP hD hS hl
  generalize hQ : MQ below _ args s 0 0 A = Q
  have hl : lv_has ls 7 [(0, .ref a0), (1, .int p1), (2, .long p2)] := hl
  obtain ⟨H, hH⟩ : ∃ H, H = s.heap := ⟨_, rfl⟩
  obtain ⟨locs, hlo⟩ : ∃ z : List Loc, z = [] := ⟨_, rfl⟩
  have hP : va_P D vwCl (List.flatten ([cSpread a0 a1 a2 a3 a4 C a_size a_states a_parts a_slotOf a_table])) H := by rw [hH]; exact hP
  have hS : va_S A s.heap H locs := by rw [hH, hlo]; exact hS
  rw [show W p l e rmX7_put s m args below meth c s.heap [] 0 0 Q (F0 m 0 ls []) = W p l e rmX7_put s m args below meth c H locs 0 0 Q (F0 m 0 ls []) from by rw [hH, hlo]]
  have N87 : ∀ (x4_ : Int32) (a_size : Int32) (a_states : Nat → Int32) (a_parts : Nat → Int64) (a_slotOf : Nat → Int32) (a_table : Nat → Int32) (H : Heap) (locs : List Loc) (ls : Array Slot), P_X7_put_87 p1 p2 post  x4_ a_size a_states a_parts a_slotOf a_table → va_P D vwCl (List.flatten ([cSpread a0 a1 a2 a3 a4 C a_size a_states a_parts a_slotOf a_table])) H → va_D A (List.flatten ([cSpread a0 a1 a2 a3 a4 C a_size a_states a_parts a_slotOf a_table])) → va_S A s.heap H locs → lv_has ls 7 [(0, .ref a0), (1, .int p1), (2, .long p2), (4, .int x4_)] → W p l e rmX7_put s m args below meth c H locs 0 0 Q (F0 m 87 ls []) := by
    intro x4_ a_size a_states a_parts a_slotOf a_table H locs ls h hP hD hS hl
    refine lv_aload_n hx hb dX7_put_87 rfl (lv_at hl 0 rfl) ?_
    refine va_get (D := D) (ci := 7) (v := .int a_size) (C := RX7) (T := TX7) (N := 5) hx hb hw inW_X7 hown hK hP 0 rfl rfl 0 (by decide) (hw _ mw_2_91) (fun _ h9 => h9) rfl dX7_put_88 ?_
    refine lv_sipush (v := 1536) hx hb dX7_put_91 (by decide) ?_
    refine lv_icmp_ge (tgt := 149) hx hb dX7_put_94 (by decide) (fun c1 => ?_) (fun c1 => ?_)
    · have h := h.1 c1
      rw [← hQ]
      exact cRetV (a_size, a_states, a_parts, a_slotOf, a_table) hx hb hr hlocks hS hP hD h dX7_put_149
    · have h := h.2 c1
      refine lv_aload_n hx hb dX7_put_97 rfl (lv_at hl 0 rfl) ?_
      refine va_get (D := D) (ci := 7) (v := .ref a1) (C := RX7) (T := TX7) (N := 5) hx hb hw inW_X7 hown hK hP 0 rfl rfl 1 (by decide) (hw _ mw_2_93) (fun _ h9 => h9) rfl dX7_put_98 ?_
      refine lv_aload_n hx hb dX7_put_101 rfl (lv_at hl 0 rfl) ?_
      refine va_get (D := D) (ci := 7) (v := .int a_size) (C := RX7) (T := TX7) (N := 5) hx hb hw inW_X7 hown hK hP 0 rfl rfl 0 (by decide) (hw _ mw_2_91) (fun _ h9 => h9) rfl dX7_put_102 ?_
      refine lv_iload_n hx hb dX7_put_105 rfl (lv_at hl 1 rfl) ?_
      refine cIast hx hb hK hP hD hS 1 0 rfl rfl a_size.toNatClampNeg rfl h.1 dX7_put_106 (fun H locs hP hD hS => ?_)
      have h := h.2
      refine lv_aload_n hx hb dX7_put_107 rfl (lv_at hl 0 rfl) ?_
      refine va_get (D := D) (ci := 7) (v := .ref a2) (C := RX7) (T := TX7) (N := 5) hx hb hw inW_X7 hown hK hP 0 rfl rfl 2 (by decide) (hw _ mw_2_95) (fun _ h9 => h9) rfl dX7_put_108 ?_
      refine lv_aload_n hx hb dX7_put_111 rfl (lv_at hl 0 rfl) ?_
      refine va_get (D := D) (ci := 7) (v := .int a_size) (C := RX7) (T := TX7) (N := 5) hx hb hw inW_X7 hown hK hP 0 rfl rfl 0 (by decide) (hw _ mw_2_91) (fun _ h9 => h9) rfl dX7_put_112 ?_
      refine lv_lload_n hx hb dX7_put_115 rfl (lv_at hl 2 rfl) ?_
      refine cLast hx hb hK hP hD hS 2 1 rfl rfl a_size.toNatClampNeg rfl h.1 dX7_put_116 (fun H locs hP hD hS => ?_)
      have h := h.2
      refine lv_aload_n hx hb dX7_put_117 rfl (lv_at hl 0 rfl) ?_
      refine va_get (D := D) (ci := 7) (v := .ref a3) (C := RX7) (T := TX7) (N := 5) hx hb hw inW_X7 hown hK hP 0 rfl rfl 3 (by decide) (hw _ mw_2_97) (fun _ h9 => h9) rfl dX7_put_118 ?_
      refine lv_aload_n hx hb dX7_put_121 rfl (lv_at hl 0 rfl) ?_
      refine va_get (D := D) (ci := 7) (v := .int a_size) (C := RX7) (T := TX7) (N := 5) hx hb hw inW_X7 hown hK hP 0 rfl rfl 0 (by decide) (hw _ mw_2_91) (fun _ h9 => h9) rfl dX7_put_122 ?_
      refine lv_iload hx hb dX7_put_125 (lv_at hl 3 rfl) ?_
      refine cIast hx hb hK hP hD hS 3 0 rfl rfl a_size.toNatClampNeg rfl h.1 dX7_put_127 (fun H locs hP hD hS => ?_)
      have h := h.2
      refine lv_aload_n hx hb dX7_put_128 rfl (lv_at hl 0 rfl) ?_
      refine lv_dup hx hb dX7_put_129 rfl ?_
      refine va_get (D := D) (ci := 7) (v := .int a_size) (C := RX7) (T := TX7) (N := 5) hx hb hw inW_X7 hown hK hP 0 rfl rfl 0 (by decide) (hw _ mw_2_91) (fun _ h9 => h9) rfl dX7_put_130 ?_
      refine lv_iconst (v := 1) hx hb dX7_put_133 (by decide) ?_
      refine lv_iadd hx hb dX7_put_134 ?_
      refine lv_topi (fun x2 ex2 => ?_)
      have h := h x2 ex2
      refine va_put (D := D) (ci := 7) (v := .int x2) (ty := .int) (C := RX7) (T := TX7) (N := 5) hx hb hw inW_X7 tyX7 tyX7_ok nmX7 hown hK hP hD hS 0 rfl rfl 0 (by decide) (hw _ mw_2_91) (fun _ h9 => h9) rfl (by decide +kernel) rfl rfl (Nat.le_of_ble_eq_true rfl) dX7_put_135 (fun H locs hP hD hS => ?_)
      refine lv_aload_n hx hb dX7_put_138 rfl (lv_at hl 0 rfl) ?_
      refine va_get (D := D) (ci := 7) (v := .ref a4) (C := RX7) (T := TX7) (N := 5) hx hb hw inW_X7 hown hK hP 0 rfl rfl 4 (by decide) (hw _ mw_2_98) (fun _ h9 => h9) rfl dX7_put_139 ?_
      refine lv_iload hx hb dX7_put_142 (lv_at hl 3 rfl) ?_
      refine lv_aload_n hx hb dX7_put_144 rfl (lv_at hl 0 rfl) ?_
      refine va_get (D := D) (ci := 7) (v := .int x2) (C := RX7) (T := TX7) (N := 5) hx hb hw inW_X7 hown hK hP 0 rfl rfl 0 (by decide) (hw _ mw_2_91) (fun _ h9 => h9) rfl dX7_put_145 ?_
      refine cIast hx hb hK hP hD hS 4 0 rfl rfl x4_.toNatClampNeg rfl h.1 dX7_put_148 (fun H locs hP hD hS => ?_)
      have h := h.2
      have hP : va_P D vwCl (List.flatten ([cSpread a0 a1 a2 a3 a4 C x2 (upd a_states a_size.toNatClampNeg p1) (vp_updL a_parts a_size.toNatClampNeg p2) (upd a_slotOf a_size.toNatClampNeg x4_) (upd a_table x4_.toNatClampNeg x2)])) H := hP
      have hD : va_D A (List.flatten ([cSpread a0 a1 a2 a3 a4 C x2 (upd a_states a_size.toNatClampNeg p1) (vp_updL a_parts a_size.toNatClampNeg p2) (upd a_slotOf a_size.toNatClampNeg x4_) (upd a_table x4_.toNatClampNeg x2)])) := hD
      rw [← hQ]
      exact cRetV (x2, (upd a_states a_size.toNatClampNeg p1), (vp_updL a_parts a_size.toNatClampNeg p2), (upd a_slotOf a_size.toNatClampNeg x4_), (upd a_table x4_.toNatClampNeg x2)) hx hb hr hlocks hS hP hD h dX7_put_149
  have N19 : ∀ (a_size : Int32) (a_states : Nat → Int32) (a_parts : Nat → Int64) (a_slotOf : Nat → Int32) (a_table : Nat → Int32) (n19 : Nat) (x4_ : Int32) (x5_ : Int32) (H : Heap) (locs : List Loc) (ls : Array Slot), P_X7_put_19 p1 p2 post (fun (x4_ : Int32) (a_size : Int32) (a_states : Nat → Int32) (a_parts : Nat → Int64) (a_slotOf : Nat → Int32) (a_table : Nat → Int32) => P_X7_put_87 p1 p2 post  x4_ a_size a_states a_parts a_slotOf a_table) a_size a_states a_parts a_slotOf a_table n19 x4_ x5_ → va_P D vwCl (List.flatten ([cSpread a0 a1 a2 a3 a4 C a_size a_states a_parts a_slotOf a_table])) H → va_D A (List.flatten ([cSpread a0 a1 a2 a3 a4 C a_size a_states a_parts a_slotOf a_table])) → va_S A s.heap H locs → lv_has ls 7 [(0, .ref a0), (1, .int p1), (2, .long p2), (4, .int x4_), (5, .int x5_)] → W p l e rmX7_put s m args below meth c H locs 0 0 Q (F0 m 19 ls []) := by
    intro a_size a_states a_parts a_slotOf a_table
    intro n19
    induction n19 with
    | zero => intro x4_ x5_ H locs ls h hP hD hS hl; exact False.elim h
    | succ n19 ih19 =>
      intro x4_ x5_ H locs ls h hP hD hS hl
      refine lv_iload hx hb dX7_put_19 (lv_at hl 4 rfl) ?_
      refine lv_sipush (v := 4096) hx hb dX7_put_21 (by decide) ?_
      refine lv_icmp_ge (tgt := 87) hx hb dX7_put_24 (by decide) (fun c3 => ?_) (fun c3 => ?_)
      · have h := h.1 c3
        exact N87 x4_ a_size a_states a_parts a_slotOf a_table _ _ _ h hP hD hS (lv_sub hl [0, 1, 2, 3] rfl)
      · have h := h.2 c3
        refine lv_aload_n hx hb dX7_put_27 rfl (lv_at hl 0 rfl) ?_
        refine va_get (D := D) (ci := 7) (v := .ref a4) (C := RX7) (T := TX7) (N := 5) hx hb hw inW_X7 hown hK hP 0 rfl rfl 4 (by decide) (hw _ mw_2_98) (fun _ h9 => h9) rfl dX7_put_28 ?_
        refine lv_iload hx hb dX7_put_31 (lv_at hl 3 rfl) ?_
        refine cIald hx hb hK hP 4 0 rfl rfl x4_.toNatClampNeg rfl h.1 dX7_put_33 ?_
        have h := h.2
        refine lv_if_eq (tgt := 87) hx hb dX7_put_34 (by decide) (fun c4 => ?_) (fun c4 => ?_)
        · have h := h.1 c4
          exact N87 x4_ a_size a_states a_parts a_slotOf a_table _ _ _ h hP hD hS (lv_sub hl [0, 1, 2, 3] rfl)
        · have h := h.2 c4
          refine lv_aload_n hx hb dX7_put_37 rfl (lv_at hl 0 rfl) ?_
          refine va_get (D := D) (ci := 7) (v := .ref a4) (C := RX7) (T := TX7) (N := 5) hx hb hw inW_X7 hown hK hP 0 rfl rfl 4 (by decide) (hw _ mw_2_98) (fun _ h9 => h9) rfl dX7_put_38 ?_
          refine lv_iload hx hb dX7_put_41 (lv_at hl 3 rfl) ?_
          refine cIald hx hb hK hP 4 0 rfl rfl x4_.toNatClampNeg rfl h.1 dX7_put_43 ?_
          have h := h.2
          refine lv_iconst (v := 1) hx hb dX7_put_44 (by decide) ?_
          refine lv_isub hx hb dX7_put_45 ?_
          refine lv_topi (fun x5 ex5 => ?_)
          have h := h x5 ex5
          refine lv_istore (lv' := [(6, .int x5), (0, .ref a0), (1, .int p1), (2, .long p2), (4, .int x4_), (5, .int x5_)]) hx hb dX7_put_46 hl (by decide) rfl (fun ls hl => ?_)
          refine lv_aload_n hx hb dX7_put_48 rfl (lv_at hl 1 rfl) ?_
          refine va_get (D := D) (ci := 7) (v := .ref a1) (C := RX7) (T := TX7) (N := 5) hx hb hw inW_X7 hown hK hP 0 rfl rfl 1 (by decide) (hw _ mw_2_93) (fun _ h9 => h9) rfl dX7_put_49 ?_
          refine lv_iload hx hb dX7_put_52 (lv_at hl 0 rfl) ?_
          refine cIald hx hb hK hP 1 0 rfl rfl x5.toNatClampNeg rfl h.1 dX7_put_54 ?_
          have h := h.2
          refine lv_iload_n hx hb dX7_put_55 rfl (lv_at hl 2 rfl) ?_
          refine lv_icmp_ne (tgt := 71) hx hb dX7_put_56 (by decide) (fun c6 => ?_) (fun c6 => ?_)
          · have h := h.1 c6
            refine lv_iload hx hb dX7_put_71 (lv_at hl 4 rfl) ?_
            refine lv_iconst (v := 1) hx hb dX7_put_73 (by decide) ?_
            refine lv_iadd hx hb dX7_put_74 ?_
            refine lv_sipush (v := 4095) hx hb dX7_put_75 (by decide) ?_
            refine lv_iand hx hb dX7_put_78 ?_
            refine lv_topi (fun x7 ex7 => ?_)
            have h := h x7 ex7
            refine lv_istore (lv' := [(4, .int x7), (6, .int x5), (0, .ref a0), (1, .int p1), (2, .long p2), (5, .int x5_)]) hx hb dX7_put_79 hl (by decide) rfl (fun ls hl => ?_)
            refine lv_iinc (v := (x5_ + 1)) (lv' := [(5, .int (x5_ + 1)), (4, .int x7), (6, .int x5), (0, .ref a0), (1, .int p1), (2, .long p2)]) hx hb dX7_put_81 hl (k := 5) rfl rfl (by decide) rfl (fun ls hl => ?_)
            refine lv_goto (tgt := 19) hx hb dX7_put_84 (by decide) ?_
            exact ih19 x7 (x5_ + 1) _ _ _ h hP hD hS (lv_sub hl [3, 4, 5, 1, 0] rfl)
          · have h := h.2 c6
            refine lv_aload_n hx hb dX7_put_59 rfl (lv_at hl 1 rfl) ?_
            refine va_get (D := D) (ci := 7) (v := .ref a2) (C := RX7) (T := TX7) (N := 5) hx hb hw inW_X7 hown hK hP 0 rfl rfl 2 (by decide) (hw _ mw_2_95) (fun _ h9 => h9) rfl dX7_put_60 ?_
            refine lv_iload hx hb dX7_put_63 (lv_at hl 0 rfl) ?_
            refine lv_dup2_11 hx hb dX7_put_65 rfl rfl ?_
            refine cLald hx hb hK hP 2 1 rfl rfl x5.toNatClampNeg rfl h.1 dX7_put_66 ?_
            have h := h.2
            refine lv_lload_n hx hb dX7_put_67 rfl (lv_at hl 3 rfl) ?_
            refine lv_ladd hx hb dX7_put_68 ?_
            refine cLast hx hb hK hP hD hS 2 1 rfl rfl x5.toNatClampNeg rfl h.1 dX7_put_69 (fun H locs hP hD hS => ?_)
            have h := h.2
            have hP : va_P D vwCl (List.flatten ([cSpread a0 a1 a2 a3 a4 C a_size a_states (vp_updL a_parts x5.toNatClampNeg ((a_parts x5.toNatClampNeg) + p2)) a_slotOf a_table])) H := hP
            have hD : va_D A (List.flatten ([cSpread a0 a1 a2 a3 a4 C a_size a_states (vp_updL a_parts x5.toNatClampNeg ((a_parts x5.toNatClampNeg) + p2)) a_slotOf a_table])) := hD
            rw [← hQ]
            exact cRetV (a_size, a_states, (vp_updL a_parts x5.toNatClampNeg ((a_parts x5.toNatClampNeg) + p2)), a_slotOf, a_table) hx hb hr hlocks hS hP hD h dX7_put_70
  refine lv_lload_n hx hb dX7_put_0 rfl (lv_at hl 2 rfl) ?_
  refine lv_lconst (v := 0) hx hb dX7_put_1 (by decide) ?_
  refine W.lcmp hx hb dX7_put_2 ?_
  refine lv_if_ne (tgt := 7) hx hb dX7_put_3 (by decide) (fun c8 => ?_) (fun c8 => ?_)
  · have c8 : ¬ p2 = 0 := fun q => c8 ((lg_cmp_eq _ _).mpr q)
    have h := h.1 c8
    refine lv_iload_n hx hb dX7_put_7 rfl (lv_at hl 1 rfl) ?_
    refine lv_ldc (v := (-1640531535)) hx hb hown (hw _ mw_4_38) dX7_put_8 ?_
    refine lv_imul hx hb dX7_put_10 ?_
    refine lv_bipush (v := 20) hx hb dX7_put_11 (by decide) ?_
    refine lv_iushr hx hb dX7_put_13 rfl ?_
    refine lv_topi (fun x9 ex9 => ?_)
    have h := h x9 ex9
    refine lv_istore (lv' := [(4, .int x9), (0, .ref a0), (1, .int p1), (2, .long p2)]) hx hb dX7_put_14 hl (by decide) rfl (fun ls hl => ?_)
    refine lv_iconst (v := 0) hx hb dX7_put_16 (by decide) ?_
    refine lv_istore (lv' := [(5, .int 0), (4, .int x9), (0, .ref a0), (1, .int p1), (2, .long p2)]) hx hb dX7_put_17 hl (by decide) rfl (fun ls hl => ?_)
    obtain ⟨n, h⟩ := h
    exact N19 a_size a_states a_parts a_slotOf a_table n x9 0 _ _ _ h hP hD hS (lv_sub hl [2, 3, 4, 1, 0] rfl)
  · have c8 : p2 = 0 := (lg_cmp_eq _ _).mp c8
    have h := h.2 c8
    rw [← hQ]
    exact cRetV (a_size, a_states, a_parts, a_slotOf, a_table) hx hb hr hlocks hS hP hD h dX7_put_6
abbrev vsJ6_bitCount_0f7a4 : List Cond := Cond.code yJ6_bitCount_0f7a4 cJ6_bitCount_0f7a4 1 (some .int) :: WS
abbrev rmJ6_bitCount_0f7a4 : Room := { frames := 0, cells := 0, slots := 0, locals := 0 }
set_option maxHeartbeats 4000000 in
set_option maxRecDepth 100000 in
theorem k_J6_bitCount_0f7a4 (l : Launch) (D : va_G) (C : Nat → ClassId) (sz : Nat)    (p1 : Int32) {post : Int32 → Prop} (h : P_J6_bitCount_0f7a4 p1 post) : Met l yJ6_bitCount_0f7a4 vsJ6_bitCount_0f7a4 rmJ6_bitCount_0f7a4 (cPre D C [.int p1] sz (([] : List va_W))) (cQi D (fun (r : Int32) (u : Unit) => post r ) (fun u => ([] : List va_W)) (va_A (List.flatten (([] : List va_W))) sz)) 0 0 (va_A (List.flatten (([] : List va_W))) sz) := by
  refine cStart (QA := fun A => cQi D (fun (r : Int32) (u : Unit) => post r ) (fun u => ([] : List va_W)) A) (cc := cJ6_bitCount_0f7a4) (maxL := 1) (ret := (some .int)) (by decide) (Nat.le_of_ble_eq_true rfl) ?_
  intro p e s m args below meth c A ls hx hb hr hml hown hw hlocks hname hK hN hA hP hD hS hl
  generalize hQ : MQ below _ args s 0 0 A = Q
  have hl : lv_has ls 1 [(0, .int p1)] := hl
  obtain ⟨H, hH⟩ : ∃ H, H = s.heap := ⟨_, rfl⟩
  obtain ⟨locs, hlo⟩ : ∃ z : List Loc, z = [] := ⟨_, rfl⟩
  have hP : va_P D vwCl (List.flatten (([] : List va_W))) H := by rw [hH]; exact hP
  have hS : va_S A s.heap H locs := by rw [hH, hlo]; exact hS
  rw [show W p l e rmJ6_bitCount_0f7a4 s m args below meth c s.heap [] 0 0 Q (F0 m 0 ls []) = W p l e rmJ6_bitCount_0f7a4 s m args below meth c H locs 0 0 Q (F0 m 0 ls []) from by rw [hH, hlo]]
  refine lv_iload_n hx hb dJ6_bitCount_0f7a4_0 rfl (lv_at hl 0 rfl) ?_
  refine lv_iload_n hx hb dJ6_bitCount_0f7a4_1 rfl (lv_at hl 0 rfl) ?_
  refine lv_iconst (v := 1) hx hb dJ6_bitCount_0f7a4_2 (by decide) ?_
  refine lv_iushr hx hb dJ6_bitCount_0f7a4_3 rfl ?_
  refine lv_ldcw (v := 1431655765) hx hb hown (hw _ mw_4_74) dJ6_bitCount_0f7a4_4 ?_
  refine lv_iand hx hb dJ6_bitCount_0f7a4_7 ?_
  refine lv_isub hx hb dJ6_bitCount_0f7a4_8 ?_
  refine lv_topi (fun x1 ex1 => ?_)
  have h := h x1 ex1
  refine lv_istore_n (lv' := [(0, .int x1)]) hx hb dJ6_bitCount_0f7a4_9 rfl hl (by decide) rfl (fun ls hl => ?_)
  refine lv_iload_n hx hb dJ6_bitCount_0f7a4_10 rfl (lv_at hl 0 rfl) ?_
  refine lv_ldcw (v := 858993459) hx hb hown (hw _ mw_4_75) dJ6_bitCount_0f7a4_11 ?_
  refine lv_iand hx hb dJ6_bitCount_0f7a4_14 ?_
  refine lv_iload_n hx hb dJ6_bitCount_0f7a4_15 rfl (lv_at hl 0 rfl) ?_
  refine lv_iconst (v := 2) hx hb dJ6_bitCount_0f7a4_16 (by decide) ?_
  refine lv_iushr hx hb dJ6_bitCount_0f7a4_17 rfl ?_
  refine lv_ldcw (v := 858993459) hx hb hown (hw _ mw_4_75) dJ6_bitCount_0f7a4_18 ?_
  refine lv_iand hx hb dJ6_bitCount_0f7a4_21 ?_
  refine lv_iadd hx hb dJ6_bitCount_0f7a4_22 ?_
  refine lv_topi (fun x2 ex2 => ?_)
  have h := h x2 ex2
  refine lv_istore_n (lv' := [(0, .int x2)]) hx hb dJ6_bitCount_0f7a4_23 rfl hl (by decide) rfl (fun ls hl => ?_)
  refine lv_iload_n hx hb dJ6_bitCount_0f7a4_24 rfl (lv_at hl 0 rfl) ?_
  refine lv_iload_n hx hb dJ6_bitCount_0f7a4_25 rfl (lv_at hl 0 rfl) ?_
  refine lv_iconst (v := 4) hx hb dJ6_bitCount_0f7a4_26 (by decide) ?_
  refine lv_iushr hx hb dJ6_bitCount_0f7a4_27 rfl ?_
  refine lv_iadd hx hb dJ6_bitCount_0f7a4_28 ?_
  refine lv_ldcw (v := 252645135) hx hb hown (hw _ mw_4_76) dJ6_bitCount_0f7a4_29 ?_
  refine lv_iand hx hb dJ6_bitCount_0f7a4_32 ?_
  refine lv_topi (fun x3 ex3 => ?_)
  have h := h x3 ex3
  refine lv_istore_n (lv' := [(0, .int x3)]) hx hb dJ6_bitCount_0f7a4_33 rfl hl (by decide) rfl (fun ls hl => ?_)
  refine lv_iload_n hx hb dJ6_bitCount_0f7a4_34 rfl (lv_at hl 0 rfl) ?_
  refine lv_iload_n hx hb dJ6_bitCount_0f7a4_35 rfl (lv_at hl 0 rfl) ?_
  refine lv_bipush (v := 8) hx hb dJ6_bitCount_0f7a4_36 (by decide) ?_
  refine lv_iushr hx hb dJ6_bitCount_0f7a4_38 rfl ?_
  refine lv_iadd hx hb dJ6_bitCount_0f7a4_39 ?_
  refine lv_topi (fun x4 ex4 => ?_)
  have h := h x4 ex4
  refine lv_istore_n (lv' := [(0, .int x4)]) hx hb dJ6_bitCount_0f7a4_40 rfl hl (by decide) rfl (fun ls hl => ?_)
  refine lv_iload_n hx hb dJ6_bitCount_0f7a4_41 rfl (lv_at hl 0 rfl) ?_
  refine lv_iload_n hx hb dJ6_bitCount_0f7a4_42 rfl (lv_at hl 0 rfl) ?_
  refine lv_bipush (v := 16) hx hb dJ6_bitCount_0f7a4_43 (by decide) ?_
  refine lv_iushr hx hb dJ6_bitCount_0f7a4_45 rfl ?_
  refine lv_iadd hx hb dJ6_bitCount_0f7a4_46 ?_
  refine lv_topi (fun x5 ex5 => ?_)
  have h := h x5 ex5
  refine lv_istore_n (lv' := [(0, .int x5)]) hx hb dJ6_bitCount_0f7a4_47 rfl hl (by decide) rfl (fun ls hl => ?_)
  refine lv_iload_n hx hb dJ6_bitCount_0f7a4_48 rfl (lv_at hl 0 rfl) ?_
  refine lv_bipush (v := 63) hx hb dJ6_bitCount_0f7a4_49 (by decide) ?_
  refine lv_iand hx hb dJ6_bitCount_0f7a4_51 ?_
  rw [← hQ]
  exact cRetI (v := (x5 &&& 63)) () hx hb hr hlocks hS hP hD h dJ6_bitCount_0f7a4_52
abbrev vsX0_optionOf : List Cond := Cond.code yX0_optionOf cX0_optionOf 2 (some .int) :: WS
abbrev rmX0_optionOf : Room := { frames := 0, cells := 0, slots := 0, locals := 0 }
set_option maxHeartbeats 4000000 in
set_option maxRecDepth 100000 in
theorem k_X0_optionOf (l : Launch) (D : va_G) (C : Nat → ClassId) (sz : Nat) (a0 : Nat) (a1 : Nat) (a2 : Nat) (a3 : Nat) (a4 : Nat) (a5 : Nat)  (a_count : Int32) (a_worth : Nat → Int32) (a_seems : Nat → Int32) (a_place : Nat → Int32) (a_lock : Nat → Int32) (a_marked : Nat → Int32) (p1 : Int32) {post : Int32 → Prop} (h : P_X0_optionOf a_lock a_marked p1 post) : Met l yX0_optionOf vsX0_optionOf rmX0_optionOf (cPre D C [.ref a0, .int p1] sz ([cBikes a0 a1 a2 a3 a4 a5 C a_count a_worth a_seems a_place a_lock a_marked])) (cQi D (fun (r : Int32) (u : Unit) => post r ) (fun u => [cBikes a0 a1 a2 a3 a4 a5 C a_count a_worth a_seems a_place a_lock a_marked]) (va_A (List.flatten ([cBikes a0 a1 a2 a3 a4 a5 C a_count a_worth a_seems a_place a_lock a_marked])) sz)) 0 0 (va_A (List.flatten ([cBikes a0 a1 a2 a3 a4 a5 C a_count a_worth a_seems a_place a_lock a_marked])) sz) := by
  refine cStart (QA := fun A => cQi D (fun (r : Int32) (u : Unit) => post r ) (fun u => [cBikes a0 a1 a2 a3 a4 a5 C a_count a_worth a_seems a_place a_lock a_marked]) A) (cc := cX0_optionOf) (maxL := 2) (ret := (some .int)) (by decide) (Nat.le_of_ble_eq_true rfl) ?_
  intro p e s m args below meth c A ls hx hb hr hml hown hw hlocks hname hK hN hA hP hD hS hl
  generalize hQ : MQ below _ args s 0 0 A = Q
  have hl : lv_has ls 2 [(0, .ref a0), (1, .int p1)] := hl
  obtain ⟨H, hH⟩ : ∃ H, H = s.heap := ⟨_, rfl⟩
  obtain ⟨locs, hlo⟩ : ∃ z : List Loc, z = [] := ⟨_, rfl⟩
  have hP : va_P D vwCl (List.flatten ([cBikes a0 a1 a2 a3 a4 a5 C a_count a_worth a_seems a_place a_lock a_marked])) H := by rw [hH]; exact hP
  have hS : va_S A s.heap H locs := by rw [hH, hlo]; exact hS
  rw [show W p l e rmX0_optionOf s m args below meth c s.heap [] 0 0 Q (F0 m 0 ls []) = W p l e rmX0_optionOf s m args below meth c H locs 0 0 Q (F0 m 0 ls []) from by rw [hH, hlo]]
  refine lv_iconst (v := 2) hx hb dX0_optionOf_0 (by decide) ?_
  refine lv_aload_n hx hb dX0_optionOf_1 rfl (lv_at hl 0 rfl) ?_
  refine va_get (D := D) (ci := 0) (v := .ref a4) (C := RX0) (T := TX0) (N := 6) hx hb hw inW_X0 hown hK hP 0 rfl rfl 4 (by decide) (hw _ mw_1_148) (fun _ h9 => h9) rfl dX0_optionOf_2 ?_
  refine lv_iload_n hx hb dX0_optionOf_5 rfl (lv_at hl 1 rfl) ?_
  refine cIald hx hb hK hP 4 0 rfl rfl p1.toNatClampNeg rfl h.1 dX0_optionOf_6 ?_
  have h := h.2
  refine lv_iconst (v := 1) hx hb dX0_optionOf_7 (by decide) ?_
  refine lv_iadd hx hb dX0_optionOf_8 ?_
  refine lv_imul hx hb dX0_optionOf_9 ?_
  refine lv_aload_n hx hb dX0_optionOf_10 rfl (lv_at hl 0 rfl) ?_
  refine va_get (D := D) (ci := 0) (v := .ref a5) (C := RX0) (T := TX0) (N := 6) hx hb hw inW_X0 hown hK hP 0 rfl rfl 5 (by decide) (hw _ mw_1_151) (fun _ h9 => h9) rfl dX0_optionOf_11 ?_
  refine lv_iload_n hx hb dX0_optionOf_14 rfl (lv_at hl 1 rfl) ?_
  refine cZald hx hb hK hP 5 3 rfl rfl p1.toNatClampNeg rfl h.1 dX0_optionOf_15 ?_
  have h := h.2
  refine lv_if_eq (tgt := 23) hx hb dX0_optionOf_16 (by decide) (fun c1 => ?_) (fun c1 => ?_)
  · have h := h.1 c1
    refine lv_iconst (v := 0) hx hb dX0_optionOf_23 (by decide) ?_
    refine lv_iadd hx hb dX0_optionOf_24 ?_
    rw [← hQ]
    exact cRetI (v := ((2 * ((a_lock p1.toNatClampNeg) + 1)) + 0)) () hx hb hr hlocks hS hP hD h dX0_optionOf_25
  · have h := h.2 c1
    refine lv_iconst (v := 1) hx hb dX0_optionOf_19 (by decide) ?_
    refine lv_goto (tgt := 24) hx hb dX0_optionOf_20 (by decide) ?_
    refine lv_iadd hx hb dX0_optionOf_24 ?_
    rw [← hQ]
    exact cRetI (v := ((2 * ((a_lock p1.toNatClampNeg) + 1)) + 1)) () hx hb hr hlocks hS hP hD h dX0_optionOf_25
abbrev vsX0_setOption : List Cond := Cond.code yX0_setOption cX0_setOption 3 none :: WS
abbrev rmX0_setOption : Room := { frames := 0, cells := 0, slots := 0, locals := 0 }
set_option maxHeartbeats 4000000 in
set_option maxRecDepth 100000 in
theorem k_X0_setOption (l : Launch) (D : va_G) (C : Nat → ClassId) (sz : Nat) (a0 : Nat) (a1 : Nat) (a2 : Nat) (a3 : Nat) (a4 : Nat) (a5 : Nat)  (a_count : Int32) (a_worth : Nat → Int32) (a_seems : Nat → Int32) (a_place : Nat → Int32) (a_lock : Nat → Int32) (a_marked : Nat → Int32) (p1 : Int32) (p2 : Int32) {post : (Nat → Int32) → (Nat → Int32) → Prop} (h : P_X0_setOption a_lock a_marked p1 p2 post) : Met l yX0_setOption vsX0_setOption rmX0_setOption (cPre D C [.ref a0, .int p1, .int p2] sz ([cBikes a0 a1 a2 a3 a4 a5 C a_count a_worth a_seems a_place a_lock a_marked])) (cQv D (fun (u : (Nat → Int32) × (Nat → Int32)) => post u.1 u.2) (fun u => [cBikes a0 a1 a2 a3 a4 a5 C a_count a_worth a_seems a_place u.1 u.2]) (va_A (List.flatten ([cBikes a0 a1 a2 a3 a4 a5 C a_count a_worth a_seems a_place a_lock a_marked])) sz)) 0 0 (va_A (List.flatten ([cBikes a0 a1 a2 a3 a4 a5 C a_count a_worth a_seems a_place a_lock a_marked])) sz) := by
  refine cStart (QA := fun A => cQv D (fun (u : (Nat → Int32) × (Nat → Int32)) => post u.1 u.2) (fun u => [cBikes a0 a1 a2 a3 a4 a5 C a_count a_worth a_seems a_place u.1 u.2]) A) (cc := cX0_setOption) (maxL := 3) (ret := none) (by decide) (Nat.le_of_ble_eq_true rfl) ?_
  intro p e s m args below meth c A ls hx hb hr hml hown hw hlocks hname hK hN hA hP hD hS hl
  generalize hQ : MQ below _ args s 0 0 A = Q
  have hl : lv_has ls 3 [(0, .ref a0), (1, .int p1), (2, .int p2)] := hl
  obtain ⟨H, hH⟩ : ∃ H, H = s.heap := ⟨_, rfl⟩
  obtain ⟨locs, hlo⟩ : ∃ z : List Loc, z = [] := ⟨_, rfl⟩
  have hP : va_P D vwCl (List.flatten ([cBikes a0 a1 a2 a3 a4 a5 C a_count a_worth a_seems a_place a_lock a_marked])) H := by rw [hH]; exact hP
  have hS : va_S A s.heap H locs := by rw [hH, hlo]; exact hS
  rw [show W p l e rmX0_setOption s m args below meth c s.heap [] 0 0 Q (F0 m 0 ls []) = W p l e rmX0_setOption s m args below meth c H locs 0 0 Q (F0 m 0 ls []) from by rw [hH, hlo]]
  refine lv_aload_n hx hb dX0_setOption_0 rfl (lv_at hl 0 rfl) ?_
  refine va_get (D := D) (ci := 0) (v := .ref a4) (C := RX0) (T := TX0) (N := 6) hx hb hw inW_X0 hown hK hP 0 rfl rfl 4 (by decide) (hw _ mw_1_148) (fun _ h9 => h9) rfl dX0_setOption_1 ?_
  refine lv_iload_n hx hb dX0_setOption_4 rfl (lv_at hl 1 rfl) ?_
  refine lv_iload_n hx hb dX0_setOption_5 rfl (lv_at hl 2 rfl) ?_
  refine lv_iconst (v := 2) hx hb dX0_setOption_6 (by decide) ?_
  refine lv_idiv hx hb dX0_setOption_7 (by decide) ?_
  refine lv_iconst (v := 1) hx hb dX0_setOption_8 (by decide) ?_
  refine lv_isub hx hb dX0_setOption_9 ?_
  refine cIast hx hb hK hP hD hS 4 0 rfl rfl p1.toNatClampNeg rfl h.1 dX0_setOption_10 (fun H locs hP hD hS => ?_)
  have h := h.2
  refine lv_aload_n hx hb dX0_setOption_11 rfl (lv_at hl 0 rfl) ?_
  refine va_get (D := D) (ci := 0) (v := .ref a5) (C := RX0) (T := TX0) (N := 6) hx hb hw inW_X0 hown hK hP 0 rfl rfl 5 (by decide) (hw _ mw_1_151) (fun _ h9 => h9) rfl dX0_setOption_12 ?_
  refine lv_iload_n hx hb dX0_setOption_15 rfl (lv_at hl 1 rfl) ?_
  refine lv_iload_n hx hb dX0_setOption_16 rfl (lv_at hl 2 rfl) ?_
  refine lv_iconst (v := 2) hx hb dX0_setOption_17 (by decide) ?_
  refine lv_irem hx hb dX0_setOption_18 (by decide) ?_
  refine lv_iconst (v := 1) hx hb dX0_setOption_19 (by decide) ?_
  refine lv_icmp_ne (tgt := 27) hx hb dX0_setOption_20 (by decide) (fun c1 => ?_) (fun c1 => ?_)
  · have h := h.1 c1
    refine lv_iconst (v := 0) hx hb dX0_setOption_27 (by decide) ?_
    refine cZast hx hb hK hP hD hS 5 3 rfl rfl p1.toNatClampNeg rfl h.1 (Or.inl rfl) dX0_setOption_28 (fun H locs hP hD hS => ?_)
    have h := h.2
    have hP : va_P D vwCl (List.flatten ([cBikes a0 a1 a2 a3 a4 a5 C a_count a_worth a_seems a_place (upd a_lock p1.toNatClampNeg ((p2 / 2) - 1)) (upd a_marked p1.toNatClampNeg 0)])) H := hP
    have hD : va_D A (List.flatten ([cBikes a0 a1 a2 a3 a4 a5 C a_count a_worth a_seems a_place (upd a_lock p1.toNatClampNeg ((p2 / 2) - 1)) (upd a_marked p1.toNatClampNeg 0)])) := hD
    rw [← hQ]
    exact cRetV ((upd a_lock p1.toNatClampNeg ((p2 / 2) - 1)), (upd a_marked p1.toNatClampNeg 0)) hx hb hr hlocks hS hP hD h dX0_setOption_29
  · have h := h.2 c1
    refine lv_iconst (v := 1) hx hb dX0_setOption_23 (by decide) ?_
    refine lv_goto (tgt := 28) hx hb dX0_setOption_24 (by decide) ?_
    refine cZast hx hb hK hP hD hS 5 3 rfl rfl p1.toNatClampNeg rfl h.1 (Or.inr rfl) dX0_setOption_28 (fun H locs hP hD hS => ?_)
    have h := h.2
    have hP : va_P D vwCl (List.flatten ([cBikes a0 a1 a2 a3 a4 a5 C a_count a_worth a_seems a_place (upd a_lock p1.toNatClampNeg ((p2 / 2) - 1)) (upd a_marked p1.toNatClampNeg 1)])) H := hP
    have hD : va_D A (List.flatten ([cBikes a0 a1 a2 a3 a4 a5 C a_count a_worth a_seems a_place (upd a_lock p1.toNatClampNeg ((p2 / 2) - 1)) (upd a_marked p1.toNatClampNeg 1)])) := hD
    rw [← hQ]
    exact cRetV ((upd a_lock p1.toNatClampNeg ((p2 / 2) - 1)), (upd a_marked p1.toNatClampNeg 1)) hx hb hr hlocks hS hP hD h dX0_setOption_29
abbrev vsX0_markOthers : List Cond := Cond.code yX0_markOthers cX0_markOthers 4 none :: WS
abbrev rmX0_markOthers : Room := { frames := 0, cells := 0, slots := 0, locals := 0 }
set_option maxHeartbeats 4000000 in
set_option maxRecDepth 100000 in
theorem k_X0_markOthers (l : Launch) (D : va_G) (C : Nat → ClassId) (sz : Nat) (a0 : Nat) (a1 : Nat) (a2 : Nat) (a3 : Nat) (a4 : Nat) (a5 : Nat)  (a_count : Int32) (a_worth : Nat → Int32) (a_seems : Nat → Int32) (a_place : Nat → Int32) (a_lock : Nat → Int32) (a_marked : Nat → Int32) (p1 : Int32) (p2 : Int32) {post : (Nat → Int32) → Prop} (h : P_X0_markOthers a_count a_marked p1 p2 post) : Met l yX0_markOthers vsX0_markOthers rmX0_markOthers (cPre D C [.ref a0, .int p1, .int p2] sz ([cBikes a0 a1 a2 a3 a4 a5 C a_count a_worth a_seems a_place a_lock a_marked])) (cQv D (fun (u : (Nat → Int32)) => post u) (fun u => [cBikes a0 a1 a2 a3 a4 a5 C a_count a_worth a_seems a_place a_lock u]) (va_A (List.flatten ([cBikes a0 a1 a2 a3 a4 a5 C a_count a_worth a_seems a_place a_lock a_marked])) sz)) 0 0 (va_A (List.flatten ([cBikes a0 a1 a2 a3 a4 a5 C a_count a_worth a_seems a_place a_lock a_marked])) sz) := by
  refine cStart (QA := fun A => cQv D (fun (u : (Nat → Int32)) => post u) (fun u => [cBikes a0 a1 a2 a3 a4 a5 C a_count a_worth a_seems a_place a_lock u]) A) (cc := cX0_markOthers) (maxL := 4) (ret := none) (by decide) (Nat.le_of_ble_eq_true rfl) ?_
  intro p e s m args below meth c A ls hx hb hr hml hown hw hlocks hname hK hN hA hP hD hS hl
  generalize hQ : MQ below _ args s 0 0 A = Q
  have hl : lv_has ls 4 [(0, .ref a0), (1, .int p1), (2, .int p2)] := hl
  obtain ⟨H, hH⟩ : ∃ H, H = s.heap := ⟨_, rfl⟩
  obtain ⟨locs, hlo⟩ : ∃ z : List Loc, z = [] := ⟨_, rfl⟩
  have hP : va_P D vwCl (List.flatten ([cBikes a0 a1 a2 a3 a4 a5 C a_count a_worth a_seems a_place a_lock a_marked])) H := by rw [hH]; exact hP
  have hS : va_S A s.heap H locs := by rw [hH, hlo]; exact hS
  rw [show W p l e rmX0_markOthers s m args below meth c s.heap [] 0 0 Q (F0 m 0 ls []) = W p l e rmX0_markOthers s m args below meth c H locs 0 0 Q (F0 m 0 ls []) from by rw [hH, hlo]]
  have N2 : ∀  (n2 : Nat) (x3_ : Int32) (a_marked : Nat → Int32) (H : Heap) (locs : List Loc) (ls : Array Slot), P_X0_markOthers_2 a_count p1 p2 post   n2 x3_ a_marked → va_P D vwCl (List.flatten ([cBikes a0 a1 a2 a3 a4 a5 C a_count a_worth a_seems a_place a_lock a_marked])) H → va_D A (List.flatten ([cBikes a0 a1 a2 a3 a4 a5 C a_count a_worth a_seems a_place a_lock a_marked])) → va_S A s.heap H locs → lv_has ls 4 [(0, .ref a0), (1, .int p1), (2, .int p2), (3, .int x3_)] → W p l e rmX0_markOthers s m args below meth c H locs 0 0 Q (F0 m 2 ls []) := by
    intro n2
    induction n2 with
    | zero => intro x3_ a_marked H locs ls h hP hD hS hl; exact False.elim h
    | succ n2 ih2 =>
      intro x3_ a_marked H locs ls h hP hD hS hl
      refine lv_iload_n hx hb dX0_markOthers_2 rfl (lv_at hl 3 rfl) ?_
      refine lv_aload_n hx hb dX0_markOthers_3 rfl (lv_at hl 0 rfl) ?_
      refine va_get (D := D) (ci := 0) (v := .int a_count) (C := RX0) (T := TX0) (N := 6) hx hb hw inW_X0 hown hK hP 0 rfl rfl 0 (by decide) (hw _ mw_1_133) (fun _ h9 => h9) rfl dX0_markOthers_4 ?_
      refine lv_icmp_ge (tgt := 36) hx hb dX0_markOthers_7 (by decide) (fun c1 => ?_) (fun c1 => ?_)
      · have h := h.1 c1
        rw [← hQ]
        exact cRetV (a_marked) hx hb hr hlocks hS hP hD h dX0_markOthers_36
      · have h := h.2 c1
        refine lv_aload_n hx hb dX0_markOthers_10 rfl (lv_at hl 0 rfl) ?_
        refine va_get (D := D) (ci := 0) (v := .ref a5) (C := RX0) (T := TX0) (N := 6) hx hb hw inW_X0 hown hK hP 0 rfl rfl 5 (by decide) (hw _ mw_1_151) (fun _ h9 => h9) rfl dX0_markOthers_11 ?_
        refine lv_iload_n hx hb dX0_markOthers_14 rfl (lv_at hl 3 rfl) ?_
        refine lv_iload_n hx hb dX0_markOthers_15 rfl (lv_at hl 2 rfl) ?_
        refine lv_if_eq (tgt := 28) hx hb dX0_markOthers_16 (by decide) (fun c2 => ?_) (fun c2 => ?_)
        · have h := h.1 c2
          refine lv_iconst (v := 0) hx hb dX0_markOthers_28 (by decide) ?_
          refine cZast hx hb hK hP hD hS 5 3 rfl rfl x3_.toNatClampNeg rfl h.1 (Or.inl rfl) dX0_markOthers_29 (fun H locs hP hD hS => ?_)
          have h := h.2
          refine lv_iinc (v := (x3_ + 1)) (lv' := [(3, .int (x3_ + 1)), (0, .ref a0), (1, .int p1), (2, .int p2)]) hx hb dX0_markOthers_30 hl (k := 3) rfl rfl (by decide) rfl (fun ls hl => ?_)
          refine lv_goto (tgt := 2) hx hb dX0_markOthers_33 (by decide) ?_
          have hP : va_P D vwCl (List.flatten ([cBikes a0 a1 a2 a3 a4 a5 C a_count a_worth a_seems a_place a_lock (upd a_marked x3_.toNatClampNeg 0)])) H := hP
          have hD : va_D A (List.flatten ([cBikes a0 a1 a2 a3 a4 a5 C a_count a_worth a_seems a_place a_lock (upd a_marked x3_.toNatClampNeg 0)])) := hD
          exact ih2 (x3_ + 1) (upd a_marked x3_.toNatClampNeg 0) _ _ _ h hP hD hS (lv_sub hl [1, 2, 3, 0] rfl)
        · have h := h.2 c2
          refine lv_iload_n hx hb dX0_markOthers_19 rfl (lv_at hl 3 rfl) ?_
          refine lv_iload_n hx hb dX0_markOthers_20 rfl (lv_at hl 1 rfl) ?_
          refine lv_icmp_eq (tgt := 28) hx hb dX0_markOthers_21 (by decide) (fun c3 => ?_) (fun c3 => ?_)
          · have h := h.1 c3
            refine lv_iconst (v := 0) hx hb dX0_markOthers_28 (by decide) ?_
            refine cZast hx hb hK hP hD hS 5 3 rfl rfl x3_.toNatClampNeg rfl h.1 (Or.inl rfl) dX0_markOthers_29 (fun H locs hP hD hS => ?_)
            have h := h.2
            refine lv_iinc (v := (x3_ + 1)) (lv' := [(3, .int (x3_ + 1)), (0, .ref a0), (1, .int p1), (2, .int p2)]) hx hb dX0_markOthers_30 hl (k := 3) rfl rfl (by decide) rfl (fun ls hl => ?_)
            refine lv_goto (tgt := 2) hx hb dX0_markOthers_33 (by decide) ?_
            have hP : va_P D vwCl (List.flatten ([cBikes a0 a1 a2 a3 a4 a5 C a_count a_worth a_seems a_place a_lock (upd a_marked x3_.toNatClampNeg 0)])) H := hP
            have hD : va_D A (List.flatten ([cBikes a0 a1 a2 a3 a4 a5 C a_count a_worth a_seems a_place a_lock (upd a_marked x3_.toNatClampNeg 0)])) := hD
            exact ih2 (x3_ + 1) (upd a_marked x3_.toNatClampNeg 0) _ _ _ h hP hD hS (lv_sub hl [1, 2, 3, 0] rfl)
          · have h := h.2 c3
            refine lv_iconst (v := 1) hx hb dX0_markOthers_24 (by decide) ?_
            refine lv_goto (tgt := 29) hx hb dX0_markOthers_25 (by decide) ?_
            refine cZast hx hb hK hP hD hS 5 3 rfl rfl x3_.toNatClampNeg rfl h.1 (Or.inr rfl) dX0_markOthers_29 (fun H locs hP hD hS => ?_)
            have h := h.2
            refine lv_iinc (v := (x3_ + 1)) (lv' := [(3, .int (x3_ + 1)), (0, .ref a0), (1, .int p1), (2, .int p2)]) hx hb dX0_markOthers_30 hl (k := 3) rfl rfl (by decide) rfl (fun ls hl => ?_)
            refine lv_goto (tgt := 2) hx hb dX0_markOthers_33 (by decide) ?_
            have hP : va_P D vwCl (List.flatten ([cBikes a0 a1 a2 a3 a4 a5 C a_count a_worth a_seems a_place a_lock (upd a_marked x3_.toNatClampNeg 1)])) H := hP
            have hD : va_D A (List.flatten ([cBikes a0 a1 a2 a3 a4 a5 C a_count a_worth a_seems a_place a_lock (upd a_marked x3_.toNatClampNeg 1)])) := hD
            exact ih2 (x3_ + 1) (upd a_marked x3_.toNatClampNeg 1) _ _ _ h hP hD hS (lv_sub hl [1, 2, 3, 0] rfl)
  refine lv_iconst (v := 0) hx hb dX0_markOthers_0 (by decide) ?_
  refine lv_istore_n (lv' := [(3, .int 0), (0, .ref a0), (1, .int p1), (2, .int p2)]) hx hb dX0_markOthers_1 rfl hl (by decide) rfl (fun ls hl => ?_)
  obtain ⟨n, h⟩ := h
  exact N2  n 0 a_marked _ _ _ h hP hD hS (lv_sub hl [1, 2, 3, 0] rfl)
abbrev vsX10_begin : List Cond := Cond.code yX10_begin cX10_begin 2 none :: WS
abbrev rmX10_begin : Room := { frames := 0, cells := 0, slots := 0, locals := 0 }
set_option maxHeartbeats 4000000 in
set_option maxRecDepth 100000 in
theorem k_X10_begin (l : Launch) (D : va_G) (C : Nat → ClassId) (sz : Nat) (a0 : Nat) (a1 : Nat) (a2 : Nat)  (a_isThere : Int32) (a_taken : Nat → Int32) (a_took : Nat → Int32)  {post : (Int32) → (Nat → Int32) → (Nat → Int32) → Prop} (h : P_X10_begin a_isThere a_taken a_took post) : Met l yX10_begin vsX10_begin rmX10_begin (cPre D C [.ref a0] sz ([cYear a0 a1 a2 C a_isThere a_taken a_took])) (cQv D (fun (u : (Int32) × (Nat → Int32) × (Nat → Int32)) => post u.1 u.2.1 u.2.2) (fun u => [cYear a0 a1 a2 C u.1 u.2.1 u.2.2]) (va_A (List.flatten ([cYear a0 a1 a2 C a_isThere a_taken a_took])) sz)) 0 0 (va_A (List.flatten ([cYear a0 a1 a2 C a_isThere a_taken a_took])) sz) := by
  refine cStart (QA := fun A => cQv D (fun (u : (Int32) × (Nat → Int32) × (Nat → Int32)) => post u.1 u.2.1 u.2.2) (fun u => [cYear a0 a1 a2 C u.1 u.2.1 u.2.2]) A) (cc := cX10_begin) (maxL := 2) (ret := none) (by decide) (Nat.le_of_ble_eq_true rfl) ?_
  intro p e s m args below meth c A ls hx hb hr hml hown hw hlocks hname hK hN hA hP hD hS hl
  generalize hQ : MQ below _ args s 0 0 A = Q
  have hl : lv_has ls 2 [(0, .ref a0)] := hl
  obtain ⟨H, hH⟩ : ∃ H, H = s.heap := ⟨_, rfl⟩
  obtain ⟨locs, hlo⟩ : ∃ z : List Loc, z = [] := ⟨_, rfl⟩
  have hP : va_P D vwCl (List.flatten ([cYear a0 a1 a2 C a_isThere a_taken a_took])) H := by rw [hH]; exact hP
  have hS : va_S A s.heap H locs := by rw [hH, hlo]; exact hS
  rw [show W p l e rmX10_begin s m args below meth c s.heap [] 0 0 Q (F0 m 0 ls []) = W p l e rmX10_begin s m args below meth c H locs 0 0 Q (F0 m 0 ls []) from by rw [hH, hlo]]
  have N28 : ∀ (a_isThere : Int32) (a_taken : Nat → Int32) (n28 : Nat) (x1_ : Int32) (a_took : Nat → Int32) (H : Heap) (locs : List Loc) (ls : Array Slot), P_X10_begin_28  post  a_isThere a_taken n28 x1_ a_took → va_P D vwCl (List.flatten ([cYear a0 a1 a2 C a_isThere a_taken a_took])) H → va_D A (List.flatten ([cYear a0 a1 a2 C a_isThere a_taken a_took])) → va_S A s.heap H locs → lv_has ls 2 [(0, .ref a0), (1, .int x1_)] → W p l e rmX10_begin s m args below meth c H locs 0 0 Q (F0 m 28 ls []) := by
    intro a_isThere a_taken
    intro n28
    induction n28 with
    | zero => intro x1_ a_took H locs ls h hP hD hS hl; exact False.elim h
    | succ n28 ih28 =>
      intro x1_ a_took H locs ls h hP hD hS hl
      refine lv_iload_n hx hb dX10_begin_28 rfl (lv_at hl 1 rfl) ?_
      refine lv_bipush (v := 6) hx hb dX10_begin_29 (by decide) ?_
      refine lv_icmp_ge (tgt := 47) hx hb dX10_begin_31 (by decide) (fun c1 => ?_) (fun c1 => ?_)
      · have h := h.1 c1
        rw [← hQ]
        exact cRetV (a_isThere, a_taken, a_took) hx hb hr hlocks hS hP hD h dX10_begin_47
      · have h := h.2 c1
        refine lv_aload_n hx hb dX10_begin_34 rfl (lv_at hl 0 rfl) ?_
        refine va_get (D := D) (ci := 10) (v := .ref a2) (C := RX10) (T := TX10) (N := 3) hx hb hw inW_X10 hown hK hP 0 rfl rfl 2 (by decide) (hw _ mw_1_215) (fun _ h9 => h9) rfl dX10_begin_35 ?_
        refine lv_iload_n hx hb dX10_begin_38 rfl (lv_at hl 1 rfl) ?_
        refine lv_iconst (v := 0) hx hb dX10_begin_39 (by decide) ?_
        refine cIast hx hb hK hP hD hS 2 0 rfl rfl x1_.toNatClampNeg rfl h.1 dX10_begin_40 (fun H locs hP hD hS => ?_)
        have h := h.2
        refine lv_iinc (v := (x1_ + 1)) (lv' := [(1, .int (x1_ + 1)), (0, .ref a0)]) hx hb dX10_begin_41 hl (k := 1) rfl rfl (by decide) rfl (fun ls hl => ?_)
        refine lv_goto (tgt := 28) hx hb dX10_begin_44 (by decide) ?_
        have hP : va_P D vwCl (List.flatten ([cYear a0 a1 a2 C a_isThere a_taken (upd a_took x1_.toNatClampNeg 0)])) H := hP
        have hD : va_D A (List.flatten ([cYear a0 a1 a2 C a_isThere a_taken (upd a_took x1_.toNatClampNeg 0)])) := hD
        exact ih28 (x1_ + 1) (upd a_took x1_.toNatClampNeg 0) _ _ _ h hP hD hS (lv_sub hl [1, 0] rfl)
  have N7 : ∀ (a_isThere : Int32) (a_took : Nat → Int32) (n7 : Nat) (x1_ : Int32) (a_taken : Nat → Int32) (H : Heap) (locs : List Loc) (ls : Array Slot), P_X10_begin_7  post (fun (a_isThere : Int32) (a_taken : Nat → Int32) (x1_ : Int32) (a_took : Nat → Int32) => ∃ n : Nat, P_X10_begin_28  post  a_isThere a_taken n x1_ a_took) a_isThere a_took n7 x1_ a_taken → va_P D vwCl (List.flatten ([cYear a0 a1 a2 C a_isThere a_taken a_took])) H → va_D A (List.flatten ([cYear a0 a1 a2 C a_isThere a_taken a_took])) → va_S A s.heap H locs → lv_has ls 2 [(0, .ref a0), (1, .int x1_)] → W p l e rmX10_begin s m args below meth c H locs 0 0 Q (F0 m 7 ls []) := by
    intro a_isThere a_took
    intro n7
    induction n7 with
    | zero => intro x1_ a_taken H locs ls h hP hD hS hl; exact False.elim h
    | succ n7 ih7 =>
      intro x1_ a_taken H locs ls h hP hD hS hl
      refine lv_iload_n hx hb dX10_begin_7 rfl (lv_at hl 1 rfl) ?_
      refine lv_bipush (v := 10) hx hb dX10_begin_8 (by decide) ?_
      refine lv_icmp_ge (tgt := 26) hx hb dX10_begin_10 (by decide) (fun c2 => ?_) (fun c2 => ?_)
      · have h := h.1 c2
        refine lv_iconst (v := 0) hx hb dX10_begin_26 (by decide) ?_
        refine lv_istore_n (lv' := [(1, .int 0), (0, .ref a0)]) hx hb dX10_begin_27 rfl hl (by decide) rfl (fun ls hl => ?_)
        obtain ⟨n, h⟩ := h
        exact N28 a_isThere a_taken n 0 a_took _ _ _ h hP hD hS (lv_sub hl [1, 0] rfl)
      · have h := h.2 c2
        refine lv_aload_n hx hb dX10_begin_13 rfl (lv_at hl 0 rfl) ?_
        refine va_get (D := D) (ci := 10) (v := .ref a1) (C := RX10) (T := TX10) (N := 3) hx hb hw inW_X10 hown hK hP 0 rfl rfl 1 (by decide) (hw _ mw_1_211) (fun _ h9 => h9) rfl dX10_begin_14 ?_
        refine lv_iload_n hx hb dX10_begin_17 rfl (lv_at hl 1 rfl) ?_
        refine lv_iconst (v := 0) hx hb dX10_begin_18 (by decide) ?_
        refine cIast hx hb hK hP hD hS 1 0 rfl rfl x1_.toNatClampNeg rfl h.1 dX10_begin_19 (fun H locs hP hD hS => ?_)
        have h := h.2
        refine lv_iinc (v := (x1_ + 1)) (lv' := [(1, .int (x1_ + 1)), (0, .ref a0)]) hx hb dX10_begin_20 hl (k := 1) rfl rfl (by decide) rfl (fun ls hl => ?_)
        refine lv_goto (tgt := 7) hx hb dX10_begin_23 (by decide) ?_
        have hP : va_P D vwCl (List.flatten ([cYear a0 a1 a2 C a_isThere (upd a_taken x1_.toNatClampNeg 0) a_took])) H := hP
        have hD : va_D A (List.flatten ([cYear a0 a1 a2 C a_isThere (upd a_taken x1_.toNatClampNeg 0) a_took])) := hD
        exact ih7 (x1_ + 1) (upd a_taken x1_.toNatClampNeg 0) _ _ _ h hP hD hS (lv_sub hl [1, 0] rfl)
  refine lv_aload_n hx hb dX10_begin_0 rfl (lv_at hl 0 rfl) ?_
  refine lv_iconst (v := 1) hx hb dX10_begin_1 (by decide) ?_
  refine va_put (D := D) (ci := 10) (v := .int 1) (ty := .boolean) (C := RX10) (T := TX10) (N := 3) hx hb hw inW_X10 tyX10 tyX10_ok nmX10 hown hK hP hD hS 0 rfl rfl 0 (by decide) (hw _ mw_1_208) (fun _ h9 => h9) rfl (by decide +kernel) rfl rfl (Nat.le_of_ble_eq_true rfl) dX10_begin_2 (fun H locs hP hD hS => ?_)
  refine lv_iconst (v := 0) hx hb dX10_begin_5 (by decide) ?_
  refine lv_istore_n (lv' := [(1, .int 0), (0, .ref a0)]) hx hb dX10_begin_6 rfl hl (by decide) rfl (fun ls hl => ?_)
  have hP : va_P D vwCl (List.flatten ([cYear a0 a1 a2 C 1 a_taken a_took])) H := hP
  have hD : va_D A (List.flatten ([cYear a0 a1 a2 C 1 a_taken a_took])) := hD
  obtain ⟨n, h⟩ := h
  exact N7 1 a_took n 0 a_taken _ _ _ h hP hD hS (lv_sub hl [1, 0] rfl)
