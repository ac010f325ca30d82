abbrev vsX0_init : List Cond := Cond.code yX0_init cX0_init 1 none :: WS
abbrev rmX0_init : Room := { frames := 1, cells := 5, slots := 50, locals := 12 }
set_option maxHeartbeats 4000000 in
set_option maxRecDepth 100000 in
theorem i_X0_init (l : Launch) (D : va_G) (C : Nat → ClassId) (sz : Nat) (a0 : Nat) : Met l yX0_init vsX0_init rmX0_init (cPre D C [.ref a0] sz ([[(a0, .inr (0, [.int 0, .null, .null, .null, .null, .null]))]])) (cQv D (fun (u : Nat → Nat) => u 0 = a0) (fun u => [cBikes (u 0) (u 1) (u 2) (u 3) (u 4) (u 5) C 0 (fun _ => 0) (fun _ => 0) (fun _ => 0) (fun _ => 0) (fun _ => 0)]) (va_A (List.flatten ([[(a0, .inr (0, [.int 0, .null, .null, .null, .null, .null]))]])) sz)) 5 50 (va_A (List.flatten ([[(a0, .inr (0, [.int 0, .null, .null, .null, .null, .null]))]])) sz) := by
  refine cStart (QA := fun A => cQv D (fun (u : Nat → Nat) => u 0 = a0) (fun u => [cBikes (u 0) (u 1) (u 2) (u 3) (u 4) (u 5) C 0 (fun _ => 0) (fun _ => 0) (fun _ => 0) (fun _ => 0) (fun _ => 0)]) A) (cc := cX0_init) (maxL := 1) (ret := none) (by decide) (Nat.le_of_ble_eq_true rfl) ?_
  intro p e s m args below meth c A ls hx hb hr hml hown hw hlocks hname hK hN hA hP hD hS hl
  have hl : lv_has ls 1 [(0, .ref a0)] := hl
  refine lv_aload_n hx hb dX0_init_0 rfl (lv_at hl 0 rfl) ?_
  refine W.objInit hx hb hown (hw _ mw_1_132) (hw _ mw_1_27) (hw _ mw_1_28) rfl (by rw [hml]; exact hl.1) rfl dX0_init_1 (Nat.le_of_ble_eq_true rfl) (Nat.le_of_ble_eq_true rfl) ?_
  refine lv_aload_n hx hb dX0_init_4 rfl (lv_at hl 0 rfl) ?_
  refine lv_bipush (v := 10) hx hb dX0_init_5 (by decide) ?_
  refine cNewI hx hb (hw _ mw_1_105) hK hP hD hS hA 10 (by decide) (by decide +kernel) (by decide +kernel) (Nat.le_of_ble_eq_true rfl) (Nat.le_of_ble_eq_true rfl) dX0_init_7 (fun q1 H hP hD hS => ?_)
  have hP : va_P D vwCl (List.flatten ([[(a0, .inr (0, [.int 0, .null, .null, .null, .null, .null]))], [(q1, .inl (C 0, 10, .inl (fun _ => 0)))]])) H := hP
  have hD : va_D A (List.flatten ([[(a0, .inr (0, [.int 0, .null, .null, .null, .null, .null]))], [(q1, .inl (C 0, 10, .inl (fun _ => 0)))]])) := hD
  refine va_putF (D := D) (ci := 0) (v := .ref q1) (ty := .array .int) (C := RX0) (T := TX0) (N := 6) hx hb hw inW_X0 tyX0 tyX0_ok nmX0 hown hK hP hD hS 0 rfl rfl 1 (by decide) (hw _ mw_1_138) (fun _ h9 => h9) rfl hname rfl (by decide +kernel) rfl rfl (Nat.le_of_ble_eq_true rfl) dX0_init_9 (fun H locs hP hD hS => ?_)
  have hP : va_P D vwCl (List.flatten ([[(a0, .inr (0, [.int 0, .ref q1, .null, .null, .null, .null]))], [(q1, .inl (C 0, 10, .inl (fun _ => 0)))]])) H := hP
  have hD : va_D A (List.flatten ([[(a0, .inr (0, [.int 0, .ref q1, .null, .null, .null, .null]))], [(q1, .inl (C 0, 10, .inl (fun _ => 0)))]])) := hD
  refine lv_aload_n hx hb dX0_init_12 rfl (lv_at hl 0 rfl) ?_
  refine lv_bipush (v := 10) hx hb dX0_init_13 (by decide) ?_
  refine cNewI hx hb (hw _ mw_1_105) hK hP hD hS hA 10 (by decide) (by decide +kernel) (by decide +kernel) (Nat.le_of_ble_eq_true rfl) (Nat.le_of_ble_eq_true rfl) dX0_init_15 (fun q2 H hP hD hS => ?_)
  have hP : va_P D vwCl (List.flatten ([[(a0, .inr (0, [.int 0, .ref q1, .null, .null, .null, .null]))], [(q1, .inl (C 0, 10, .inl (fun _ => 0)))], [(q2, .inl (C 0, 10, .inl (fun _ => 0)))]])) H := hP
  have hD : va_D A (List.flatten ([[(a0, .inr (0, [.int 0, .ref q1, .null, .null, .null, .null]))], [(q1, .inl (C 0, 10, .inl (fun _ => 0)))], [(q2, .inl (C 0, 10, .inl (fun _ => 0)))]])) := hD
  refine va_putF (D := D) (ci := 0) (v := .ref q2) (ty := .array .int) (C := RX0) (T := TX0) (N := 6) hx hb hw inW_X0 tyX0 tyX0_ok nmX0 hown hK hP hD hS 0 rfl rfl 2 (by decide) (hw _ mw_1_142) (fun _ h9 => h9) rfl hname rfl (by decide +kernel) rfl rfl (Nat.le_of_ble_eq_true rfl) dX0_init_17 (fun H locs hP hD hS => ?_)
  have hP : va_P D vwCl (List.flatten ([[(a0, .inr (0, [.int 0, .ref q1, .ref q2, .null, .null, .null]))], [(q1, .inl (C 0, 10, .inl (fun _ => 0)))], [(q2, .inl (C 0, 10, .inl (fun _ => 0)))]])) H := hP
  have hD : va_D A (List.flatten ([[(a0, .inr (0, [.int 0, .ref q1, .ref q2, .null, .null, .null]))], [(q1, .inl (C 0, 10, .inl (fun _ => 0)))], [(q2, .inl (C 0, 10, .inl (fun _ => 0)))]])) := hD
  refine lv_aload_n hx hb dX0_init_20 rfl (lv_at hl 0 rfl) ?_
  refine lv_bipush (v := 10) hx hb dX0_init_21 (by decide) ?_
  refine cNewI hx hb (hw _ mw_1_105) hK hP hD hS hA 10 (by decide) (by decide +kernel) (by decide +kernel) (Nat.le_of_ble_eq_true rfl) (Nat.le_of_ble_eq_true rfl) dX0_init_23 (fun q3 H hP hD hS => ?_)
  have hP : va_P D vwCl (List.flatten ([[(a0, .inr (0, [.int 0, .ref q1, .ref q2, .null, .null, .null]))], [(q1, .inl (C 0, 10, .inl (fun _ => 0)))], [(q2, .inl (C 0, 10, .inl (fun _ => 0)))], [(q3, .inl (C 0, 10, .inl (fun _ => 0)))]])) H := hP
  have hD : va_D A (List.flatten ([[(a0, .inr (0, [.int 0, .ref q1, .ref q2, .null, .null, .null]))], [(q1, .inl (C 0, 10, .inl (fun _ => 0)))], [(q2, .inl (C 0, 10, .inl (fun _ => 0)))], [(q3, .inl (C 0, 10, .inl (fun _ => 0)))]])) := hD
  refine va_putF (D := D) (ci := 0) (v := .ref q3) (ty := .array .int) (C := RX0) (T := TX0) (N := 6) hx hb hw inW_X0 tyX0 tyX0_ok nmX0 hown hK hP hD hS 0 rfl rfl 3 (by decide) (hw _ mw_1_145) (fun _ h9 => h9) rfl hname rfl (by decide +kernel) rfl rfl (Nat.le_of_ble_eq_true rfl) dX0_init_25 (fun H locs hP hD hS => ?_)
  have hP : va_P D vwCl (List.flatten ([[(a0, .inr (0, [.int 0, .ref q1, .ref q2, .ref q3, .null, .null]))], [(q1, .inl (C 0, 10, .inl (fun _ => 0)))], [(q2, .inl (C 0, 10, .inl (fun _ => 0)))], [(q3, .inl (C 0, 10, .inl (fun _ => 0)))]])) H := hP
  have hD : va_D A (List.flatten ([[(a0, .inr (0, [.int 0, .ref q1, .ref q2, .ref q3, .null, .null]))], [(q1, .inl (C 0, 10, .inl (fun _ => 0)))], [(q2, .inl (C 0, 10, .inl (fun _ => 0)))], [(q3, .inl (C 0, 10, .inl (fun _ => 0)))]])) := hD
  refine lv_aload_n hx hb dX0_init_28 rfl (lv_at hl 0 rfl) ?_
  refine lv_bipush (v := 10) hx hb dX0_init_29 (by decide) ?_
  refine cNewI hx hb (hw _ mw_1_105) hK hP hD hS hA 10 (by decide) (by decide +kernel) (by decide +kernel) (Nat.le_of_ble_eq_true rfl) (Nat.le_of_ble_eq_true rfl) dX0_init_31 (fun q4 H hP hD hS => ?_)
  have hP : va_P D vwCl (List.flatten ([[(a0, .inr (0, [.int 0, .ref q1, .ref q2, .ref q3, .null, .null]))], [(q1, .inl (C 0, 10, .inl (fun _ => 0)))], [(q2, .inl (C 0, 10, .inl (fun _ => 0)))], [(q3, .inl (C 0, 10, .inl (fun _ => 0)))], [(q4, .inl (C 0, 10, .inl (fun _ => 0)))]])) H := hP
  have hD : va_D A (List.flatten ([[(a0, .inr (0, [.int 0, .ref q1, .ref q2, .ref q3, .null, .null]))], [(q1, .inl (C 0, 10, .inl (fun _ => 0)))], [(q2, .inl (C 0, 10, .inl (fun _ => 0)))], [(q3, .inl (C 0, 10, .inl (fun _ => 0)))], [(q4, .inl (C 0, 10, .inl (fun _ => 0)))]])) := hD
  refine va_putF (D := D) (ci := 0) (v := .ref q4) (ty := .array .int) (C := RX0) (T := TX0) (N := 6) hx hb hw inW_X0 tyX0 tyX0_ok nmX0 hown hK hP hD hS 0 rfl rfl 4 (by decide) (hw _ mw_1_148) (fun _ h9 => h9) rfl hname rfl (by decide +kernel) rfl rfl (Nat.le_of_ble_eq_true rfl) dX0_init_33 (fun H locs hP hD hS => ?_)
  have hP : va_P D vwCl (List.flatten ([[(a0, .inr (0, [.int 0, .ref q1, .ref q2, .ref q3, .ref q4, .null]))], [(q1, .inl (C 0, 10, .inl (fun _ => 0)))], [(q2, .inl (C 0, 10, .inl (fun _ => 0)))], [(q3, .inl (C 0, 10, .inl (fun _ => 0)))], [(q4, .inl (C 0, 10, .inl (fun _ => 0)))]])) H := hP
  have hD : va_D A (List.flatten ([[(a0, .inr (0, [.int 0, .ref q1, .ref q2, .ref q3, .ref q4, .null]))], [(q1, .inl (C 0, 10, .inl (fun _ => 0)))], [(q2, .inl (C 0, 10, .inl (fun _ => 0)))], [(q3, .inl (C 0, 10, .inl (fun _ => 0)))], [(q4, .inl (C 0, 10, .inl (fun _ => 0)))]])) := hD
  refine lv_aload_n hx hb dX0_init_36 rfl (lv_at hl 0 rfl) ?_
  refine lv_bipush (v := 10) hx hb dX0_init_37 (by decide) ?_
  refine cNewZ hx hb (hw _ mw_1_167) hK hP hD hS hA 10 (by decide) (by decide +kernel) (by decide +kernel) (Nat.le_of_ble_eq_true rfl) (Nat.le_of_ble_eq_true rfl) dX0_init_39 (fun q5 H hP hD hS => ?_)
  have hP : va_P D vwCl (List.flatten ([[(a0, .inr (0, [.int 0, .ref q1, .ref q2, .ref q3, .ref q4, .null]))], [(q1, .inl (C 0, 10, .inl (fun _ => 0)))], [(q2, .inl (C 0, 10, .inl (fun _ => 0)))], [(q3, .inl (C 0, 10, .inl (fun _ => 0)))], [(q4, .inl (C 0, 10, .inl (fun _ => 0)))], [(q5, .inl (C 3, 10, .inl (fun _ => 0)))]])) H := hP
  have hD : va_D A (List.flatten ([[(a0, .inr (0, [.int 0, .ref q1, .ref q2, .ref q3, .ref q4, .null]))], [(q1, .inl (C 0, 10, .inl (fun _ => 0)))], [(q2, .inl (C 0, 10, .inl (fun _ => 0)))], [(q3, .inl (C 0, 10, .inl (fun _ => 0)))], [(q4, .inl (C 0, 10, .inl (fun _ => 0)))], [(q5, .inl (C 3, 10, .inl (fun _ => 0)))]])) := hD
  refine va_putF (D := D) (ci := 0) (v := .ref q5) (ty := .array .boolean) (C := RX0) (T := TX0) (N := 6) hx hb hw inW_X0 tyX0 tyX0_ok nmX0 hown hK hP hD hS 0 rfl rfl 5 (by decide) (hw _ mw_1_151) (fun _ h9 => h9) rfl hname rfl (by decide +kernel) rfl rfl (Nat.le_of_ble_eq_true rfl) dX0_init_41 (fun H locs hP hD hS => ?_)
  have hP : va_P D vwCl (List.flatten ([[(a0, .inr (0, [.int 0, .ref q1, .ref q2, .ref q3, .ref q4, .ref q5]))], [(q1, .inl (C 0, 10, .inl (fun _ => 0)))], [(q2, .inl (C 0, 10, .inl (fun _ => 0)))], [(q3, .inl (C 0, 10, .inl (fun _ => 0)))], [(q4, .inl (C 0, 10, .inl (fun _ => 0)))], [(q5, .inl (C 3, 10, .inl (fun _ => 0)))]])) H := hP
  have hD : va_D A (List.flatten ([[(a0, .inr (0, [.int 0, .ref q1, .ref q2, .ref q3, .ref q4, .ref q5]))], [(q1, .inl (C 0, 10, .inl (fun _ => 0)))], [(q2, .inl (C 0, 10, .inl (fun _ => 0)))], [(q3, .inl (C 0, 10, .inl (fun _ => 0)))], [(q4, .inl (C 0, 10, .inl (fun _ => 0)))], [(q5, .inl (C 3, 10, .inl (fun _ => 0)))]])) := hD
  refine W.widen (k := 5) (n := 50) (by decide) (by decide) ?_
  exact cRetV (post := fun (u : Nat → Nat) => u 0 = a0) (u := (fun i => [a0, q1, q2, q3, q4, q5].getD i 0)) (wf := fun u => [cBikes (u 0) (u 1) (u 2) (u 3) (u 4) (u 5) C 0 (fun _ => 0) (fun _ => 0) (fun _ => 0) (fun _ => 0) (fun _ => 0)]) hx hb hr hlocks hS hP hD rfl dX0_init_44
abbrev vsX1_init : List Cond := Cond.code yX1_init cX1_init 1 none :: WS
abbrev rmX1_init : Room := { frames := 1, cells := 2, slots := 10, locals := 12 }
set_option maxHeartbeats 4000000 in
set_option maxRecDepth 100000 in
theorem i_X1_init (l : Launch) (D : va_G) (C : Nat → ClassId) (sz : Nat) (a0 : Nat) : Met l yX1_init vsX1_init rmX1_init (cPre D C [.ref a0] sz ([[(a0, .inr (1, [.int 0, .null, .null]))]])) (cQv D (fun (u : Nat → Nat) => u 0 = a0) (fun u => [cLamps (u 0) (u 1) (u 2) C 0 (fun _ => 0) (fun _ => 0)]) (va_A (List.flatten ([[(a0, .inr (1, [.int 0, .null, .null]))]])) sz)) 2 10 (va_A (List.flatten ([[(a0, .inr (1, [.int 0, .null, .null]))]])) sz) := by
  refine cStart (QA := fun A => cQv D (fun (u : Nat → Nat) => u 0 = a0) (fun u => [cLamps (u 0) (u 1) (u 2) C 0 (fun _ => 0) (fun _ => 0)]) A) (cc := cX1_init) (maxL := 1) (ret := none) (by decide) (Nat.le_of_ble_eq_true rfl) ?_
  intro p e s m args below meth c A ls hx hb hr hml hown hw hlocks hname hK hN hA hP hD hS hl
  have hl : lv_has ls 1 [(0, .ref a0)] := hl
  refine lv_aload_n hx hb dX1_init_0 rfl (lv_at hl 0 rfl) ?_
  refine W.objInit hx hb hown (hw _ mw_1_89) (hw _ mw_1_27) (hw _ mw_1_28) rfl (by rw [hml]; exact hl.1) rfl dX1_init_1 (Nat.le_of_ble_eq_true rfl) (Nat.le_of_ble_eq_true rfl) ?_
  refine lv_aload_n hx hb dX1_init_4 rfl (lv_at hl 0 rfl) ?_
  refine lv_iconst (v := 5) hx hb dX1_init_5 (by decide) ?_
  refine cNewI hx hb (hw _ mw_1_105) hK hP hD hS hA 5 (by decide) (by decide +kernel) (by decide +kernel) (Nat.le_of_ble_eq_true rfl) (Nat.le_of_ble_eq_true rfl) dX1_init_6 (fun q1 H hP hD hS => ?_)
  have hP : va_P D vwCl (List.flatten ([[(a0, .inr (1, [.int 0, .null, .null]))], [(q1, .inl (C 0, 5, .inl (fun _ => 0)))]])) H := hP
  have hD : va_D A (List.flatten ([[(a0, .inr (1, [.int 0, .null, .null]))], [(q1, .inl (C 0, 5, .inl (fun _ => 0)))]])) := hD
  refine va_putF (D := D) (ci := 1) (v := .ref q1) (ty := .array .int) (C := RX1) (T := TX1) (N := 3) hx hb hw inW_X1 tyX1 tyX1_ok nmX1 hown hK hP hD hS 0 rfl rfl 1 (by decide) (hw _ mw_1_94) (fun _ h9 => h9) rfl hname rfl (by decide +kernel) rfl rfl (Nat.le_of_ble_eq_true rfl) dX1_init_8 (fun H locs hP hD hS => ?_)
  have hP : va_P D vwCl (List.flatten ([[(a0, .inr (1, [.int 0, .ref q1, .null]))], [(q1, .inl (C 0, 5, .inl (fun _ => 0)))]])) H := hP
  have hD : va_D A (List.flatten ([[(a0, .inr (1, [.int 0, .ref q1, .null]))], [(q1, .inl (C 0, 5, .inl (fun _ => 0)))]])) := hD
  refine lv_aload_n hx hb dX1_init_11 rfl (lv_at hl 0 rfl) ?_
  refine lv_iconst (v := 5) hx hb dX1_init_12 (by decide) ?_
  refine cNewI hx hb (hw _ mw_1_105) hK hP hD hS hA 5 (by decide) (by decide +kernel) (by decide +kernel) (Nat.le_of_ble_eq_true rfl) (Nat.le_of_ble_eq_true rfl) dX1_init_13 (fun q2 H hP hD hS => ?_)
  have hP : va_P D vwCl (List.flatten ([[(a0, .inr (1, [.int 0, .ref q1, .null]))], [(q1, .inl (C 0, 5, .inl (fun _ => 0)))], [(q2, .inl (C 0, 5, .inl (fun _ => 0)))]])) H := hP
  have hD : va_D A (List.flatten ([[(a0, .inr (1, [.int 0, .ref q1, .null]))], [(q1, .inl (C 0, 5, .inl (fun _ => 0)))], [(q2, .inl (C 0, 5, .inl (fun _ => 0)))]])) := hD
  refine va_putF (D := D) (ci := 1) (v := .ref q2) (ty := .array .int) (C := RX1) (T := TX1) (N := 3) hx hb hw inW_X1 tyX1 tyX1_ok nmX1 hown hK hP hD hS 0 rfl rfl 2 (by decide) (hw _ mw_1_96) (fun _ h9 => h9) rfl hname rfl (by decide +kernel) rfl rfl (Nat.le_of_ble_eq_true rfl) dX1_init_15 (fun H locs hP hD hS => ?_)
  have hP : va_P D vwCl (List.flatten ([[(a0, .inr (1, [.int 0, .ref q1, .ref q2]))], [(q1, .inl (C 0, 5, .inl (fun _ => 0)))], [(q2, .inl (C 0, 5, .inl (fun _ => 0)))]])) H := hP
  have hD : va_D A (List.flatten ([[(a0, .inr (1, [.int 0, .ref q1, .ref q2]))], [(q1, .inl (C 0, 5, .inl (fun _ => 0)))], [(q2, .inl (C 0, 5, .inl (fun _ => 0)))]])) := hD
  refine W.widen (k := 2) (n := 10) (by decide) (by decide) ?_
  exact cRetV (post := fun (u : Nat → Nat) => u 0 = a0) (u := (fun i => [a0, q1, q2].getD i 0)) (wf := fun u => [cLamps (u 0) (u 1) (u 2) C 0 (fun _ => 0) (fun _ => 0)]) hx hb hr hlocks hS hP hD rfl dX1_init_18
abbrev vsX2_init : List Cond := Cond.code yX2_init cX2_init 1 none :: WS
abbrev rmX2_init : Room := { frames := 1, cells := 2, slots := 20, locals := 12 }
set_option maxHeartbeats 4000000 in
set_option maxRecDepth 100000 in
theorem i_X2_init (l : Launch) (D : va_G) (C : Nat → ClassId) (sz : Nat) (a0 : Nat) : Met l yX2_init vsX2_init rmX2_init (cPre D C [.ref a0] sz ([[(a0, .inr (2, [.int 0, .null, .null]))]])) (cQv D (fun (u : Nat → Nat) => u 0 = a0) (fun u => [cLocks (u 0) (u 1) (u 2) C 0 (fun _ => 0) (fun _ => 0)]) (va_A (List.flatten ([[(a0, .inr (2, [.int 0, .null, .null]))]])) sz)) 2 20 (va_A (List.flatten ([[(a0, .inr (2, [.int 0, .null, .null]))]])) sz) := by
  refine cStart (QA := fun A => cQv D (fun (u : Nat → Nat) => u 0 = a0) (fun u => [cLocks (u 0) (u 1) (u 2) C 0 (fun _ => 0) (fun _ => 0)]) A) (cc := cX2_init) (maxL := 1) (ret := none) (by decide) (Nat.le_of_ble_eq_true rfl) ?_
  intro p e s m args below meth c A ls hx hb hr hml hown hw hlocks hname hK hN hA hP hD hS hl
  have hl : lv_has ls 1 [(0, .ref a0)] := hl
  refine lv_aload_n hx hb dX2_init_0 rfl (lv_at hl 0 rfl) ?_
  refine W.objInit hx hb hown (hw _ mw_1_111) (hw _ mw_1_27) (hw _ mw_1_28) rfl (by rw [hml]; exact hl.1) rfl dX2_init_1 (Nat.le_of_ble_eq_true rfl) (Nat.le_of_ble_eq_true rfl) ?_
  refine lv_aload_n hx hb dX2_init_4 rfl (lv_at hl 0 rfl) ?_
  refine lv_iconst (v := 5) hx hb dX2_init_5 (by decide) ?_
  refine cNewI hx hb (hw _ mw_1_105) hK hP hD hS hA 5 (by decide) (by decide +kernel) (by decide +kernel) (Nat.le_of_ble_eq_true rfl) (Nat.le_of_ble_eq_true rfl) dX2_init_6 (fun q1 H hP hD hS => ?_)
  have hP : va_P D vwCl (List.flatten ([[(a0, .inr (2, [.int 0, .null, .null]))], [(q1, .inl (C 0, 5, .inl (fun _ => 0)))]])) H := hP
  have hD : va_D A (List.flatten ([[(a0, .inr (2, [.int 0, .null, .null]))], [(q1, .inl (C 0, 5, .inl (fun _ => 0)))]])) := hD
  refine va_putF (D := D) (ci := 2) (v := .ref q1) (ty := .array .int) (C := RX2) (T := TX2) (N := 3) hx hb hw inW_X2 tyX2 tyX2_ok nmX2 hown hK hP hD hS 0 rfl rfl 1 (by decide) (hw _ mw_1_116) (fun _ h9 => h9) rfl hname rfl (by decide +kernel) rfl rfl (Nat.le_of_ble_eq_true rfl) dX2_init_8 (fun H locs hP hD hS => ?_)
  have hP : va_P D vwCl (List.flatten ([[(a0, .inr (2, [.int 0, .ref q1, .null]))], [(q1, .inl (C 0, 5, .inl (fun _ => 0)))]])) H := hP
  have hD : va_D A (List.flatten ([[(a0, .inr (2, [.int 0, .ref q1, .null]))], [(q1, .inl (C 0, 5, .inl (fun _ => 0)))]])) := hD
  refine lv_aload_n hx hb dX2_init_11 rfl (lv_at hl 0 rfl) ?_
  refine lv_bipush (v := 15) hx hb dX2_init_12 (by decide) ?_
  refine cNewI hx hb (hw _ mw_1_105) hK hP hD hS hA 15 (by decide) (by decide +kernel) (by decide +kernel) (Nat.le_of_ble_eq_true rfl) (Nat.le_of_ble_eq_true rfl) dX2_init_14 (fun q2 H hP hD hS => ?_)
  have hP : va_P D vwCl (List.flatten ([[(a0, .inr (2, [.int 0, .ref q1, .null]))], [(q1, .inl (C 0, 5, .inl (fun _ => 0)))], [(q2, .inl (C 0, 15, .inl (fun _ => 0)))]])) H := hP
  have hD : va_D A (List.flatten ([[(a0, .inr (2, [.int 0, .ref q1, .null]))], [(q1, .inl (C 0, 5, .inl (fun _ => 0)))], [(q2, .inl (C 0, 15, .inl (fun _ => 0)))]])) := hD
  refine va_putF (D := D) (ci := 2) (v := .ref q2) (ty := .array .int) (C := RX2) (T := TX2) (N := 3) hx hb hw inW_X2 tyX2 tyX2_ok nmX2 hown hK hP hD hS 0 rfl rfl 2 (by decide) (hw _ mw_1_118) (fun _ h9 => h9) rfl hname rfl (by decide +kernel) rfl rfl (Nat.le_of_ble_eq_true rfl) dX2_init_16 (fun H locs hP hD hS => ?_)
  have hP : va_P D vwCl (List.flatten ([[(a0, .inr (2, [.int 0, .ref q1, .ref q2]))], [(q1, .inl (C 0, 5, .inl (fun _ => 0)))], [(q2, .inl (C 0, 15, .inl (fun _ => 0)))]])) H := hP
  have hD : va_D A (List.flatten ([[(a0, .inr (2, [.int 0, .ref q1, .ref q2]))], [(q1, .inl (C 0, 5, .inl (fun _ => 0)))], [(q2, .inl (C 0, 15, .inl (fun _ => 0)))]])) := hD
  refine W.widen (k := 2) (n := 20) (by decide) (by decide) ?_
  exact cRetV (post := fun (u : Nat → Nat) => u 0 = a0) (u := (fun i => [a0, q1, q2].getD i 0)) (wf := fun u => [cLocks (u 0) (u 1) (u 2) C 0 (fun _ => 0) (fun _ => 0)]) hx hb hr hlocks hS hP hD rfl dX2_init_19
abbrev vsX9_init : List Cond := Cond.code yX9_init cX9_init 1 none :: WS
abbrev rmX9_init : Room := { frames := 1, cells := 5, slots := 30, locals := 12 }
set_option maxHeartbeats 4000000 in
set_option maxRecDepth 100000 in
theorem i_X9_init (l : Launch) (D : va_G) (C : Nat → ClassId) (sz : Nat) (a0 : Nat) : Met l yX9_init vsX9_init rmX9_init (cPre D C [.ref a0] sz ([[(a0, .inr (9, [.int 0, .null, .null, .null, .null, .null]))]])) (cQv D (fun (u : Nat → Nat) => u 0 = a0) (fun u => [cThieves (u 0) (u 1) (u 2) (u 3) (u 4) (u 5) C 0 (fun _ => 0) (fun _ => 0) (fun _ => 0) (fun _ => 0) (fun _ => 0)]) (va_A (List.flatten ([[(a0, .inr (9, [.int 0, .null, .null, .null, .null, .null]))]])) sz)) 5 30 (va_A (List.flatten ([[(a0, .inr (9, [.int 0, .null, .null, .null, .null, .null]))]])) sz) := by
  refine cStart (QA := fun A => cQv D (fun (u : Nat → Nat) => u 0 = a0) (fun u => [cThieves (u 0) (u 1) (u 2) (u 3) (u 4) (u 5) C 0 (fun _ => 0) (fun _ => 0) (fun _ => 0) (fun _ => 0) (fun _ => 0)]) A) (cc := cX9_init) (maxL := 1) (ret := none) (by decide) (Nat.le_of_ble_eq_true rfl) ?_
  intro p e s m args below meth c A ls hx hb hr hml hown hw hlocks hname hK hN hA hP hD hS hl
  have hl : lv_has ls 1 [(0, .ref a0)] := hl
  refine lv_aload_n hx hb dX9_init_0 rfl (lv_at hl 0 rfl) ?_
  refine W.objInit hx hb hown (hw _ mw_1_173) (hw _ mw_1_27) (hw _ mw_1_28) rfl (by rw [hml]; exact hl.1) rfl dX9_init_1 (Nat.le_of_ble_eq_true rfl) (Nat.le_of_ble_eq_true rfl) ?_
  refine lv_aload_n hx hb dX9_init_4 rfl (lv_at hl 0 rfl) ?_
  refine lv_bipush (v := 6) hx hb dX9_init_5 (by decide) ?_
  refine cNewI hx hb (hw _ mw_1_105) hK hP hD hS hA 6 (by decide) (by decide +kernel) (by decide +kernel) (Nat.le_of_ble_eq_true rfl) (Nat.le_of_ble_eq_true rfl) dX9_init_7 (fun q1 H hP hD hS => ?_)
  have hP : va_P D vwCl (List.flatten ([[(a0, .inr (9, [.int 0, .null, .null, .null, .null, .null]))], [(q1, .inl (C 0, 6, .inl (fun _ => 0)))]])) H := hP
  have hD : va_D A (List.flatten ([[(a0, .inr (9, [.int 0, .null, .null, .null, .null, .null]))], [(q1, .inl (C 0, 6, .inl (fun _ => 0)))]])) := hD
  refine va_putF (D := D) (ci := 9) (v := .ref q1) (ty := .array .int) (C := RX9) (T := TX9) (N := 6) hx hb hw inW_X9 tyX9 tyX9_ok nmX9 hown hK hP hD hS 0 rfl rfl 1 (by decide) (hw _ mw_1_179) (fun _ h9 => h9) rfl hname rfl (by decide +kernel) rfl rfl (Nat.le_of_ble_eq_true rfl) dX9_init_9 (fun H locs hP hD hS => ?_)
  have hP : va_P D vwCl (List.flatten ([[(a0, .inr (9, [.int 0, .ref q1, .null, .null, .null, .null]))], [(q1, .inl (C 0, 6, .inl (fun _ => 0)))]])) H := hP
  have hD : va_D A (List.flatten ([[(a0, .inr (9, [.int 0, .ref q1, .null, .null, .null, .null]))], [(q1, .inl (C 0, 6, .inl (fun _ => 0)))]])) := hD
  refine lv_aload_n hx hb dX9_init_12 rfl (lv_at hl 0 rfl) ?_
  refine lv_bipush (v := 6) hx hb dX9_init_13 (by decide) ?_
  refine cNewI hx hb (hw _ mw_1_105) hK hP hD hS hA 6 (by decide) (by decide +kernel) (by decide +kernel) (Nat.le_of_ble_eq_true rfl) (Nat.le_of_ble_eq_true rfl) dX9_init_15 (fun q2 H hP hD hS => ?_)
  have hP : va_P D vwCl (List.flatten ([[(a0, .inr (9, [.int 0, .ref q1, .null, .null, .null, .null]))], [(q1, .inl (C 0, 6, .inl (fun _ => 0)))], [(q2, .inl (C 0, 6, .inl (fun _ => 0)))]])) H := hP
  have hD : va_D A (List.flatten ([[(a0, .inr (9, [.int 0, .ref q1, .null, .null, .null, .null]))], [(q1, .inl (C 0, 6, .inl (fun _ => 0)))], [(q2, .inl (C 0, 6, .inl (fun _ => 0)))]])) := hD
  refine va_putF (D := D) (ci := 9) (v := .ref q2) (ty := .array .int) (C := RX9) (T := TX9) (N := 6) hx hb hw inW_X9 tyX9 tyX9_ok nmX9 hown hK hP hD hS 0 rfl rfl 2 (by decide) (hw _ mw_1_181) (fun _ h9 => h9) rfl hname rfl (by decide +kernel) rfl rfl (Nat.le_of_ble_eq_true rfl) dX9_init_17 (fun H locs hP hD hS => ?_)
  have hP : va_P D vwCl (List.flatten ([[(a0, .inr (9, [.int 0, .ref q1, .ref q2, .null, .null, .null]))], [(q1, .inl (C 0, 6, .inl (fun _ => 0)))], [(q2, .inl (C 0, 6, .inl (fun _ => 0)))]])) H := hP
  have hD : va_D A (List.flatten ([[(a0, .inr (9, [.int 0, .ref q1, .ref q2, .null, .null, .null]))], [(q1, .inl (C 0, 6, .inl (fun _ => 0)))], [(q2, .inl (C 0, 6, .inl (fun _ => 0)))]])) := hD
  refine lv_aload_n hx hb dX9_init_20 rfl (lv_at hl 0 rfl) ?_
  refine lv_bipush (v := 6) hx hb dX9_init_21 (by decide) ?_
  refine cNewI hx hb (hw _ mw_1_105) hK hP hD hS hA 6 (by decide) (by decide +kernel) (by decide +kernel) (Nat.le_of_ble_eq_true rfl) (Nat.le_of_ble_eq_true rfl) dX9_init_23 (fun q3 H hP hD hS => ?_)
  have hP : va_P D vwCl (List.flatten ([[(a0, .inr (9, [.int 0, .ref q1, .ref q2, .null, .null, .null]))], [(q1, .inl (C 0, 6, .inl (fun _ => 0)))], [(q2, .inl (C 0, 6, .inl (fun _ => 0)))], [(q3, .inl (C 0, 6, .inl (fun _ => 0)))]])) H := hP
  have hD : va_D A (List.flatten ([[(a0, .inr (9, [.int 0, .ref q1, .ref q2, .null, .null, .null]))], [(q1, .inl (C 0, 6, .inl (fun _ => 0)))], [(q2, .inl (C 0, 6, .inl (fun _ => 0)))], [(q3, .inl (C 0, 6, .inl (fun _ => 0)))]])) := hD
  refine va_putF (D := D) (ci := 9) (v := .ref q3) (ty := .array .int) (C := RX9) (T := TX9) (N := 6) hx hb hw inW_X9 tyX9 tyX9_ok nmX9 hown hK hP hD hS 0 rfl rfl 3 (by decide) (hw _ mw_1_183) (fun _ h9 => h9) rfl hname rfl (by decide +kernel) rfl rfl (Nat.le_of_ble_eq_true rfl) dX9_init_25 (fun H locs hP hD hS => ?_)
  have hP : va_P D vwCl (List.flatten ([[(a0, .inr (9, [.int 0, .ref q1, .ref q2, .ref q3, .null, .null]))], [(q1, .inl (C 0, 6, .inl (fun _ => 0)))], [(q2, .inl (C 0, 6, .inl (fun _ => 0)))], [(q3, .inl (C 0, 6, .inl (fun _ => 0)))]])) H := hP
  have hD : va_D A (List.flatten ([[(a0, .inr (9, [.int 0, .ref q1, .ref q2, .ref q3, .null, .null]))], [(q1, .inl (C 0, 6, .inl (fun _ => 0)))], [(q2, .inl (C 0, 6, .inl (fun _ => 0)))], [(q3, .inl (C 0, 6, .inl (fun _ => 0)))]])) := hD
  refine lv_aload_n hx hb dX9_init_28 rfl (lv_at hl 0 rfl) ?_
  refine lv_bipush (v := 6) hx hb dX9_init_29 (by decide) ?_
  refine cNewI hx hb (hw _ mw_1_105) hK hP hD hS hA 6 (by decide) (by decide +kernel) (by decide +kernel) (Nat.le_of_ble_eq_true rfl) (Nat.le_of_ble_eq_true rfl) dX9_init_31 (fun q4 H hP hD hS => ?_)
  have hP : va_P D vwCl (List.flatten ([[(a0, .inr (9, [.int 0, .ref q1, .ref q2, .ref q3, .null, .null]))], [(q1, .inl (C 0, 6, .inl (fun _ => 0)))], [(q2, .inl (C 0, 6, .inl (fun _ => 0)))], [(q3, .inl (C 0, 6, .inl (fun _ => 0)))], [(q4, .inl (C 0, 6, .inl (fun _ => 0)))]])) H := hP
  have hD : va_D A (List.flatten ([[(a0, .inr (9, [.int 0, .ref q1, .ref q2, .ref q3, .null, .null]))], [(q1, .inl (C 0, 6, .inl (fun _ => 0)))], [(q2, .inl (C 0, 6, .inl (fun _ => 0)))], [(q3, .inl (C 0, 6, .inl (fun _ => 0)))], [(q4, .inl (C 0, 6, .inl (fun _ => 0)))]])) := hD
  refine va_putF (D := D) (ci := 9) (v := .ref q4) (ty := .array .int) (C := RX9) (T := TX9) (N := 6) hx hb hw inW_X9 tyX9 tyX9_ok nmX9 hown hK hP hD hS 0 rfl rfl 4 (by decide) (hw _ mw_1_185) (fun _ h9 => h9) rfl hname rfl (by decide +kernel) rfl rfl (Nat.le_of_ble_eq_true rfl) dX9_init_33 (fun H locs hP hD hS => ?_)
  have hP : va_P D vwCl (List.flatten ([[(a0, .inr (9, [.int 0, .ref q1, .ref q2, .ref q3, .ref q4, .null]))], [(q1, .inl (C 0, 6, .inl (fun _ => 0)))], [(q2, .inl (C 0, 6, .inl (fun _ => 0)))], [(q3, .inl (C 0, 6, .inl (fun _ => 0)))], [(q4, .inl (C 0, 6, .inl (fun _ => 0)))]])) H := hP
  have hD : va_D A (List.flatten ([[(a0, .inr (9, [.int 0, .ref q1, .ref q2, .ref q3, .ref q4, .null]))], [(q1, .inl (C 0, 6, .inl (fun _ => 0)))], [(q2, .inl (C 0, 6, .inl (fun _ => 0)))], [(q3, .inl (C 0, 6, .inl (fun _ => 0)))], [(q4, .inl (C 0, 6, .inl (fun _ => 0)))]])) := hD
  refine lv_aload_n hx hb dX9_init_36 rfl (lv_at hl 0 rfl) ?_
  refine lv_bipush (v := 6) hx hb dX9_init_37 (by decide) ?_
  refine cNewI hx hb (hw _ mw_1_105) hK hP hD hS hA 6 (by decide) (by decide +kernel) (by decide +kernel) (Nat.le_of_ble_eq_true rfl) (Nat.le_of_ble_eq_true rfl) dX9_init_39 (fun q5 H hP hD hS => ?_)
  have hP : va_P D vwCl (List.flatten ([[(a0, .inr (9, [.int 0, .ref q1, .ref q2, .ref q3, .ref q4, .null]))], [(q1, .inl (C 0, 6, .inl (fun _ => 0)))], [(q2, .inl (C 0, 6, .inl (fun _ => 0)))], [(q3, .inl (C 0, 6, .inl (fun _ => 0)))], [(q4, .inl (C 0, 6, .inl (fun _ => 0)))], [(q5, .inl (C 0, 6, .inl (fun _ => 0)))]])) H := hP
  have hD : va_D A (List.flatten ([[(a0, .inr (9, [.int 0, .ref q1, .ref q2, .ref q3, .ref q4, .null]))], [(q1, .inl (C 0, 6, .inl (fun _ => 0)))], [(q2, .inl (C 0, 6, .inl (fun _ => 0)))], [(q3, .inl (C 0, 6, .inl (fun _ => 0)))], [(q4, .inl (C 0, 6, .inl (fun _ => 0)))], [(q5, .inl (C 0, 6, .inl (fun _ => 0)))]])) := hD
  refine va_putF (D := D) (ci := 9) (v := .ref q5) (ty := .array .int) (C := RX9) (T := TX9) (N := 6) hx hb hw inW_X9 tyX9 tyX9_ok nmX9 hown hK hP hD hS 0 rfl rfl 5 (by decide) (hw _ mw_1_187) (fun _ h9 => h9) rfl hname rfl (by decide +kernel) rfl rfl (Nat.le_of_ble_eq_true rfl) dX9_init_41 (fun H locs hP hD hS => ?_)
  have hP : va_P D vwCl (List.flatten ([[(a0, .inr (9, [.int 0, .ref q1, .ref q2, .ref q3, .ref q4, .ref q5]))], [(q1, .inl (C 0, 6, .inl (fun _ => 0)))], [(q2, .inl (C 0, 6, .inl (fun _ => 0)))], [(q3, .inl (C 0, 6, .inl (fun _ => 0)))], [(q4, .inl (C 0, 6, .inl (fun _ => 0)))], [(q5, .inl (C 0, 6, .inl (fun _ => 0)))]])) H := hP
  have hD : va_D A (List.flatten ([[(a0, .inr (9, [.int 0, .ref q1, .ref q2, .ref q3, .ref q4, .ref q5]))], [(q1, .inl (C 0, 6, .inl (fun _ => 0)))], [(q2, .inl (C 0, 6, .inl (fun _ => 0)))], [(q3, .inl (C 0, 6, .inl (fun _ => 0)))], [(q4, .inl (C 0, 6, .inl (fun _ => 0)))], [(q5, .inl (C 0, 6, .inl (fun _ => 0)))]])) := hD
  refine W.widen (k := 5) (n := 30) (by decide) (by decide) ?_
  exact cRetV (post := fun (u : Nat → Nat) => u 0 = a0) (u := (fun i => [a0, q1, q2, q3, q4, q5].getD i 0)) (wf := fun u => [cThieves (u 0) (u 1) (u 2) (u 3) (u 4) (u 5) C 0 (fun _ => 0) (fun _ => 0) (fun _ => 0) (fun _ => 0) (fun _ => 0)]) hx hb hr hlocks hS hP hD rfl dX9_init_44
abbrev vsX10_init : List Cond := Cond.code yX10_init cX10_init 1 none :: WS
abbrev rmX10_init : Room := { frames := 1, cells := 2, slots := 16, locals := 12 }
set_option maxHeartbeats 4000000 in
set_option maxRecDepth 100000 in
theorem i_X10_init (l : Launch) (D : va_G) (C : Nat → ClassId) (sz : Nat) (a0 : Nat) : Met l yX10_init vsX10_init rmX10_init (cPre D C [.ref a0] sz ([[(a0, .inr (10, [.int 0, .null, .null]))]])) (cQv D (fun (u : Nat → Nat) => u 0 = a0) (fun u => [cYear (u 0) (u 1) (u 2) C 0 (fun _ => 0) (fun _ => 0)]) (va_A (List.flatten ([[(a0, .inr (10, [.int 0, .null, .null]))]])) sz)) 2 16 (va_A (List.flatten ([[(a0, .inr (10, [.int 0, .null, .null]))]])) sz) := by
  refine cStart (QA := fun A => cQv D (fun (u : Nat → Nat) => u 0 = a0) (fun u => [cYear (u 0) (u 1) (u 2) C 0 (fun _ => 0) (fun _ => 0)]) A) (cc := cX10_init) (maxL := 1) (ret := none) (by decide) (Nat.le_of_ble_eq_true rfl) ?_
  intro p e s m args below meth c A ls hx hb hr hml hown hw hlocks hname hK hN hA hP hD hS hl
  have hl : lv_has ls 1 [(0, .ref a0)] := hl
  refine lv_aload_n hx hb dX10_init_0 rfl (lv_at hl 0 rfl) ?_
  refine W.objInit hx hb hown (hw _ mw_1_207) (hw _ mw_1_27) (hw _ mw_1_28) rfl (by rw [hml]; exact hl.1) rfl dX10_init_1 (Nat.le_of_ble_eq_true rfl) (Nat.le_of_ble_eq_true rfl) ?_
  refine lv_aload_n hx hb dX10_init_4 rfl (lv_at hl 0 rfl) ?_
  refine lv_bipush (v := 10) hx hb dX10_init_5 (by decide) ?_
  refine cNewI hx hb (hw _ mw_1_105) hK hP hD hS hA 10 (by decide) (by decide +kernel) (by decide +kernel) (Nat.le_of_ble_eq_true rfl) (Nat.le_of_ble_eq_true rfl) dX10_init_7 (fun q1 H hP hD hS => ?_)
  have hP : va_P D vwCl (List.flatten ([[(a0, .inr (10, [.int 0, .null, .null]))], [(q1, .inl (C 0, 10, .inl (fun _ => 0)))]])) H := hP
  have hD : va_D A (List.flatten ([[(a0, .inr (10, [.int 0, .null, .null]))], [(q1, .inl (C 0, 10, .inl (fun _ => 0)))]])) := hD
  refine va_putF (D := D) (ci := 10) (v := .ref q1) (ty := .array .int) (C := RX10) (T := TX10) (N := 3) hx hb hw inW_X10 tyX10 tyX10_ok nmX10 hown hK hP hD hS 0 rfl rfl 1 (by decide) (hw _ mw_1_211) (fun _ h9 => h9) rfl hname rfl (by decide +kernel) rfl rfl (Nat.le_of_ble_eq_true rfl) dX10_init_9 (fun H locs hP hD hS => ?_)
  have hP : va_P D vwCl (List.flatten ([[(a0, .inr (10, [.int 0, .ref q1, .null]))], [(q1, .inl (C 0, 10, .inl (fun _ => 0)))]])) H := hP
  have hD : va_D A (List.flatten ([[(a0, .inr (10, [.int 0, .ref q1, .null]))], [(q1, .inl (C 0, 10, .inl (fun _ => 0)))]])) := hD
  refine lv_aload_n hx hb dX10_init_12 rfl (lv_at hl 0 rfl) ?_
  refine lv_bipush (v := 6) hx hb dX10_init_13 (by decide) ?_
  refine cNewI hx hb (hw _ mw_1_105) hK hP hD hS hA 6 (by decide) (by decide +kernel) (by decide +kernel) (Nat.le_of_ble_eq_true rfl) (Nat.le_of_ble_eq_true rfl) dX10_init_15 (fun q2 H hP hD hS => ?_)
  have hP : va_P D vwCl (List.flatten ([[(a0, .inr (10, [.int 0, .ref q1, .null]))], [(q1, .inl (C 0, 10, .inl (fun _ => 0)))], [(q2, .inl (C 0, 6, .inl (fun _ => 0)))]])) H := hP
  have hD : va_D A (List.flatten ([[(a0, .inr (10, [.int 0, .ref q1, .null]))], [(q1, .inl (C 0, 10, .inl (fun _ => 0)))], [(q2, .inl (C 0, 6, .inl (fun _ => 0)))]])) := hD
  refine va_putF (D := D) (ci := 10) (v := .ref q2) (ty := .array .int) (C := RX10) (T := TX10) (N := 3) hx hb hw inW_X10 tyX10 tyX10_ok nmX10 hown hK hP hD hS 0 rfl rfl 2 (by decide) (hw _ mw_1_215) (fun _ h9 => h9) rfl hname rfl (by decide +kernel) rfl rfl (Nat.le_of_ble_eq_true rfl) dX10_init_17 (fun H locs hP hD hS => ?_)
  have hP : va_P D vwCl (List.flatten ([[(a0, .inr (10, [.int 0, .ref q1, .ref q2]))], [(q1, .inl (C 0, 10, .inl (fun _ => 0)))], [(q2, .inl (C 0, 6, .inl (fun _ => 0)))]])) H := hP
  have hD : va_D A (List.flatten ([[(a0, .inr (10, [.int 0, .ref q1, .ref q2]))], [(q1, .inl (C 0, 10, .inl (fun _ => 0)))], [(q2, .inl (C 0, 6, .inl (fun _ => 0)))]])) := hD
  refine W.widen (k := 2) (n := 16) (by decide) (by decide) ?_
  exact cRetV (post := fun (u : Nat → Nat) => u 0 = a0) (u := (fun i => [a0, q1, q2].getD i 0)) (wf := fun u => [cYear (u 0) (u 1) (u 2) C 0 (fun _ => 0) (fun _ => 0)]) hx hb hr hlocks hS hP hD rfl dX10_init_20
abbrev vsX7_init : List Cond := Cond.code yX7_init cX7_init 1 none :: WS
abbrev rmX7_init : Room := { frames := 1, cells := 4, slots := 8704, locals := 12 }
set_option maxHeartbeats 4000000 in
set_option maxRecDepth 100000 in
theorem i_X7_init (l : Launch) (D : va_G) (C : Nat → ClassId) (sz : Nat) (a0 : Nat) : Met l yX7_init vsX7_init rmX7_init (cPre D C [.ref a0] sz ([[(a0, .inr (7, [.int 0, .null, .null, .null, .null]))]])) (cQv D (fun (u : Nat → Nat) => u 0 = a0) (fun u => [cSpread (u 0) (u 1) (u 2) (u 3) (u 4) C 0 (fun _ => 0) (fun _ => 0) (fun _ => 0) (fun _ => 0)]) (va_A (List.flatten ([[(a0, .inr (7, [.int 0, .null, .null, .null, .null]))]])) sz)) 4 8704 (va_A (List.flatten ([[(a0, .inr (7, [.int 0, .null, .null, .null, .null]))]])) sz) := by
  refine cStart (QA := fun A => cQv D (fun (u : Nat → Nat) => u 0 = a0) (fun u => [cSpread (u 0) (u 1) (u 2) (u 3) (u 4) C 0 (fun _ => 0) (fun _ => 0) (fun _ => 0) (fun _ => 0)]) A) (cc := cX7_init) (maxL := 1) (ret := none) (by decide) (Nat.le_of_ble_eq_true rfl) ?_
  intro p e s m args below meth c A ls hx hb hr hml hown hw hlocks hname hK hN hA hP hD hS hl
  have hl : lv_has ls 1 [(0, .ref a0)] := hl
  refine lv_aload_n hx hb dX7_init_0 rfl (lv_at hl 0 rfl) ?_
  refine W.objInit hx hb hown (hw _ mw_2_90) (hw _ mw_1_27) (hw _ mw_1_28) rfl (by rw [hml]; exact hl.1) rfl dX7_init_1 (Nat.le_of_ble_eq_true rfl) (Nat.le_of_ble_eq_true rfl) ?_
  refine lv_aload_n hx hb dX7_init_4 rfl (lv_at hl 0 rfl) ?_
  refine lv_sipush (v := 1536) hx hb dX7_init_5 (by decide) ?_
  refine cNewI hx hb (hw _ mw_1_105) hK hP hD hS hA 1536 (by decide) (by decide +kernel) (by decide +kernel) (Nat.le_of_ble_eq_true rfl) (Nat.le_of_ble_eq_true rfl) dX7_init_8 (fun q1 H hP hD hS => ?_)
  have hP : va_P D vwCl (List.flatten ([[(a0, .inr (7, [.int 0, .null, .null, .null, .null]))], [(q1, .inl (C 0, 1536, .inl (fun _ => 0)))]])) H := hP
  have hD : va_D A (List.flatten ([[(a0, .inr (7, [.int 0, .null, .null, .null, .null]))], [(q1, .inl (C 0, 1536, .inl (fun _ => 0)))]])) := hD
  refine va_putF (D := D) (ci := 7) (v := .ref q1) (ty := .array .int) (C := RX7) (T := TX7) (N := 5) hx hb hw inW_X7 tyX7 tyX7_ok nmX7 hown hK hP hD hS 0 rfl rfl 1 (by decide) (hw _ mw_2_93) (fun _ h9 => h9) rfl hname rfl (by decide +kernel) rfl rfl (Nat.le_of_ble_eq_true rfl) dX7_init_10 (fun H locs hP hD hS => ?_)
  have hP : va_P D vwCl (List.flatten ([[(a0, .inr (7, [.int 0, .ref q1, .null, .null, .null]))], [(q1, .inl (C 0, 1536, .inl (fun _ => 0)))]])) H := hP
  have hD : va_D A (List.flatten ([[(a0, .inr (7, [.int 0, .ref q1, .null, .null, .null]))], [(q1, .inl (C 0, 1536, .inl (fun _ => 0)))]])) := hD
  refine lv_aload_n hx hb dX7_init_13 rfl (lv_at hl 0 rfl) ?_
  refine lv_sipush (v := 1536) hx hb dX7_init_14 (by decide) ?_
  refine cNewL hx hb (hw _ mw_2_78) hK hP hD hS hA 1536 (by decide) (by decide +kernel) (by decide +kernel) (Nat.le_of_ble_eq_true rfl) (Nat.le_of_ble_eq_true rfl) dX7_init_17 (fun q2 H hP hD hS => ?_)
  have hP : va_P D vwCl (List.flatten ([[(a0, .inr (7, [.int 0, .ref q1, .null, .null, .null]))], [(q1, .inl (C 0, 1536, .inl (fun _ => 0)))], [(q2, .inl (C 1, 1536, .inr (.inl (fun _ => 0))))]])) H := hP
  have hD : va_D A (List.flatten ([[(a0, .inr (7, [.int 0, .ref q1, .null, .null, .null]))], [(q1, .inl (C 0, 1536, .inl (fun _ => 0)))], [(q2, .inl (C 1, 1536, .inr (.inl (fun _ => 0))))]])) := hD
  refine va_putF (D := D) (ci := 7) (v := .ref q2) (ty := .array .long) (C := RX7) (T := TX7) (N := 5) hx hb hw inW_X7 tyX7 tyX7_ok nmX7 hown hK hP hD hS 0 rfl rfl 2 (by decide) (hw _ mw_2_95) (fun _ h9 => h9) rfl hname rfl (by decide +kernel) rfl rfl (Nat.le_of_ble_eq_true rfl) dX7_init_19 (fun H locs hP hD hS => ?_)
  have hP : va_P D vwCl (List.flatten ([[(a0, .inr (7, [.int 0, .ref q1, .ref q2, .null, .null]))], [(q1, .inl (C 0, 1536, .inl (fun _ => 0)))], [(q2, .inl (C 1, 1536, .inr (.inl (fun _ => 0))))]])) H := hP
  have hD : va_D A (List.flatten ([[(a0, .inr (7, [.int 0, .ref q1, .ref q2, .null, .null]))], [(q1, .inl (C 0, 1536, .inl (fun _ => 0)))], [(q2, .inl (C 1, 1536, .inr (.inl (fun _ => 0))))]])) := hD
  refine lv_aload_n hx hb dX7_init_22 rfl (lv_at hl 0 rfl) ?_
  refine lv_sipush (v := 1536) hx hb dX7_init_23 (by decide) ?_
  refine cNewI hx hb (hw _ mw_1_105) hK hP hD hS hA 1536 (by decide) (by decide +kernel) (by decide +kernel) (Nat.le_of_ble_eq_true rfl) (Nat.le_of_ble_eq_true rfl) dX7_init_26 (fun q3 H hP hD hS => ?_)
  have hP : va_P D vwCl (List.flatten ([[(a0, .inr (7, [.int 0, .ref q1, .ref q2, .null, .null]))], [(q1, .inl (C 0, 1536, .inl (fun _ => 0)))], [(q2, .inl (C 1, 1536, .inr (.inl (fun _ => 0))))], [(q3, .inl (C 0, 1536, .inl (fun _ => 0)))]])) H := hP
  have hD : va_D A (List.flatten ([[(a0, .inr (7, [.int 0, .ref q1, .ref q2, .null, .null]))], [(q1, .inl (C 0, 1536, .inl (fun _ => 0)))], [(q2, .inl (C 1, 1536, .inr (.inl (fun _ => 0))))], [(q3, .inl (C 0, 1536, .inl (fun _ => 0)))]])) := hD
  refine va_putF (D := D) (ci := 7) (v := .ref q3) (ty := .array .int) (C := RX7) (T := TX7) (N := 5) hx hb hw inW_X7 tyX7 tyX7_ok nmX7 hown hK hP hD hS 0 rfl rfl 3 (by decide) (hw _ mw_2_97) (fun _ h9 => h9) rfl hname rfl (by decide +kernel) rfl rfl (Nat.le_of_ble_eq_true rfl) dX7_init_28 (fun H locs hP hD hS => ?_)
  have hP : va_P D vwCl (List.flatten ([[(a0, .inr (7, [.int 0, .ref q1, .ref q2, .ref q3, .null]))], [(q1, .inl (C 0, 1536, .inl (fun _ => 0)))], [(q2, .inl (C 1, 1536, .inr (.inl (fun _ => 0))))], [(q3, .inl (C 0, 1536, .inl (fun _ => 0)))]])) H := hP
  have hD : va_D A (List.flatten ([[(a0, .inr (7, [.int 0, .ref q1, .ref q2, .ref q3, .null]))], [(q1, .inl (C 0, 1536, .inl (fun _ => 0)))], [(q2, .inl (C 1, 1536, .inr (.inl (fun _ => 0))))], [(q3, .inl (C 0, 1536, .inl (fun _ => 0)))]])) := hD
  refine lv_aload_n hx hb dX7_init_31 rfl (lv_at hl 0 rfl) ?_
  refine lv_sipush (v := 4096) hx hb dX7_init_32 (by decide) ?_
  refine cNewI hx hb (hw _ mw_1_105) hK hP hD hS hA 4096 (by decide) (by decide +kernel) (by decide +kernel) (Nat.le_of_ble_eq_true rfl) (Nat.le_of_ble_eq_true rfl) dX7_init_35 (fun q4 H hP hD hS => ?_)
  have hP : va_P D vwCl (List.flatten ([[(a0, .inr (7, [.int 0, .ref q1, .ref q2, .ref q3, .null]))], [(q1, .inl (C 0, 1536, .inl (fun _ => 0)))], [(q2, .inl (C 1, 1536, .inr (.inl (fun _ => 0))))], [(q3, .inl (C 0, 1536, .inl (fun _ => 0)))], [(q4, .inl (C 0, 4096, .inl (fun _ => 0)))]])) H := hP
  have hD : va_D A (List.flatten ([[(a0, .inr (7, [.int 0, .ref q1, .ref q2, .ref q3, .null]))], [(q1, .inl (C 0, 1536, .inl (fun _ => 0)))], [(q2, .inl (C 1, 1536, .inr (.inl (fun _ => 0))))], [(q3, .inl (C 0, 1536, .inl (fun _ => 0)))], [(q4, .inl (C 0, 4096, .inl (fun _ => 0)))]])) := hD
  refine va_putF (D := D) (ci := 7) (v := .ref q4) (ty := .array .int) (C := RX7) (T := TX7) (N := 5) hx hb hw inW_X7 tyX7 tyX7_ok nmX7 hown hK hP hD hS 0 rfl rfl 4 (by decide) (hw _ mw_2_98) (fun _ h9 => h9) rfl hname rfl (by decide +kernel) rfl rfl (Nat.le_of_ble_eq_true rfl) dX7_init_37 (fun H locs hP hD hS => ?_)
  have hP : va_P D vwCl (List.flatten ([[(a0, .inr (7, [.int 0, .ref q1, .ref q2, .ref q3, .ref q4]))], [(q1, .inl (C 0, 1536, .inl (fun _ => 0)))], [(q2, .inl (C 1, 1536, .inr (.inl (fun _ => 0))))], [(q3, .inl (C 0, 1536, .inl (fun _ => 0)))], [(q4, .inl (C 0, 4096, .inl (fun _ => 0)))]])) H := hP
  have hD : va_D A (List.flatten ([[(a0, .inr (7, [.int 0, .ref q1, .ref q2, .ref q3, .ref q4]))], [(q1, .inl (C 0, 1536, .inl (fun _ => 0)))], [(q2, .inl (C 1, 1536, .inr (.inl (fun _ => 0))))], [(q3, .inl (C 0, 1536, .inl (fun _ => 0)))], [(q4, .inl (C 0, 4096, .inl (fun _ => 0)))]])) := hD
  refine W.widen (k := 4) (n := 8704) (by decide) (by decide) ?_
  exact cRetV (post := fun (u : Nat → Nat) => u 0 = a0) (u := (fun i => [a0, q1, q2, q3, q4].getD i 0)) (wf := fun u => [cSpread (u 0) (u 1) (u 2) (u 3) (u 4) C 0 (fun _ => 0) (fun _ => 0) (fun _ => 0) (fun _ => 0)]) hx hb hr hlocks hS hP hD rfl dX7_init_40
abbrev vsX8_init : List Cond := Cond.code yX8_init cX8_init 1 none :: WS
abbrev rmX8_init : Room := { frames := 1, cells := 1, slots := 1600, locals := 12 }
set_option maxHeartbeats 4000000 in
set_option maxRecDepth 100000 in
theorem i_X8_init (l : Launch) (D : va_G) (C : Nat → ClassId) (sz : Nat) (a0 : Nat) : Met l yX8_init vsX8_init rmX8_init (cPre D C [.ref a0] sz ([[(a0, .inr (8, [.null, .int 0, .int 0, .int 0, .int 0, .int 0]))]])) (cQv D (fun (u : Nat → Nat) => u 0 = a0) (fun u => [cTape (u 0) (u 1) C (fun _ => 0) 0 0 0 0 0]) (va_A (List.flatten ([[(a0, .inr (8, [.null, .int 0, .int 0, .int 0, .int 0, .int 0]))]])) sz)) 1 1600 (va_A (List.flatten ([[(a0, .inr (8, [.null, .int 0, .int 0, .int 0, .int 0, .int 0]))]])) sz) := by
  refine cStart (QA := fun A => cQv D (fun (u : Nat → Nat) => u 0 = a0) (fun u => [cTape (u 0) (u 1) C (fun _ => 0) 0 0 0 0 0]) A) (cc := cX8_init) (maxL := 1) (ret := none) (by decide) (Nat.le_of_ble_eq_true rfl) ?_
  intro p e s m args below meth c A ls hx hb hr hml hown hw hlocks hname hK hN hA hP hD hS hl
  have hl : lv_has ls 1 [(0, .ref a0)] := hl
  refine lv_aload_n hx hb dX8_init_0 rfl (lv_at hl 0 rfl) ?_
  refine W.objInit hx hb hown (hw _ mw_1_40) (hw _ mw_1_27) (hw _ mw_1_28) rfl (by rw [hml]; exact hl.1) rfl dX8_init_1 (Nat.le_of_ble_eq_true rfl) (Nat.le_of_ble_eq_true rfl) ?_
  refine lv_aload_n hx hb dX8_init_4 rfl (lv_at hl 0 rfl) ?_
  refine lv_sipush (v := 1600) hx hb dX8_init_5 (by decide) ?_
  refine cNewB hx hb (hw _ mw_1_64) hK hP hD hS hA 1600 (by decide) (by decide +kernel) (by decide +kernel) (Nat.le_of_ble_eq_true rfl) (Nat.le_of_ble_eq_true rfl) dX8_init_8 (fun q1 H hP hD hS => ?_)
  have hP : va_P D vwCl (List.flatten ([[(a0, .inr (8, [.null, .int 0, .int 0, .int 0, .int 0, .int 0]))], [(q1, .inl (C 2, 1600, .inl (fun _ => 0)))]])) H := hP
  have hD : va_D A (List.flatten ([[(a0, .inr (8, [.null, .int 0, .int 0, .int 0, .int 0, .int 0]))], [(q1, .inl (C 2, 1600, .inl (fun _ => 0)))]])) := hD
  refine va_putF (D := D) (ci := 8) (v := .ref q1) (ty := .array .byte) (C := RX8) (T := TX8) (N := 6) hx hb hw inW_X8 tyX8 tyX8_ok nmX8 hown hK hP hD hS 0 rfl rfl 0 (by decide) (hw _ mw_1_41) (fun _ h9 => h9) rfl hname rfl (by decide +kernel) rfl rfl (Nat.le_of_ble_eq_true rfl) dX8_init_10 (fun H locs hP hD hS => ?_)
  have hP : va_P D vwCl (List.flatten ([[(a0, .inr (8, [.ref q1, .int 0, .int 0, .int 0, .int 0, .int 0]))], [(q1, .inl (C 2, 1600, .inl (fun _ => 0)))]])) H := hP
  have hD : va_D A (List.flatten ([[(a0, .inr (8, [.ref q1, .int 0, .int 0, .int 0, .int 0, .int 0]))], [(q1, .inl (C 2, 1600, .inl (fun _ => 0)))]])) := hD
  refine W.widen (k := 1) (n := 1600) (by decide) (by decide) ?_
  exact cRetV (post := fun (u : Nat → Nat) => u 0 = a0) (u := (fun i => [a0, q1].getD i 0)) (wf := fun u => [cTape (u 0) (u 1) C (fun _ => 0) 0 0 0 0 0]) hx hb hr hlocks hS hP hD rfl dX8_init_13
abbrev vsX6_init : List Cond := Cond.code yX6_init cX6_init 1 none :: WS
abbrev rmX6_init : Room := { frames := 1, cells := 3, slots := 248, locals := 12 }
set_option maxHeartbeats 4000000 in
set_option maxRecDepth 100000 in
theorem i_X6_init (l : Launch) (D : va_G) (C : Nat → ClassId) (sz : Nat) (a0 : Nat) : Met l yX6_init vsX6_init rmX6_init (cPre D C [.ref a0] sz ([[(a0, .inr (6, [.null, .null, .null]))]])) (cQv D (fun (u : Nat → Nat) => u 0 = a0) (fun u => wSlots u C (fun _ _ => 0) (fun _ _ => 0)) (va_A (List.flatten ([[(a0, .inr (6, [.null, .null, .null]))]])) sz)) 3 248 (va_A (List.flatten ([[(a0, .inr (6, [.null, .null, .null]))]])) sz) := by
  refine cStart (QA := fun A => cQv D (fun (u : Nat → Nat) => u 0 = a0) (fun u => wSlots u C (fun _ _ => 0) (fun _ _ => 0)) A) (cc := cX6_init) (maxL := 1) (ret := none) (by decide) (Nat.le_of_ble_eq_true rfl) ?_
  intro p e s m args below meth c A ls hx hb hr hml hown hw hlocks hname hK hN hA hP hD hS hl
  have hl : lv_has ls 1 [(0, .ref a0)] := hl
  refine lv_aload_n hx hb dX6_init_0 rfl (lv_at hl 0 rfl) ?_
  refine W.objInit hx hb hown (hw _ mw_2_67) (hw _ mw_1_27) (hw _ mw_1_28) rfl (by rw [hml]; exact hl.1) rfl dX6_init_1 (Nat.le_of_ble_eq_true rfl) (Nat.le_of_ble_eq_true rfl) ?_
  refine lv_aload_n hx hb dX6_init_4 rfl (lv_at hl 0 rfl) ?_
  refine lv_sipush (v := 240) hx hb dX6_init_5 (by decide) ?_
  refine cNewL hx hb (hw _ mw_2_78) hK hP hD hS hA 240 (by decide) (by decide +kernel) (by decide +kernel) (Nat.le_of_ble_eq_true rfl) (Nat.le_of_ble_eq_true rfl) dX6_init_8 (fun q1 H hP hD hS => ?_)
  have hP : va_P D vwCl (List.flatten ([[(a0, .inr (6, [.null, .null, .null]))], [(q1, .inl (C 1, 240, .inr (.inl (fun _ => 0))))]])) H := hP
  have hD : va_D A (List.flatten ([[(a0, .inr (6, [.null, .null, .null]))], [(q1, .inl (C 1, 240, .inr (.inl (fun _ => 0))))]])) := hD
  refine va_putF (D := D) (ci := 6) (v := .ref q1) (ty := .array .long) (C := RX6) (T := TX6) (N := 3) hx hb hw inW_X6 tyX6 tyX6_ok nmX6 hown hK hP hD hS 0 rfl rfl 0 (by decide) (hw _ mw_2_68) (fun _ h9 => h9) rfl hname rfl (by decide +kernel) rfl rfl (Nat.le_of_ble_eq_true rfl) dX6_init_10 (fun H locs hP hD hS => ?_)
  have hP : va_P D vwCl (List.flatten ([[(a0, .inr (6, [.ref q1, .null, .null]))], [(q1, .inl (C 1, 240, .inr (.inl (fun _ => 0))))]])) H := hP
  have hD : va_D A (List.flatten ([[(a0, .inr (6, [.ref q1, .null, .null]))], [(q1, .inl (C 1, 240, .inr (.inl (fun _ => 0))))]])) := hD
  refine lv_aload_n hx hb dX6_init_13 rfl (lv_at hl 0 rfl) ?_
  refine lv_iconst (v := 4) hx hb dX6_init_14 (by decide) ?_
  refine cNewI hx hb (hw _ mw_1_105) hK hP hD hS hA 4 (by decide) (by decide +kernel) (by decide +kernel) (Nat.le_of_ble_eq_true rfl) (Nat.le_of_ble_eq_true rfl) dX6_init_15 (fun q2 H hP hD hS => ?_)
  have hP : va_P D vwCl (List.flatten ([[(a0, .inr (6, [.ref q1, .null, .null]))], [(q1, .inl (C 1, 240, .inr (.inl (fun _ => 0))))], [(q2, .inl (C 0, 4, .inl (fun _ => 0)))]])) H := hP
  have hD : va_D A (List.flatten ([[(a0, .inr (6, [.ref q1, .null, .null]))], [(q1, .inl (C 1, 240, .inr (.inl (fun _ => 0))))], [(q2, .inl (C 0, 4, .inl (fun _ => 0)))]])) := hD
  refine va_putF (D := D) (ci := 6) (v := .ref q2) (ty := .array .int) (C := RX6) (T := TX6) (N := 3) hx hb hw inW_X6 tyX6 tyX6_ok nmX6 hown hK hP hD hS 0 rfl rfl 1 (by decide) (hw _ mw_2_69) (fun _ h9 => h9) rfl hname rfl (by decide +kernel) rfl rfl (Nat.le_of_ble_eq_true rfl) dX6_init_17 (fun H locs hP hD hS => ?_)
  have hP : va_P D vwCl (List.flatten ([[(a0, .inr (6, [.ref q1, .ref q2, .null]))], [(q1, .inl (C 1, 240, .inr (.inl (fun _ => 0))))], [(q2, .inl (C 0, 4, .inl (fun _ => 0)))]])) H := hP
  have hD : va_D A (List.flatten ([[(a0, .inr (6, [.ref q1, .ref q2, .null]))], [(q1, .inl (C 1, 240, .inr (.inl (fun _ => 0))))], [(q2, .inl (C 0, 4, .inl (fun _ => 0)))]])) := hD
  refine lv_aload_n hx hb dX6_init_20 rfl (lv_at hl 0 rfl) ?_
  refine lv_iconst (v := 4) hx hb dX6_init_21 (by decide) ?_
  refine cNewI hx hb (hw _ mw_1_105) hK hP hD hS hA 4 (by decide) (by decide +kernel) (by decide +kernel) (Nat.le_of_ble_eq_true rfl) (Nat.le_of_ble_eq_true rfl) dX6_init_22 (fun q3 H hP hD hS => ?_)
  have hP : va_P D vwCl (List.flatten ([[(a0, .inr (6, [.ref q1, .ref q2, .null]))], [(q1, .inl (C 1, 240, .inr (.inl (fun _ => 0))))], [(q2, .inl (C 0, 4, .inl (fun _ => 0)))], [(q3, .inl (C 0, 4, .inl (fun _ => 0)))]])) H := hP
  have hD : va_D A (List.flatten ([[(a0, .inr (6, [.ref q1, .ref q2, .null]))], [(q1, .inl (C 1, 240, .inr (.inl (fun _ => 0))))], [(q2, .inl (C 0, 4, .inl (fun _ => 0)))], [(q3, .inl (C 0, 4, .inl (fun _ => 0)))]])) := hD
  refine va_putF (D := D) (ci := 6) (v := .ref q3) (ty := .array .int) (C := RX6) (T := TX6) (N := 3) hx hb hw inW_X6 tyX6 tyX6_ok nmX6 hown hK hP hD hS 0 rfl rfl 2 (by decide) (hw _ mw_2_70) (fun _ h9 => h9) rfl hname rfl (by decide +kernel) rfl rfl (Nat.le_of_ble_eq_true rfl) dX6_init_24 (fun H locs hP hD hS => ?_)
  have hP : va_P D vwCl (List.flatten ([[(a0, .inr (6, [.ref q1, .ref q2, .ref q3]))], [(q1, .inl (C 1, 240, .inr (.inl (fun _ => 0))))], [(q2, .inl (C 0, 4, .inl (fun _ => 0)))], [(q3, .inl (C 0, 4, .inl (fun _ => 0)))]])) H := hP
  have hD : va_D A (List.flatten ([[(a0, .inr (6, [.ref q1, .ref q2, .ref q3]))], [(q1, .inl (C 1, 240, .inr (.inl (fun _ => 0))))], [(q2, .inl (C 0, 4, .inl (fun _ => 0)))], [(q3, .inl (C 0, 4, .inl (fun _ => 0)))]])) := hD
  refine W.widen (k := 3) (n := 248) (by decide) (by decide) ?_
  exact cRetV (post := fun (u : Nat → Nat) => u 0 = a0) (u := (fun i => [a0, q1, q2, q3].getD i 0)) (wf := fun u => wSlots u C (fun _ _ => 0) (fun _ _ => 0)) hx hb hr hlocks hS hP hD rfl dX6_init_27
