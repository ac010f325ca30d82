abbrev vsX4_wipe : List Cond := Cond.code yX4_wipe cX4_wipe 1 none :: WS
abbrev rmX4_wipe : Room := { frames := 0, cells := 0, slots := 0, locals := 0 }
set_option maxHeartbeats 4000000 in
set_option maxRecDepth 100000 in
theorem k_X4_wipe (l : Launch) (D : va_G) (C : Nat → ClassId) (sz : Nat) (aR : Nat → Nat)  (rs : Nat → Int32) (ra : Nat → Nat → Int32)  {post : (Nat → Int32) → Prop} (h : P_X4_wipe rs post) : Met l yX4_wipe vsX4_wipe rmX4_wipe (cPre D C [.ref (aR 0)] sz (wRail aR C rs ra)) (cQv D (fun (u : (Nat → Int32)) => post u) (fun u => wRail aR C u ra) (va_A (List.flatten (wRail aR C rs ra)) sz)) 0 0 (va_A (List.flatten (wRail aR C rs ra)) sz) := by
  refine cStart (QA := fun A => cQv D (fun (u : (Nat → Int32)) => post u) (fun u => wRail aR C u ra) A) (cc := cX4_wipe) (maxL := 1) (ret := none) (by decide) (Nat.le_of_ble_eq_true rfl) ?_
  intro p e s m args below meth c A ls hx hb hr hml hown hw hlocks hname hK hN hA hP hD hS hl
  generalize hQ : MQ below _ args s 0 0 A = Q
  have hl : lv_has ls 1 [(0, .ref (aR 0))] := hl
  have hn56 : (Cond.fieldLinkNest "LockRail$Rail" 56 "LockRail$Lamps" "count" "I" "LockRail").before args s = true := hN.f 7 rfl
  have hn59 : (Cond.fieldLinkNest "LockRail$Rail" 59 "LockRail$Locks" "count" "I" "LockRail").before args s = true := hN.f 12 rfl
  have hn60 : (Cond.fieldLinkNest "LockRail$Rail" 60 "LockRail$Bikes" "count" "I" "LockRail").before args s = true := hN.f 17 rfl
  have hn61 : (Cond.fieldLinkNest "LockRail$Rail" 61 "LockRail$Thieves" "count" "I" "LockRail").before args s = true := hN.f 32 rfl
  have hn87 : (Cond.fieldLinkNest "LockRail$Rail" 87 "LockRail$Year" "isThere" "Z" "LockRail").before args s = true := hN.f 41 rfl
  obtain ⟨H, hH⟩ : ∃ H, H = s.heap := ⟨_, rfl⟩
  obtain ⟨locs, hlo⟩ : ∃ z : List Loc, z = [] := ⟨_, rfl⟩
  have hP : va_P D vwCl (List.flatten (wRail aR C rs ra)) H := by rw [hH]; exact hP
  have hS : va_S A s.heap H locs := by rw [hH, hlo]; exact hS
  rw [show W p l e rmX4_wipe s m args below meth c s.heap [] 0 0 Q (F0 m 0 ls []) = W p l e rmX4_wipe s m args below meth c H locs 0 0 Q (F0 m 0 ls []) from by rw [hH, hlo]]
  refine lv_aload_n hx hb dX4_wipe_0 rfl (lv_at hl 0 rfl) ?_
  refine lv_iconst (v := 0) hx hb dX4_wipe_1 (by decide) ?_
  refine va_put (D := D) (ci := 4) (v := .int 0) (ty := .int) (C := RX4) (T := TX4) (N := 16) hx hb hw inW_X4 tyX4 tyX4_ok nmX4 hown hK hP hD hS 0 rfl rfl 0 (by decide) (hw _ mw_1_225) (fun _ h9 => h9) rfl (by decide +kernel) rfl rfl (Nat.le_of_ble_eq_true rfl) dX4_wipe_2 (fun H locs hP hD hS => ?_)
  refine lv_aload_n hx hb dX4_wipe_5 rfl (lv_at hl 0 rfl) ?_
  refine lv_iconst (v := 0) hx hb dX4_wipe_6 (by decide) ?_
  refine va_put (D := D) (ci := 4) (v := .int 0) (ty := .int) (C := RX4) (T := TX4) (N := 16) hx hb hw inW_X4 tyX4 tyX4_ok nmX4 hown hK hP hD hS 0 rfl rfl 1 (by decide) (hw _ mw_1_228) (fun _ h9 => h9) rfl (by decide +kernel) rfl rfl (Nat.le_of_ble_eq_true rfl) dX4_wipe_7 (fun H locs hP hD hS => ?_)
  refine lv_aload_n hx hb dX4_wipe_10 rfl (lv_at hl 0 rfl) ?_
  refine lv_iconst (v := 0) hx hb dX4_wipe_11 (by decide) ?_
  refine va_put (D := D) (ci := 4) (v := .int 0) (ty := .int) (C := RX4) (T := TX4) (N := 16) hx hb hw inW_X4 tyX4 tyX4_ok nmX4 hown hK hP hD hS 0 rfl rfl 2 (by decide) (hw _ mw_1_232) (fun _ h9 => h9) rfl (by decide +kernel) rfl rfl (Nat.le_of_ble_eq_true rfl) dX4_wipe_12 (fun H locs hP hD hS => ?_)
  refine lv_aload_n hx hb dX4_wipe_15 rfl (lv_at hl 0 rfl) ?_
  refine va_get (D := D) (ci := 4) (v := .ref (aR 1)) (C := RX4) (T := TX4) (N := 16) hx hb hw inW_X4 hown hK hP 0 rfl rfl 3 (by decide) (hw _ mw_1_235) (fun _ h9 => h9) rfl dX4_wipe_16 ?_
  refine lv_iconst (v := 0) hx hb dX4_wipe_19 (by decide) ?_
  refine va_putN (D := D) (ci := 1) (v := .int 0) (ty := .int) (C := RX1) (T := TX1) (N := 3) hx hb hw inW_X1 tyX1 tyX1_ok nmX1 hown hK hP hD hS 1 rfl rfl 0 (by decide) hn56 (fun _ h9 => h9) rfl (by decide +kernel) rfl rfl (Nat.le_of_ble_eq_true rfl) dX4_wipe_20 (fun H locs hP hD hS => ?_)
  refine lv_aload_n hx hb dX4_wipe_23 rfl (lv_at hl 0 rfl) ?_
  refine va_get (D := D) (ci := 4) (v := .ref (aR 4)) (C := RX4) (T := TX4) (N := 16) hx hb hw inW_X4 hown hK hP 0 rfl rfl 4 (by decide) (hw _ mw_1_238) (fun _ h9 => h9) rfl dX4_wipe_24 ?_
  refine lv_iconst (v := 0) hx hb dX4_wipe_27 (by decide) ?_
  refine va_putN (D := D) (ci := 2) (v := .int 0) (ty := .int) (C := RX2) (T := TX2) (N := 3) hx hb hw inW_X2 tyX2 tyX2_ok nmX2 hown hK hP hD hS 4 rfl rfl 0 (by decide) hn59 (fun _ h9 => h9) rfl (by decide +kernel) rfl rfl (Nat.le_of_ble_eq_true rfl) dX4_wipe_28 (fun H locs hP hD hS => ?_)
  refine lv_aload_n hx hb dX4_wipe_31 rfl (lv_at hl 0 rfl) ?_
  refine va_get (D := D) (ci := 4) (v := .ref (aR 7)) (C := RX4) (T := TX4) (N := 16) hx hb hw inW_X4 hown hK hP 0 rfl rfl 5 (by decide) (hw _ mw_2_1) (fun _ h9 => h9) rfl dX4_wipe_32 ?_
  refine lv_iconst (v := 0) hx hb dX4_wipe_35 (by decide) ?_
  refine va_putN (D := D) (ci := 0) (v := .int 0) (ty := .int) (C := RX0) (T := TX0) (N := 6) hx hb hw inW_X0 tyX0 tyX0_ok nmX0 hown hK hP hD hS 7 rfl rfl 0 (by decide) hn60 (fun _ h9 => h9) rfl (by decide +kernel) rfl rfl (Nat.le_of_ble_eq_true rfl) dX4_wipe_36 (fun H locs hP hD hS => ?_)
  refine lv_aload_n hx hb dX4_wipe_39 rfl (lv_at hl 0 rfl) ?_
  refine va_get (D := D) (ci := 4) (v := .ref (aR 13)) (C := RX4) (T := TX4) (N := 16) hx hb hw inW_X4 hown hK hP 0 rfl rfl 6 (by decide) (hw _ mw_2_5) (fun _ h9 => h9) rfl dX4_wipe_40 ?_
  refine lv_iconst (v := 0) hx hb dX4_wipe_43 (by decide) ?_
  refine va_putN (D := D) (ci := 9) (v := .int 0) (ty := .int) (C := RX9) (T := TX9) (N := 6) hx hb hw inW_X9 tyX9 tyX9_ok nmX9 hown hK hP hD hS 13 rfl rfl 0 (by decide) hn61 (fun _ h9 => h9) rfl (by decide +kernel) rfl rfl (Nat.le_of_ble_eq_true rfl) dX4_wipe_44 (fun H locs hP hD hS => ?_)
  refine lv_aload_n hx hb dX4_wipe_47 rfl (lv_at hl 0 rfl) ?_
  refine lv_iconst (v := 0) hx hb dX4_wipe_48 (by decide) ?_
  refine va_put (D := D) (ci := 4) (v := .int 0) (ty := .boolean) (C := RX4) (T := TX4) (N := 16) hx hb hw inW_X4 tyX4 tyX4_ok nmX4 hown hK hP hD hS 0 rfl rfl 7 (by decide) (hw _ mw_2_9) (fun _ h9 => h9) rfl (by decide +kernel) rfl rfl (Nat.le_of_ble_eq_true rfl) dX4_wipe_49 (fun H locs hP hD hS => ?_)
  refine lv_aload_n hx hb dX4_wipe_52 rfl (lv_at hl 0 rfl) ?_
  refine lv_iconst (v := 0) hx hb dX4_wipe_53 (by decide) ?_
  refine va_put (D := D) (ci := 4) (v := .int 0) (ty := .int) (C := RX4) (T := TX4) (N := 16) hx hb hw inW_X4 tyX4 tyX4_ok nmX4 hown hK hP hD hS 0 rfl rfl 8 (by decide) (hw _ mw_2_11) (fun _ h9 => h9) rfl (by decide +kernel) rfl rfl (Nat.le_of_ble_eq_true rfl) dX4_wipe_54 (fun H locs hP hD hS => ?_)
  refine lv_aload_n hx hb dX4_wipe_57 rfl (lv_at hl 0 rfl) ?_
  refine lv_iconst (v := 0) hx hb dX4_wipe_58 (by decide) ?_
  refine va_put (D := D) (ci := 4) (v := .int 0) (ty := .int) (C := RX4) (T := TX4) (N := 16) hx hb hw inW_X4 tyX4 tyX4_ok nmX4 hown hK hP hD hS 0 rfl rfl 9 (by decide) (hw _ mw_2_13) (fun _ h9 => h9) rfl (by decide +kernel) rfl rfl (Nat.le_of_ble_eq_true rfl) dX4_wipe_59 (fun H locs hP hD hS => ?_)
  refine lv_aload_n hx hb dX4_wipe_62 rfl (lv_at hl 0 rfl) ?_
  refine lv_iconst (v := 0) hx hb dX4_wipe_63 (by decide) ?_
  refine va_put (D := D) (ci := 4) (v := .int 0) (ty := .boolean) (C := RX4) (T := TX4) (N := 16) hx hb hw inW_X4 tyX4 tyX4_ok nmX4 hown hK hP hD hS 0 rfl rfl 10 (by decide) (hw _ mw_2_15) (fun _ h9 => h9) rfl (by decide +kernel) rfl rfl (Nat.le_of_ble_eq_true rfl) dX4_wipe_64 (fun H locs hP hD hS => ?_)
  refine lv_aload_n hx hb dX4_wipe_67 rfl (lv_at hl 0 rfl) ?_
  refine lv_iconst (v := 0) hx hb dX4_wipe_68 (by decide) ?_
  refine va_put (D := D) (ci := 4) (v := .int 0) (ty := .boolean) (C := RX4) (T := TX4) (N := 16) hx hb hw inW_X4 tyX4 tyX4_ok nmX4 hown hK hP hD hS 0 rfl rfl 11 (by decide) (hw _ mw_2_17) (fun _ h9 => h9) rfl (by decide +kernel) rfl rfl (Nat.le_of_ble_eq_true rfl) dX4_wipe_69 (fun H locs hP hD hS => ?_)
  refine lv_aload_n hx hb dX4_wipe_72 rfl (lv_at hl 0 rfl) ?_
  refine lv_iconst (v := 0) hx hb dX4_wipe_73 (by decide) ?_
  refine va_put (D := D) (ci := 4) (v := .int 0) (ty := .int) (C := RX4) (T := TX4) (N := 16) hx hb hw inW_X4 tyX4 tyX4_ok nmX4 hown hK hP hD hS 0 rfl rfl 12 (by decide) (hw _ mw_2_20) (fun _ h9 => h9) rfl (by decide +kernel) rfl rfl (Nat.le_of_ble_eq_true rfl) dX4_wipe_74 (fun H locs hP hD hS => ?_)
  refine lv_aload_n hx hb dX4_wipe_77 rfl (lv_at hl 0 rfl) ?_
  refine lv_iconst (v := 0) hx hb dX4_wipe_78 (by decide) ?_
  refine va_put (D := D) (ci := 4) (v := .int 0) (ty := .int) (C := RX4) (T := TX4) (N := 16) hx hb hw inW_X4 tyX4 tyX4_ok nmX4 hown hK hP hD hS 0 rfl rfl 13 (by decide) (hw _ mw_2_22) (fun _ h9 => h9) rfl (by decide +kernel) rfl rfl (Nat.le_of_ble_eq_true rfl) dX4_wipe_79 (fun H locs hP hD hS => ?_)
  refine lv_aload_n hx hb dX4_wipe_82 rfl (lv_at hl 0 rfl) ?_
  refine lv_iconst (v := 0) hx hb dX4_wipe_83 (by decide) ?_
  refine va_put (D := D) (ci := 4) (v := .int 0) (ty := .boolean) (C := RX4) (T := TX4) (N := 16) hx hb hw inW_X4 tyX4 tyX4_ok nmX4 hown hK hP hD hS 0 rfl rfl 14 (by decide) (hw _ mw_2_24) (fun _ h9 => h9) rfl (by decide +kernel) rfl rfl (Nat.le_of_ble_eq_true rfl) dX4_wipe_84 (fun H locs hP hD hS => ?_)
  refine lv_aload_n hx hb dX4_wipe_87 rfl (lv_at hl 0 rfl) ?_
  refine va_get (D := D) (ci := 4) (v := .ref (aR 19)) (C := RX4) (T := TX4) (N := 16) hx hb hw inW_X4 hown hK hP 0 rfl rfl 15 (by decide) (hw _ mw_2_26) (fun _ h9 => h9) rfl dX4_wipe_88 ?_
  refine lv_iconst (v := 0) hx hb dX4_wipe_91 (by decide) ?_
  refine va_putN (D := D) (ci := 10) (v := .int 0) (ty := .boolean) (C := RX10) (T := TX10) (N := 3) hx hb hw inW_X10 tyX10 tyX10_ok nmX10 hown hK hP hD hS 19 rfl rfl 0 (by decide) hn87 (fun _ h9 => h9) rfl (by decide +kernel) rfl rfl (Nat.le_of_ble_eq_true rfl) dX4_wipe_92 (fun H locs hP hD hS => ?_)
  have hP : va_P D vwCl (List.flatten (wRail aR C (va_up (va_up (va_up (va_up (va_up (va_up (va_up (va_up (va_up (va_up (va_up (va_up (va_up (va_up (va_up (va_up rs 0 0) 1 0) 2 0) 3 0) 4 0) 5 0) 6 0) 7 0) 8 0) 9 0) 10 0) 11 0) 12 0) 13 0) 14 0) 15 0) ra)) H := hP
  have hD : va_D A (List.flatten (wRail aR C (va_up (va_up (va_up (va_up (va_up (va_up (va_up (va_up (va_up (va_up (va_up (va_up (va_up (va_up (va_up (va_up rs 0 0) 1 0) 2 0) 3 0) 4 0) 5 0) 6 0) 7 0) 8 0) 9 0) 10 0) 11 0) 12 0) 13 0) 14 0) 15 0) ra)) := hD
  rw [← hQ]
  exact cRetV ((va_up (va_up (va_up (va_up (va_up (va_up (va_up (va_up (va_up (va_up (va_up (va_up (va_up (va_up (va_up (va_up rs 0 0) 1 0) 2 0) 3 0) 4 0) 5 0) 6 0) 7 0) 8 0) 9 0) 10 0) 11 0) 12 0) 13 0) 14 0) 15 0)) hx hb hr hlocks hS hP hD h dX4_wipe_95
abbrev vsX4_copyFrom : List Cond := Cond.code yX4_copyFrom cX4_copyFrom 2 none :: WS
abbrev rmX4_copyFrom : Room := { frames := 2, cells := 0, slots := 0, locals := 62 }
set_option maxHeartbeats 4000000 in
set_option maxRecDepth 100000 in
theorem k_X4_copyFrom (l : Launch) (D : va_G) (C : Nat → ClassId) (sz : Nat) (aR : Nat → Nat) (aR1 : Nat → Nat)  (rs : Nat → Int32) (ra : Nat → Nat → Int32) (rs1 : Nat → Int32) (ra1 : Nat → Nat → Int32)  {post : (Nat → Int32) → (Nat → Nat → Int32) → Prop} (h : P_X4_copyFrom rs ra rs1 ra1 post) : Met l yX4_copyFrom vsX4_copyFrom rmX4_copyFrom (cPre D C [.ref (aR 0), .ref (aR1 0)] sz (wRail aR C rs ra ++ (wRail aR1 C rs1 ra1))) (cQv D (fun (u : (Nat → Int32) × (Nat → Nat → Int32)) => post u.1 u.2) (fun u => wRail aR C u.1 u.2 ++ (wRail aR1 C rs1 ra1)) (va_A (List.flatten (wRail aR C rs ra ++ (wRail aR1 C rs1 ra1))) sz)) 0 0 (va_A (List.flatten (wRail aR C rs ra ++ (wRail aR1 C rs1 ra1))) sz) := by
  refine cStart (QA := fun A => cQv D (fun (u : (Nat → Int32) × (Nat → Nat → Int32)) => post u.1 u.2) (fun u => wRail aR C u.1 u.2 ++ (wRail aR1 C rs1 ra1)) A) (cc := cX4_copyFrom) (maxL := 2) (ret := none) (by decide) (Nat.le_of_ble_eq_true rfl) ?_
  intro p e s m args below meth c A ls hx hb hr hml hown hw hlocks hname hK hN hA hP hD hS hl
  generalize hQ : MQ below _ args s 0 0 A = Q
  have hl : lv_has ls 2 [(0, .ref (aR 0)), (1, .ref (aR1 0))] := hl
  obtain ⟨H, hH⟩ : ∃ H, H = s.heap := ⟨_, rfl⟩
  obtain ⟨locs, hlo⟩ : ∃ z : List Loc, z = [] := ⟨_, rfl⟩
  have hP : va_P D vwCl (List.flatten (wRail aR C rs ra ++ (wRail aR1 C rs1 ra1))) H := by rw [hH]; exact hP
  have hS : va_S A s.heap H locs := by rw [hH, hlo]; exact hS
  rw [show W p l e rmX4_copyFrom s m args below meth c s.heap [] 0 0 Q (F0 m 0 ls []) = W p l e rmX4_copyFrom s m args below meth c H locs 0 0 Q (F0 m 0 ls []) from by rw [hH, hlo]]
  refine lv_aload_n hx hb dX4_copyFrom_0 rfl (lv_at hl 0 rfl) ?_
  refine lv_aload_n hx hb dX4_copyFrom_1 rfl (lv_at hl 1 rfl) ?_
  refine va_get (D := D) (ci := 4) (v := .int (rs1 0)) (C := RX4) (T := TX4) (N := 16) hx hb hw inW_X4 hown hK hP 22 rfl rfl 0 (by decide) (hw _ mw_1_225) (fun _ h9 => h9) rfl dX4_copyFrom_2 ?_
  refine lv_topi (fun x1 ex1 => ?_)
  have h := h x1 ex1
  refine va_put (D := D) (ci := 4) (v := .int x1) (ty := .int) (C := RX4) (T := TX4) (N := 16) hx hb hw inW_X4 tyX4 tyX4_ok nmX4 hown hK hP hD hS 0 rfl rfl 0 (by decide) (hw _ mw_1_225) (fun _ h9 => h9) rfl (by decide +kernel) rfl rfl (Nat.le_of_ble_eq_true rfl) dX4_copyFrom_5 (fun H locs hP hD hS => ?_)
  refine lv_aload_n hx hb dX4_copyFrom_8 rfl (lv_at hl 0 rfl) ?_
  refine lv_aload_n hx hb dX4_copyFrom_9 rfl (lv_at hl 1 rfl) ?_
  refine va_get (D := D) (ci := 4) (v := .int (rs1 1)) (C := RX4) (T := TX4) (N := 16) hx hb hw inW_X4 hown hK hP 22 rfl rfl 1 (by decide) (hw _ mw_1_228) (fun _ h9 => h9) rfl dX4_copyFrom_10 ?_
  refine lv_topi (fun x2 ex2 => ?_)
  have h := h x2 ex2
  refine va_put (D := D) (ci := 4) (v := .int x2) (ty := .int) (C := RX4) (T := TX4) (N := 16) hx hb hw inW_X4 tyX4 tyX4_ok nmX4 hown hK hP hD hS 0 rfl rfl 1 (by decide) (hw _ mw_1_228) (fun _ h9 => h9) rfl (by decide +kernel) rfl rfl (Nat.le_of_ble_eq_true rfl) dX4_copyFrom_13 (fun H locs hP hD hS => ?_)
  refine lv_aload_n hx hb dX4_copyFrom_16 rfl (lv_at hl 0 rfl) ?_
  refine lv_aload_n hx hb dX4_copyFrom_17 rfl (lv_at hl 1 rfl) ?_
  refine va_get (D := D) (ci := 4) (v := .int (rs1 2)) (C := RX4) (T := TX4) (N := 16) hx hb hw inW_X4 hown hK hP 22 rfl rfl 2 (by decide) (hw _ mw_1_232) (fun _ h9 => h9) rfl dX4_copyFrom_18 ?_
  refine lv_topi (fun x3 ex3 => ?_)
  have h := h x3 ex3
  refine va_put (D := D) (ci := 4) (v := .int x3) (ty := .int) (C := RX4) (T := TX4) (N := 16) hx hb hw inW_X4 tyX4 tyX4_ok nmX4 hown hK hP hD hS 0 rfl rfl 2 (by decide) (hw _ mw_1_232) (fun _ h9 => h9) rfl (by decide +kernel) rfl rfl (Nat.le_of_ble_eq_true rfl) dX4_copyFrom_21 (fun H locs hP hD hS => ?_)
  refine lv_aload_n hx hb dX4_copyFrom_24 rfl (lv_at hl 0 rfl) ?_
  refine va_get (D := D) (ci := 4) (v := .ref (aR 1)) (C := RX4) (T := TX4) (N := 16) hx hb hw inW_X4 hown hK hP 0 rfl rfl 3 (by decide) (hw _ mw_1_235) (fun _ h9 => h9) rfl dX4_copyFrom_25 ?_
  refine lv_aload_n hx hb dX4_copyFrom_28 rfl (lv_at hl 1 rfl) ?_
  refine va_get (D := D) (ci := 4) (v := .ref (aR1 1)) (C := RX4) (T := TX4) (N := 16) hx hb hw inW_X4 hown hK hP 22 rfl rfl 3 (by decide) (hw _ mw_1_235) (fun _ h9 => h9) rfl dX4_copyFrom_29 ?_
  have hP : va_P D vwCl (List.flatten (wRail aR C (va_up (va_up (va_up rs 0 x1) 1 x2) 2 x3) ra ++ (wRail aR1 C rs1 ra1))) H := hP
  have hD : va_D A (List.flatten (wRail aR C (va_up (va_up (va_up rs 0 x1) 1 x2) 2 x3) ra ++ (wRail aR1 C rs1 ra1))) := hD
  refine cGoV (wo := fun u => wRail aR C (va_up (va_up (va_up (va_up rs 0 x1) 1 x2) 2 x3) 11 u.1) (va_up (va_up ra 0 u.2.1) 1 u.2.2) ++ (wRail aR1 C rs1 ra1)) (cRunVN (As := [.ref (aR1 1)]) (rest := []) ⟨hx, hb, hml, hown, hw⟩ hK hN hP hD [1, 7] rfl rfl (k_X1_copyFrom l D C _ (aR 1) (aR 2) (aR 3) (aR1 1) (aR1 2) (aR1 3)  (rs 11) (ra 0) (ra 1) (rs1 11) (ra1 0) (ra1 1)  h) ⟨va_cnB 1 hw (goodN mw_3_130) rfl rfl rfl (hN.m 24 rfl) (hw _ mw_1_5) (by decide +kernel) ⟨Nat.le_of_ble_eq_true rfl, Nat.le_of_ble_eq_true rfl⟩, hw _ mw_3_129, hw _ mw_s27⟩ rfl rfl rfl hl.1 rfl (Nat.le_of_ble_eq_true rfl) dX4_copyFrom_32 ⟨Nat.zero_le _, Nat.zero_le _⟩) hP hD hS hA [1, 7] [0, 2, 3, 4, 5, 6, 8, 9, 10, 11] [0, 10, 1, 2, 3, 4, 5, 11, 6, 7, 8, 9] rfl rfl rfl (by decide) rfl (fun _ => rfl) (fun u H locs h hP hD hS => ?_)
  obtain ⟨cou_4, pla_5, bri_6⟩ := u
  have hP : va_P D vwCl (List.flatten (wRail aR C (va_up (va_up (va_up (va_up rs 0 x1) 1 x2) 2 x3) 11 cou_4) (va_up (va_up ra 0 pla_5) 1 bri_6) ++ (wRail aR1 C rs1 ra1))) H := hP
  have hD : va_D A (List.flatten (wRail aR C (va_up (va_up (va_up (va_up rs 0 x1) 1 x2) 2 x3) 11 cou_4) (va_up (va_up ra 0 pla_5) 1 bri_6) ++ (wRail aR1 C rs1 ra1))) := hD
  refine lv_aload_n hx hb dX4_copyFrom_35 rfl (lv_at hl 0 rfl) ?_
  refine va_get (D := D) (ci := 4) (v := .ref (aR 4)) (C := RX4) (T := TX4) (N := 16) hx hb hw inW_X4 hown hK hP 0 rfl rfl 4 (by decide) (hw _ mw_1_238) (fun _ h9 => h9) rfl dX4_copyFrom_36 ?_
  refine lv_aload_n hx hb dX4_copyFrom_39 rfl (lv_at hl 1 rfl) ?_
  refine va_get (D := D) (ci := 4) (v := .ref (aR1 4)) (C := RX4) (T := TX4) (N := 16) hx hb hw inW_X4 hown hK hP 22 rfl rfl 4 (by decide) (hw _ mw_1_238) (fun _ h9 => h9) rfl dX4_copyFrom_40 ?_
  refine cGoV (wo := fun u => wRail aR C (va_up (va_up (va_up (va_up (va_up rs 0 x1) 1 x2) 2 x3) 11 cou_4) 12 u.1) (va_up (va_up (va_up (va_up ra 0 pla_5) 1 bri_6) 2 u.2.1) 3 u.2.2) ++ (wRail aR1 C rs1 ra1)) (cRunVN (As := [.ref (aR1 4)]) (rest := []) ⟨hx, hb, hml, hown, hw⟩ hK hN hP hD [2, 8] rfl rfl (k_X2_copyFrom l D C _ (aR 4) (aR 5) (aR 6) (aR1 4) (aR1 5) (aR1 6)  (rs 12) (ra 2) (ra 3) (rs1 12) (ra1 2) (ra1 3)  h) ⟨va_cnB 1 hw (goodN mw_3_137) rfl rfl rfl (hN.m 25 rfl) (hw _ mw_1_6) (by decide +kernel) ⟨Nat.le_of_ble_eq_true rfl, Nat.le_of_ble_eq_true rfl⟩, hw _ mw_3_136, hw _ mw_s28⟩ rfl rfl rfl hl.1 rfl (Nat.le_of_ble_eq_true rfl) dX4_copyFrom_43 ⟨Nat.zero_le _, Nat.zero_le _⟩) hP hD hS hA [2, 8] [0, 1, 3, 4, 5, 6, 7, 9, 10, 11] [0, 1, 10, 2, 3, 4, 5, 6, 11, 7, 8, 9] rfl rfl rfl (by decide) rfl (fun _ => rfl) (fun u H locs h hP hD hS => ?_)
  obtain ⟨cou_7, pri_8, cut_9⟩ := u
  have hP : va_P D vwCl (List.flatten (wRail aR C (va_up (va_up (va_up (va_up (va_up rs 0 x1) 1 x2) 2 x3) 11 cou_4) 12 cou_7) (va_up (va_up (va_up (va_up ra 0 pla_5) 1 bri_6) 2 pri_8) 3 cut_9) ++ (wRail aR1 C rs1 ra1))) H := hP
  have hD : va_D A (List.flatten (wRail aR C (va_up (va_up (va_up (va_up (va_up rs 0 x1) 1 x2) 2 x3) 11 cou_4) 12 cou_7) (va_up (va_up (va_up (va_up ra 0 pla_5) 1 bri_6) 2 pri_8) 3 cut_9) ++ (wRail aR1 C rs1 ra1))) := hD
  refine lv_aload_n hx hb dX4_copyFrom_46 rfl (lv_at hl 0 rfl) ?_
  refine va_get (D := D) (ci := 4) (v := .ref (aR 7)) (C := RX4) (T := TX4) (N := 16) hx hb hw inW_X4 hown hK hP 0 rfl rfl 5 (by decide) (hw _ mw_2_1) (fun _ h9 => h9) rfl dX4_copyFrom_47 ?_
  refine lv_aload_n hx hb dX4_copyFrom_50 rfl (lv_at hl 1 rfl) ?_
  refine va_get (D := D) (ci := 4) (v := .ref (aR1 7)) (C := RX4) (T := TX4) (N := 16) hx hb hw inW_X4 hown hK hP 22 rfl rfl 5 (by decide) (hw _ mw_2_1) (fun _ h9 => h9) rfl dX4_copyFrom_51 ?_
  refine cGoV (wo := fun u => wRail aR C (va_up (va_up (va_up (va_up (va_up (va_up rs 0 x1) 1 x2) 2 x3) 11 cou_4) 12 cou_7) 13 u.1) (va_up (va_up (va_up (va_up (va_up (va_up (va_up (va_up (va_up ra 0 pla_5) 1 bri_6) 2 pri_8) 3 cut_9) 4 u.2.1) 5 u.2.2.1) 6 u.2.2.2.1) 7 u.2.2.2.2.1) 8 u.2.2.2.2.2) ++ (wRail aR1 C rs1 ra1)) (cRunVN (As := [.ref (aR1 7)]) (rest := []) ⟨hx, hb, hml, hown, hw⟩ hK hN hP hD [3, 9] rfl rfl (k_X0_copyFrom l D C _ (aR 7) (aR 8) (aR 9) (aR 10) (aR 11) (aR 12) (aR1 7) (aR1 8) (aR1 9) (aR1 10) (aR1 11) (aR1 12)  (rs 13) (ra 4) (ra 5) (ra 6) (ra 7) (ra 8) (rs1 13) (ra1 4) (ra1 5) (ra1 6) (ra1 7) (ra1 8)  h) ⟨va_cnB 1 hw (goodN mw_3_142) rfl rfl rfl (hN.m 26 rfl) (hw _ mw_1_7) (by decide +kernel) ⟨Nat.le_of_ble_eq_true rfl, Nat.le_of_ble_eq_true rfl⟩, hw _ mw_3_141, hw _ mw_s29⟩ rfl rfl rfl hl.1 rfl (Nat.le_of_ble_eq_true rfl) dX4_copyFrom_54 ⟨Nat.zero_le _, Nat.zero_le _⟩) hP hD hS hA [3, 9] [0, 1, 2, 4, 5, 6, 7, 8, 10, 11] [0, 1, 2, 10, 3, 4, 5, 6, 7, 11, 8, 9] rfl rfl rfl (by decide) rfl (fun _ => rfl) (fun u H locs h hP hD hS => ?_)
  obtain ⟨cou_10, wor_11, see_12, pla_13, loc_14, mar_15⟩ := u
  have hP : va_P D vwCl (List.flatten (wRail aR C (va_up (va_up (va_up (va_up (va_up (va_up rs 0 x1) 1 x2) 2 x3) 11 cou_4) 12 cou_7) 13 cou_10) (va_up (va_up (va_up (va_up (va_up (va_up (va_up (va_up (va_up ra 0 pla_5) 1 bri_6) 2 pri_8) 3 cut_9) 4 wor_11) 5 see_12) 6 pla_13) 7 loc_14) 8 mar_15) ++ (wRail aR1 C rs1 ra1))) H := hP
  have hD : va_D A (List.flatten (wRail aR C (va_up (va_up (va_up (va_up (va_up (va_up rs 0 x1) 1 x2) 2 x3) 11 cou_4) 12 cou_7) 13 cou_10) (va_up (va_up (va_up (va_up (va_up (va_up (va_up (va_up (va_up ra 0 pla_5) 1 bri_6) 2 pri_8) 3 cut_9) 4 wor_11) 5 see_12) 6 pla_13) 7 loc_14) 8 mar_15) ++ (wRail aR1 C rs1 ra1))) := hD
  refine lv_aload_n hx hb dX4_copyFrom_57 rfl (lv_at hl 0 rfl) ?_
  refine va_get (D := D) (ci := 4) (v := .ref (aR 13)) (C := RX4) (T := TX4) (N := 16) hx hb hw inW_X4 hown hK hP 0 rfl rfl 6 (by decide) (hw _ mw_2_5) (fun _ h9 => h9) rfl dX4_copyFrom_58 ?_
  refine lv_aload_n hx hb dX4_copyFrom_61 rfl (lv_at hl 1 rfl) ?_
  refine va_get (D := D) (ci := 4) (v := .ref (aR1 13)) (C := RX4) (T := TX4) (N := 16) hx hb hw inW_X4 hown hK hP 22 rfl rfl 6 (by decide) (hw _ mw_2_5) (fun _ h9 => h9) rfl dX4_copyFrom_62 ?_
  refine cGoV (wo := fun u => wRail aR C (va_up (va_up (va_up (va_up (va_up (va_up (va_up rs 0 x1) 1 x2) 2 x3) 11 cou_4) 12 cou_7) 13 cou_10) 14 u.1) (va_up (va_up (va_up (va_up (va_up (va_up (va_up (va_up (va_up (va_up (va_up (va_up (va_up (va_up ra 0 pla_5) 1 bri_6) 2 pri_8) 3 cut_9) 4 wor_11) 5 see_12) 6 pla_13) 7 loc_14) 8 mar_15) 9 u.2.1) 10 u.2.2.1) 11 u.2.2.2.1) 12 u.2.2.2.2.1) 13 u.2.2.2.2.2) ++ (wRail aR1 C rs1 ra1)) (cRunVN (As := [.ref (aR1 13)]) (rest := []) ⟨hx, hb, hml, hown, hw⟩ hK hN hP hD [4, 10] rfl rfl (k_X9_copyFrom l D C _ (aR 13) (aR 14) (aR 15) (aR 16) (aR 17) (aR 18) (aR1 13) (aR1 14) (aR1 15) (aR1 16) (aR1 17) (aR1 18)  (rs 14) (ra 9) (ra 10) (ra 11) (ra 12) (ra 13) (rs1 14) (ra1 9) (ra1 10) (ra1 11) (ra1 12) (ra1 13)  h) ⟨va_cnB 1 hw (goodN mw_3_147) rfl rfl rfl (hN.m 27 rfl) (hw _ mw_1_8) (by decide +kernel) ⟨Nat.le_of_ble_eq_true rfl, Nat.le_of_ble_eq_true rfl⟩, hw _ mw_3_146, hw _ mw_s30⟩ rfl rfl rfl hl.1 rfl (Nat.le_of_ble_eq_true rfl) dX4_copyFrom_65 ⟨Nat.zero_le _, Nat.zero_le _⟩) hP hD hS hA [4, 10] [0, 1, 2, 3, 5, 6, 7, 8, 9, 11] [0, 1, 2, 3, 10, 4, 5, 6, 7, 8, 11, 9] rfl rfl rfl (by decide) rfl (fun _ => rfl) (fun u H locs h hP hD hS => ?_)
  obtain ⟨cou_16, too_17, com_18, fea_19, kin_20, jus_21⟩ := u
  have hP : va_P D vwCl (List.flatten (wRail aR C (va_up (va_up (va_up (va_up (va_up (va_up (va_up rs 0 x1) 1 x2) 2 x3) 11 cou_4) 12 cou_7) 13 cou_10) 14 cou_16) (va_up (va_up (va_up (va_up (va_up (va_up (va_up (va_up (va_up (va_up (va_up (va_up (va_up (va_up ra 0 pla_5) 1 bri_6) 2 pri_8) 3 cut_9) 4 wor_11) 5 see_12) 6 pla_13) 7 loc_14) 8 mar_15) 9 too_17) 10 com_18) 11 fea_19) 12 kin_20) 13 jus_21) ++ (wRail aR1 C rs1 ra1))) H := hP
  have hD : va_D A (List.flatten (wRail aR C (va_up (va_up (va_up (va_up (va_up (va_up (va_up rs 0 x1) 1 x2) 2 x3) 11 cou_4) 12 cou_7) 13 cou_10) 14 cou_16) (va_up (va_up (va_up (va_up (va_up (va_up (va_up (va_up (va_up (va_up (va_up (va_up (va_up (va_up ra 0 pla_5) 1 bri_6) 2 pri_8) 3 cut_9) 4 wor_11) 5 see_12) 6 pla_13) 7 loc_14) 8 mar_15) 9 too_17) 10 com_18) 11 fea_19) 12 kin_20) 13 jus_21) ++ (wRail aR1 C rs1 ra1))) := hD
  refine lv_aload_n hx hb dX4_copyFrom_68 rfl (lv_at hl 0 rfl) ?_
  refine lv_aload_n hx hb dX4_copyFrom_69 rfl (lv_at hl 1 rfl) ?_
  refine va_get (D := D) (ci := 4) (v := .int (rs1 3)) (C := RX4) (T := TX4) (N := 16) hx hb hw inW_X4 hown hK hP 22 rfl rfl 7 (by decide) (hw _ mw_2_9) (fun _ h9 => h9) rfl dX4_copyFrom_70 ?_
  refine lv_topi (fun x22 ex22 => ?_)
  have h := h x22 ex22
  refine va_put (D := D) (ci := 4) (v := .int x22) (ty := .boolean) (C := RX4) (T := TX4) (N := 16) hx hb hw inW_X4 tyX4 tyX4_ok nmX4 hown hK hP hD hS 0 rfl rfl 7 (by decide) (hw _ mw_2_9) (fun _ h9 => h9) rfl (by decide +kernel) (zb_n h.1) (zb_f h.1) (Nat.le_of_ble_eq_true rfl) dX4_copyFrom_73 (fun H locs hP hD hS => ?_)
  have h := h.2
  refine lv_aload_n hx hb dX4_copyFrom_76 rfl (lv_at hl 0 rfl) ?_
  refine lv_aload_n hx hb dX4_copyFrom_77 rfl (lv_at hl 1 rfl) ?_
  refine va_get (D := D) (ci := 4) (v := .int (rs1 4)) (C := RX4) (T := TX4) (N := 16) hx hb hw inW_X4 hown hK hP 22 rfl rfl 8 (by decide) (hw _ mw_2_11) (fun _ h9 => h9) rfl dX4_copyFrom_78 ?_
  refine lv_topi (fun x23 ex23 => ?_)
  have h := h x23 ex23
  refine va_put (D := D) (ci := 4) (v := .int x23) (ty := .int) (C := RX4) (T := TX4) (N := 16) hx hb hw inW_X4 tyX4 tyX4_ok nmX4 hown hK hP hD hS 0 rfl rfl 8 (by decide) (hw _ mw_2_11) (fun _ h9 => h9) rfl (by decide +kernel) rfl rfl (Nat.le_of_ble_eq_true rfl) dX4_copyFrom_81 (fun H locs hP hD hS => ?_)
  refine lv_aload_n hx hb dX4_copyFrom_84 rfl (lv_at hl 0 rfl) ?_
  refine lv_aload_n hx hb dX4_copyFrom_85 rfl (lv_at hl 1 rfl) ?_
  refine va_get (D := D) (ci := 4) (v := .int (rs1 5)) (C := RX4) (T := TX4) (N := 16) hx hb hw inW_X4 hown hK hP 22 rfl rfl 9 (by decide) (hw _ mw_2_13) (fun _ h9 => h9) rfl dX4_copyFrom_86 ?_
  refine lv_topi (fun x24 ex24 => ?_)
  have h := h x24 ex24
  refine va_put (D := D) (ci := 4) (v := .int x24) (ty := .int) (C := RX4) (T := TX4) (N := 16) hx hb hw inW_X4 tyX4 tyX4_ok nmX4 hown hK hP hD hS 0 rfl rfl 9 (by decide) (hw _ mw_2_13) (fun _ h9 => h9) rfl (by decide +kernel) rfl rfl (Nat.le_of_ble_eq_true rfl) dX4_copyFrom_89 (fun H locs hP hD hS => ?_)
  refine lv_aload_n hx hb dX4_copyFrom_92 rfl (lv_at hl 0 rfl) ?_
  refine lv_aload_n hx hb dX4_copyFrom_93 rfl (lv_at hl 1 rfl) ?_
  refine va_get (D := D) (ci := 4) (v := .int (rs1 6)) (C := RX4) (T := TX4) (N := 16) hx hb hw inW_X4 hown hK hP 22 rfl rfl 10 (by decide) (hw _ mw_2_15) (fun _ h9 => h9) rfl dX4_copyFrom_94 ?_
  refine lv_topi (fun x25 ex25 => ?_)
  have h := h x25 ex25
  refine va_put (D := D) (ci := 4) (v := .int x25) (ty := .boolean) (C := RX4) (T := TX4) (N := 16) hx hb hw inW_X4 tyX4 tyX4_ok nmX4 hown hK hP hD hS 0 rfl rfl 10 (by decide) (hw _ mw_2_15) (fun _ h9 => h9) rfl (by decide +kernel) (zb_n h.1) (zb_f h.1) (Nat.le_of_ble_eq_true rfl) dX4_copyFrom_97 (fun H locs hP hD hS => ?_)
  have h := h.2
  refine lv_aload_n hx hb dX4_copyFrom_100 rfl (lv_at hl 0 rfl) ?_
  refine lv_aload_n hx hb dX4_copyFrom_101 rfl (lv_at hl 1 rfl) ?_
  refine va_get (D := D) (ci := 4) (v := .int (rs1 7)) (C := RX4) (T := TX4) (N := 16) hx hb hw inW_X4 hown hK hP 22 rfl rfl 11 (by decide) (hw _ mw_2_17) (fun _ h9 => h9) rfl dX4_copyFrom_102 ?_
  refine lv_topi (fun x26 ex26 => ?_)
  have h := h x26 ex26
  refine va_put (D := D) (ci := 4) (v := .int x26) (ty := .boolean) (C := RX4) (T := TX4) (N := 16) hx hb hw inW_X4 tyX4 tyX4_ok nmX4 hown hK hP hD hS 0 rfl rfl 11 (by decide) (hw _ mw_2_17) (fun _ h9 => h9) rfl (by decide +kernel) (zb_n h.1) (zb_f h.1) (Nat.le_of_ble_eq_true rfl) dX4_copyFrom_105 (fun H locs hP hD hS => ?_)
  have h := h.2
  refine lv_aload_n hx hb dX4_copyFrom_108 rfl (lv_at hl 0 rfl) ?_
  refine lv_aload_n hx hb dX4_copyFrom_109 rfl (lv_at hl 1 rfl) ?_
  refine va_get (D := D) (ci := 4) (v := .int (rs1 8)) (C := RX4) (T := TX4) (N := 16) hx hb hw inW_X4 hown hK hP 22 rfl rfl 12 (by decide) (hw _ mw_2_20) (fun _ h9 => h9) rfl dX4_copyFrom_110 ?_
  refine lv_topi (fun x27 ex27 => ?_)
  have h := h x27 ex27
  refine va_put (D := D) (ci := 4) (v := .int x27) (ty := .int) (C := RX4) (T := TX4) (N := 16) hx hb hw inW_X4 tyX4 tyX4_ok nmX4 hown hK hP hD hS 0 rfl rfl 12 (by decide) (hw _ mw_2_20) (fun _ h9 => h9) rfl (by decide +kernel) rfl rfl (Nat.le_of_ble_eq_true rfl) dX4_copyFrom_113 (fun H locs hP hD hS => ?_)
  refine lv_aload_n hx hb dX4_copyFrom_116 rfl (lv_at hl 0 rfl) ?_
  refine lv_aload_n hx hb dX4_copyFrom_117 rfl (lv_at hl 1 rfl) ?_
  refine va_get (D := D) (ci := 4) (v := .int (rs1 9)) (C := RX4) (T := TX4) (N := 16) hx hb hw inW_X4 hown hK hP 22 rfl rfl 13 (by decide) (hw _ mw_2_22) (fun _ h9 => h9) rfl dX4_copyFrom_118 ?_
  refine lv_topi (fun x28 ex28 => ?_)
  have h := h x28 ex28
  refine va_put (D := D) (ci := 4) (v := .int x28) (ty := .int) (C := RX4) (T := TX4) (N := 16) hx hb hw inW_X4 tyX4 tyX4_ok nmX4 hown hK hP hD hS 0 rfl rfl 13 (by decide) (hw _ mw_2_22) (fun _ h9 => h9) rfl (by decide +kernel) rfl rfl (Nat.le_of_ble_eq_true rfl) dX4_copyFrom_121 (fun H locs hP hD hS => ?_)
  refine lv_aload_n hx hb dX4_copyFrom_124 rfl (lv_at hl 0 rfl) ?_
  refine lv_aload_n hx hb dX4_copyFrom_125 rfl (lv_at hl 1 rfl) ?_
  refine va_get (D := D) (ci := 4) (v := .int (rs1 10)) (C := RX4) (T := TX4) (N := 16) hx hb hw inW_X4 hown hK hP 22 rfl rfl 14 (by decide) (hw _ mw_2_24) (fun _ h9 => h9) rfl dX4_copyFrom_126 ?_
  refine lv_topi (fun x29 ex29 => ?_)
  have h := h x29 ex29
  refine va_put (D := D) (ci := 4) (v := .int x29) (ty := .boolean) (C := RX4) (T := TX4) (N := 16) hx hb hw inW_X4 tyX4 tyX4_ok nmX4 hown hK hP hD hS 0 rfl rfl 14 (by decide) (hw _ mw_2_24) (fun _ h9 => h9) rfl (by decide +kernel) (zb_n h.1) (zb_f h.1) (Nat.le_of_ble_eq_true rfl) dX4_copyFrom_129 (fun H locs hP hD hS => ?_)
  have h := h.2
  refine lv_aload_n hx hb dX4_copyFrom_132 rfl (lv_at hl 0 rfl) ?_
  refine va_get (D := D) (ci := 4) (v := .ref (aR 19)) (C := RX4) (T := TX4) (N := 16) hx hb hw inW_X4 hown hK hP 0 rfl rfl 15 (by decide) (hw _ mw_2_26) (fun _ h9 => h9) rfl dX4_copyFrom_133 ?_
  refine lv_aload_n hx hb dX4_copyFrom_136 rfl (lv_at hl 1 rfl) ?_
  refine va_get (D := D) (ci := 4) (v := .ref (aR1 19)) (C := RX4) (T := TX4) (N := 16) hx hb hw inW_X4 hown hK hP 22 rfl rfl 15 (by decide) (hw _ mw_2_26) (fun _ h9 => h9) rfl dX4_copyFrom_137 ?_
  have hP : va_P D vwCl (List.flatten (wRail aR C (va_up (va_up (va_up (va_up (va_up (va_up (va_up (va_up (va_up (va_up (va_up (va_up (va_up (va_up (va_up rs 0 x1) 1 x2) 2 x3) 3 x22) 4 x23) 5 x24) 6 x25) 7 x26) 8 x27) 9 x28) 10 x29) 11 cou_4) 12 cou_7) 13 cou_10) 14 cou_16) (va_up (va_up (va_up (va_up (va_up (va_up (va_up (va_up (va_up (va_up (va_up (va_up (va_up (va_up ra 0 pla_5) 1 bri_6) 2 pri_8) 3 cut_9) 4 wor_11) 5 see_12) 6 pla_13) 7 loc_14) 8 mar_15) 9 too_17) 10 com_18) 11 fea_19) 12 kin_20) 13 jus_21) ++ (wRail aR1 C rs1 ra1))) H := hP
  have hD : va_D A (List.flatten (wRail aR C (va_up (va_up (va_up (va_up (va_up (va_up (va_up (va_up (va_up (va_up (va_up (va_up (va_up (va_up (va_up rs 0 x1) 1 x2) 2 x3) 3 x22) 4 x23) 5 x24) 6 x25) 7 x26) 8 x27) 9 x28) 10 x29) 11 cou_4) 12 cou_7) 13 cou_10) 14 cou_16) (va_up (va_up (va_up (va_up (va_up (va_up (va_up (va_up (va_up (va_up (va_up (va_up (va_up (va_up ra 0 pla_5) 1 bri_6) 2 pri_8) 3 cut_9) 4 wor_11) 5 see_12) 6 pla_13) 7 loc_14) 8 mar_15) 9 too_17) 10 com_18) 11 fea_19) 12 kin_20) 13 jus_21) ++ (wRail aR1 C rs1 ra1))) := hD
  refine cGoV (wo := fun u => wRail aR C (va_up (va_up (va_up (va_up (va_up (va_up (va_up (va_up (va_up (va_up (va_up (va_up (va_up (va_up (va_up (va_up rs 0 x1) 1 x2) 2 x3) 3 x22) 4 x23) 5 x24) 6 x25) 7 x26) 8 x27) 9 x28) 10 x29) 11 cou_4) 12 cou_7) 13 cou_10) 14 cou_16) 15 u.1) (va_up (va_up (va_up (va_up (va_up (va_up (va_up (va_up (va_up (va_up (va_up (va_up (va_up (va_up (va_up (va_up ra 0 pla_5) 1 bri_6) 2 pri_8) 3 cut_9) 4 wor_11) 5 see_12) 6 pla_13) 7 loc_14) 8 mar_15) 9 too_17) 10 com_18) 11 fea_19) 12 kin_20) 13 jus_21) 14 u.2.1) 15 u.2.2) ++ (wRail aR1 C rs1 ra1)) (cRunVN (As := [.ref (aR1 19)]) (rest := []) ⟨hx, hb, hml, hown, hw⟩ hK hN hP hD [5, 11] rfl rfl (k_X10_copyFrom l D C _ (aR 19) (aR 20) (aR 21) (aR1 19) (aR1 20) (aR1 21)  (rs 15) (ra 14) (ra 15) (rs1 15) (ra1 14) (ra1 15)  h) ⟨va_cnB 1 hw (goodN mw_3_152) rfl rfl rfl (hN.m 28 rfl) (hw _ mw_1_9) (by decide +kernel) ⟨Nat.le_of_ble_eq_true rfl, Nat.le_of_ble_eq_true rfl⟩, hw _ mw_3_151, hw _ mw_s31⟩ rfl rfl rfl hl.1 rfl (Nat.le_of_ble_eq_true rfl) dX4_copyFrom_140 ⟨Nat.zero_le _, Nat.zero_le _⟩) hP hD hS hA [5, 11] [0, 1, 2, 3, 4, 6, 7, 8, 9, 10] [0, 1, 2, 3, 4, 10, 5, 6, 7, 8, 9, 11] rfl rfl rfl (by decide) rfl (fun _ => rfl) (fun u H locs h hP hD hS => ?_)
  obtain ⟨isT_30, tak_31, too_32⟩ := u
  have hP : va_P D vwCl (List.flatten (wRail aR C (va_up (va_up (va_up (va_up (va_up (va_up (va_up (va_up (va_up (va_up (va_up (va_up (va_up (va_up (va_up (va_up rs 0 x1) 1 x2) 2 x3) 3 x22) 4 x23) 5 x24) 6 x25) 7 x26) 8 x27) 9 x28) 10 x29) 11 cou_4) 12 cou_7) 13 cou_10) 14 cou_16) 15 isT_30) (va_up (va_up (va_up (va_up (va_up (va_up (va_up (va_up (va_up (va_up (va_up (va_up (va_up (va_up (va_up (va_up ra 0 pla_5) 1 bri_6) 2 pri_8) 3 cut_9) 4 wor_11) 5 see_12) 6 pla_13) 7 loc_14) 8 mar_15) 9 too_17) 10 com_18) 11 fea_19) 12 kin_20) 13 jus_21) 14 tak_31) 15 too_32) ++ (wRail aR1 C rs1 ra1))) H := hP
  have hD : va_D A (List.flatten (wRail aR C (va_up (va_up (va_up (va_up (va_up (va_up (va_up (va_up (va_up (va_up (va_up (va_up (va_up (va_up (va_up (va_up rs 0 x1) 1 x2) 2 x3) 3 x22) 4 x23) 5 x24) 6 x25) 7 x26) 8 x27) 9 x28) 10 x29) 11 cou_4) 12 cou_7) 13 cou_10) 14 cou_16) 15 isT_30) (va_up (va_up (va_up (va_up (va_up (va_up (va_up (va_up (va_up (va_up (va_up (va_up (va_up (va_up (va_up (va_up ra 0 pla_5) 1 bri_6) 2 pri_8) 3 cut_9) 4 wor_11) 5 see_12) 6 pla_13) 7 loc_14) 8 mar_15) 9 too_17) 10 com_18) 11 fea_19) 12 kin_20) 13 jus_21) 14 tak_31) 15 too_32) ++ (wRail aR1 C rs1 ra1))) := hD
  rw [← hQ]
  exact cRetV ((va_up (va_up (va_up (va_up (va_up (va_up (va_up (va_up (va_up (va_up (va_up (va_up (va_up (va_up (va_up (va_up rs 0 x1) 1 x2) 2 x3) 3 x22) 4 x23) 5 x24) 6 x25) 7 x26) 8 x27) 9 x28) 10 x29) 11 cou_4) 12 cou_7) 13 cou_10) 14 cou_16) 15 isT_30), (va_up (va_up (va_up (va_up (va_up (va_up (va_up (va_up (va_up (va_up (va_up (va_up (va_up (va_up (va_up (va_up ra 0 pla_5) 1 bri_6) 2 pri_8) 3 cut_9) 4 wor_11) 5 see_12) 6 pla_13) 7 loc_14) 8 mar_15) 9 too_17) 10 com_18) 11 fea_19) 12 kin_20) 13 jus_21) 14 tak_31) 15 too_32)) hx hb hr hlocks hS hP hD h dX4_copyFrom_143
abbrev vsX4_hasPlace : List Cond := Cond.code yX4_hasPlace cX4_hasPlace 2 (some .boolean) :: WS
abbrev rmX4_hasPlace : Room := { frames := 0, cells := 0, slots := 0, locals := 0 }
set_option maxHeartbeats 4000000 in
set_option maxRecDepth 100000 in
theorem k_X4_hasPlace (l : Launch) (D : va_G) (C : Nat → ClassId) (sz : Nat) (aR : Nat → Nat)  (rs : Nat → Int32) (ra : Nat → Nat → Int32) (p1 : Int32) {post : Int32 → Prop} (h : P_X4_hasPlace rs p1 post) : Met l yX4_hasPlace vsX4_hasPlace rmX4_hasPlace (cPre D C [.ref (aR 0), .int p1] sz (wRail aR C rs ra)) (cQi D (fun (r : Int32) (u : Unit) => post r ) (fun u => wRail aR C rs ra) (va_A (List.flatten (wRail aR C rs ra)) sz)) 0 0 (va_A (List.flatten (wRail aR C rs ra)) sz) := by
  refine cStart (QA := fun A => cQi D (fun (r : Int32) (u : Unit) => post r ) (fun u => wRail aR C rs ra) A) (cc := cX4_hasPlace) (maxL := 2) (ret := (some .boolean)) (by decide) (Nat.le_of_ble_eq_true rfl) ?_
  intro p e s m args below meth c A ls hx hb hr hml hown hw hlocks hname hK hN hA hP hD hS hl
  generalize hQ : MQ below _ args s 0 0 A = Q
  have hl : lv_has ls 2 [(0, .ref (aR 0)), (1, .int p1)] := hl
  obtain ⟨H, hH⟩ : ∃ H, H = s.heap := ⟨_, rfl⟩
  obtain ⟨locs, hlo⟩ : ∃ z : List Loc, z = [] := ⟨_, rfl⟩
  have hP : va_P D vwCl (List.flatten (wRail aR C rs ra)) H := by rw [hH]; exact hP
  have hS : va_S A s.heap H locs := by rw [hH, hlo]; exact hS
  rw [show W p l e rmX4_hasPlace s m args below meth c s.heap [] 0 0 Q (F0 m 0 ls []) = W p l e rmX4_hasPlace s m args below meth c H locs 0 0 Q (F0 m 0 ls []) from by rw [hH, hlo]]
  refine lv_iload_n hx hb dX4_hasPlace_0 rfl (lv_at hl 1 rfl) ?_
  refine lv_if_lt (tgt := 16) hx hb dX4_hasPlace_1 (by decide) (fun c1 => ?_) (fun c1 => ?_)
  · have h := h.1 c1
    refine lv_iconst (v := 0) hx hb dX4_hasPlace_16 (by decide) ?_
    rw [← hQ]
    exact cRetZ (v := 0) () hx hb hr hlocks hS hP hD (Or.inl rfl) h dX4_hasPlace_17
  · have h := h.2 c1
    refine lv_iload_n hx hb dX4_hasPlace_4 rfl (lv_at hl 1 rfl) ?_
    refine lv_aload_n hx hb dX4_hasPlace_5 rfl (lv_at hl 0 rfl) ?_
    refine va_get (D := D) (ci := 4) (v := .int (rs 0)) (C := RX4) (T := TX4) (N := 16) hx hb hw inW_X4 hown hK hP 0 rfl rfl 0 (by decide) (hw _ mw_1_225) (fun _ h9 => h9) rfl dX4_hasPlace_6 ?_
    refine lv_icmp_ge (tgt := 16) hx hb dX4_hasPlace_9 (by decide) (fun c2 => ?_) (fun c2 => ?_)
    · have h := h.1 c2
      refine lv_iconst (v := 0) hx hb dX4_hasPlace_16 (by decide) ?_
      rw [← hQ]
      exact cRetZ (v := 0) () hx hb hr hlocks hS hP hD (Or.inl rfl) h dX4_hasPlace_17
    · have h := h.2 c2
      refine lv_iconst (v := 1) hx hb dX4_hasPlace_12 (by decide) ?_
      refine lv_goto (tgt := 17) hx hb dX4_hasPlace_13 (by decide) ?_
      rw [← hQ]
      exact cRetZ (v := 1) () hx hb hr hlocks hS hP hD (Or.inr rfl) h dX4_hasPlace_17
abbrev vsX4_lightOf : List Cond := Cond.code yX4_lightOf cX4_lightOf 4 (some .int) :: WS
abbrev rmX4_lightOf : Room := { frames := 1, cells := 0, slots := 0, locals := 23 }
set_option maxHeartbeats 4000000 in
set_option maxRecDepth 100000 in
theorem k_X4_lightOf (l : Launch) (D : va_G) (C : Nat → ClassId) (sz : Nat) (aR : Nat → Nat)  (rs : Nat → Int32) (ra : Nat → Nat → Int32) (p1 : Int32) {post : Int32 → Prop} (h : P_X4_lightOf rs ra p1 post) : Met l yX4_lightOf vsX4_lightOf rmX4_lightOf (cPre D C [.ref (aR 0), .int p1] sz (wRail aR C rs ra)) (cQi D (fun (r : Int32) (u : Unit) => post r ) (fun u => wRail aR C rs ra) (va_A (List.flatten (wRail aR C rs ra)) sz)) 0 0 (va_A (List.flatten (wRail aR C rs ra)) sz) := by
  refine cStart (QA := fun A => cQi D (fun (r : Int32) (u : Unit) => post r ) (fun u => wRail aR C rs ra) A) (cc := cX4_lightOf) (maxL := 4) (ret := (some .int)) (by decide) (Nat.le_of_ble_eq_true rfl) ?_
  intro p e s m args below meth c A ls hx hb hr hml hown hw hlocks hname hK hN hA hP hD hS hl
  generalize hQ : MQ below _ args s 0 0 A = Q
  have hl : lv_has ls 4 [(0, .ref (aR 0)), (1, .int p1)] := hl
  have hn56 : (Cond.fieldLinkNest "LockRail$Rail" 56 "LockRail$Lamps" "count" "I" "LockRail").before args s = true := hN.f 7 rfl
  have hn114 : (Cond.fieldLinkNest "LockRail$Rail" 114 "LockRail$Lamps" "bright" "[I" "LockRail").before args s = true := hN.f 11 rfl
  have hn118 : (Cond.fieldLinkNest "LockRail$Rail" 118 "LockRail$Lamps" "place" "[I" "LockRail").before args s = true := hN.f 10 rfl
  obtain ⟨H, hH⟩ : ∃ H, H = s.heap := ⟨_, rfl⟩
  obtain ⟨locs, hlo⟩ : ∃ z : List Loc, z = [] := ⟨_, rfl⟩
  have hP : va_P D vwCl (List.flatten (wRail aR C rs ra)) H := by rw [hH]; exact hP
  have hS : va_S A s.heap H locs := by rw [hH, hlo]; exact hS
  rw [show W p l e rmX4_lightOf s m args below meth c s.heap [] 0 0 Q (F0 m 0 ls []) = W p l e rmX4_lightOf s m args below meth c H locs 0 0 Q (F0 m 0 ls []) from by rw [hH, hlo]]
  have N18 : ∀  (n18 : Nat) (x2_ : Int32) (x3_ : Int32) (H : Heap) (locs : List Loc) (ls : Array Slot), P_X4_lightOf_18 rs ra p1 post   n18 x2_ x3_ → va_P D vwCl (List.flatten (wRail aR C rs ra)) H → va_D A (List.flatten (wRail aR C rs ra)) → va_S A s.heap H locs → lv_has ls 4 [(0, .ref (aR 0)), (1, .int p1), (2, .int x2_), (3, .int x3_)] → W p l e rmX4_lightOf s m args below meth c H locs 0 0 Q (F0 m 18 ls []) := by
    intro n18
    induction n18 with
    | zero => intro x2_ x3_ H locs ls h hP hD hS hl; exact False.elim h
    | succ n18 ih18 =>
      intro x2_ x3_ H locs ls h hP hD hS hl
      refine lv_iload_n hx hb dX4_lightOf_18 rfl (lv_at hl 3 rfl) ?_
      refine lv_aload_n hx hb dX4_lightOf_19 rfl (lv_at hl 0 rfl) ?_
      refine va_get (D := D) (ci := 4) (v := .ref (aR 1)) (C := RX4) (T := TX4) (N := 16) hx hb hw inW_X4 hown hK hP 0 rfl rfl 3 (by decide) (hw _ mw_1_235) (fun _ h9 => h9) rfl dX4_lightOf_20 ?_
      refine va_getN (D := D) (ci := 1) (v := .int (rs 11)) (C := RX1) (T := TX1) (N := 3) hx hb hw inW_X1 hown hK hP 1 rfl rfl 0 (by decide) hn56 (fun _ h9 => h9) rfl dX4_lightOf_23 ?_
      refine lv_icmp_ge (tgt := 66) hx hb dX4_lightOf_26 (by decide) (fun c1 => ?_) (fun c1 => ?_)
      · have h := h.1 c1
        refine lv_iload_n hx hb dX4_lightOf_66 rfl (lv_at hl 2 rfl) ?_
        rw [← hQ]
        exact cRetI (v := x2_) () hx hb hr hlocks hS hP hD h dX4_lightOf_67
      · have h := h.2 c1
        refine lv_iload_n hx hb dX4_lightOf_29 rfl (lv_at hl 2 rfl) ?_
        refine lv_iconst (v := 0) hx hb dX4_lightOf_30 (by decide) ?_
        refine lv_aload_n hx hb dX4_lightOf_31 rfl (lv_at hl 0 rfl) ?_
        refine va_get (D := D) (ci := 4) (v := .ref (aR 1)) (C := RX4) (T := TX4) (N := 16) hx hb hw inW_X4 hown hK hP 0 rfl rfl 3 (by decide) (hw _ mw_1_235) (fun _ h9 => h9) rfl dX4_lightOf_32 ?_
        refine va_getN (D := D) (ci := 1) (v := .ref (aR 3)) (C := RX1) (T := TX1) (N := 3) hx hb hw inW_X1 hown hK hP 1 rfl rfl 2 (by decide) hn114 (fun _ h9 => h9) rfl dX4_lightOf_35 ?_
        refine lv_iload_n hx hb dX4_lightOf_38 rfl (lv_at hl 3 rfl) ?_
        refine cIald hx hb hK hP 3 0 rfl rfl x3_.toNatClampNeg rfl h.1 dX4_lightOf_39 ?_
        have h := h.2
        refine lv_iload_n hx hb dX4_lightOf_40 rfl (lv_at hl 1 rfl) ?_
        refine lv_aload_n hx hb dX4_lightOf_41 rfl (lv_at hl 0 rfl) ?_
        refine va_get (D := D) (ci := 4) (v := .ref (aR 1)) (C := RX4) (T := TX4) (N := 16) hx hb hw inW_X4 hown hK hP 0 rfl rfl 3 (by decide) (hw _ mw_1_235) (fun _ h9 => h9) rfl dX4_lightOf_42 ?_
        refine va_getN (D := D) (ci := 1) (v := .ref (aR 2)) (C := RX1) (T := TX1) (N := 3) hx hb hw inW_X1 hown hK hP 1 rfl rfl 1 (by decide) hn118 (fun _ h9 => h9) rfl dX4_lightOf_45 ?_
        refine lv_iload_n hx hb dX4_lightOf_48 rfl (lv_at hl 3 rfl) ?_
        refine cIald hx hb hK hP 2 0 rfl rfl x3_.toNatClampNeg rfl h.1 dX4_lightOf_49 ?_
        have h := h.2
        refine lv_isub hx hb dX4_lightOf_50 ?_
        refine va_mabs hx hb (hml.trans hl.1.symm) hown (hw _ mw_3_170) (hw _ mw_3_171) (hw _ mw_1_14) (hw _ mw_3_172) (Nat.le_of_ble_eq_true rfl) (Nat.le_of_ble_eq_true rfl) (Nat.zero_le _) (Nat.zero_le _) dX4_lightOf_51 ?_
        refine lv_isub hx hb dX4_lightOf_54 ?_
        refine va_mmax hx hb (hml.trans hl.1.symm) hown (hw _ mw_3_173) (hw _ mw_3_174) (hw _ mw_1_14) (hw _ mw_3_175) (Nat.le_of_ble_eq_true rfl) (Nat.le_of_ble_eq_true rfl) (Nat.zero_le _) (Nat.zero_le _) dX4_lightOf_55 ?_
        refine lv_iadd hx hb dX4_lightOf_58 ?_
        refine lv_topi (fun x2 ex2 => ?_)
        have h := h x2 ex2
        refine lv_istore_n (lv' := [(2, .int x2), (0, .ref (aR 0)), (1, .int p1), (3, .int x3_)]) hx hb dX4_lightOf_59 rfl hl (by decide) rfl (fun ls hl => ?_)
        refine lv_iinc (v := (x3_ + 1)) (lv' := [(3, .int (x3_ + 1)), (2, .int x2), (0, .ref (aR 0)), (1, .int p1)]) hx hb dX4_lightOf_60 hl (k := 3) rfl rfl (by decide) rfl (fun ls hl => ?_)
        refine lv_goto (tgt := 18) hx hb dX4_lightOf_63 (by decide) ?_
        exact ih18 x2 (x3_ + 1) _ _ _ h hP hD hS (lv_sub hl [2, 3, 1, 0] rfl)
  refine lv_aload_n hx hb dX4_lightOf_0 rfl (lv_at hl 0 rfl) ?_
  refine va_get (D := D) (ci := 4) (v := .int (rs 10)) (C := RX4) (T := TX4) (N := 16) hx hb hw inW_X4 hown hK hP 0 rfl rfl 14 (by decide) (hw _ mw_2_24) (fun _ h9 => h9) rfl dX4_lightOf_1 ?_
  refine lv_if_eq (tgt := 14) hx hb dX4_lightOf_4 (by decide) (fun c3 => ?_) (fun c3 => ?_)
  · have h := h.1 c3
    refine lv_iconst (v := 0) hx hb dX4_lightOf_14 (by decide) ?_
    refine lv_istore_n (lv' := [(2, .int 0), (0, .ref (aR 0)), (1, .int p1)]) hx hb dX4_lightOf_15 rfl hl (by decide) rfl (fun ls hl => ?_)
    refine lv_iconst (v := 0) hx hb dX4_lightOf_16 (by decide) ?_
    refine lv_istore_n (lv' := [(3, .int 0), (2, .int 0), (0, .ref (aR 0)), (1, .int p1)]) hx hb dX4_lightOf_17 rfl hl (by decide) rfl (fun ls hl => ?_)
    obtain ⟨n, h⟩ := h
    exact N18  n 0 0 _ _ _ h hP hD hS (lv_sub hl [2, 3, 1, 0] rfl)
  · have h := h.2 c3
    refine lv_aload_n hx hb dX4_lightOf_7 rfl (lv_at hl 0 rfl) ?_
    refine va_get (D := D) (ci := 4) (v := .int (rs 9)) (C := RX4) (T := TX4) (N := 16) hx hb hw inW_X4 hown hK hP 0 rfl rfl 13 (by decide) (hw _ mw_2_22) (fun _ h9 => h9) rfl dX4_lightOf_8 ?_
    refine lv_goto (tgt := 15) hx hb dX4_lightOf_11 (by decide) ?_
    refine lv_topi (fun x4 ex4 => ?_)
    have h := h x4 ex4
    refine lv_istore_n (lv' := [(2, .int x4), (0, .ref (aR 0)), (1, .int p1)]) hx hb dX4_lightOf_15 rfl hl (by decide) rfl (fun ls hl => ?_)
    refine lv_iconst (v := 0) hx hb dX4_lightOf_16 (by decide) ?_
    refine lv_istore_n (lv' := [(3, .int 0), (2, .int x4), (0, .ref (aR 0)), (1, .int p1)]) hx hb dX4_lightOf_17 rfl hl (by decide) rfl (fun ls hl => ?_)
    obtain ⟨n, h⟩ := h
    exact N18  n x4 0 _ _ _ h hP hD hS (lv_sub hl [2, 3, 1, 0] rfl)
abbrev vsX4_hasBike : List Cond := Cond.code yX4_hasBike cX4_hasBike 2 (some .boolean) :: WS
abbrev rmX4_hasBike : Room := { frames := 0, cells := 0, slots := 0, locals := 0 }
set_option maxHeartbeats 4000000 in
set_option maxRecDepth 100000 in
theorem k_X4_hasBike (l : Launch) (D : va_G) (C : Nat → ClassId) (sz : Nat) (aR : Nat → Nat)  (rs : Nat → Int32) (ra : Nat → Nat → Int32) (p1 : Int32) {post : Int32 → Prop} (h : P_X4_hasBike rs p1 post) : Met l yX4_hasBike vsX4_hasBike rmX4_hasBike (cPre D C [.ref (aR 0), .int p1] sz (wRail aR C rs ra)) (cQi D (fun (r : Int32) (u : Unit) => post r ) (fun u => wRail aR C rs ra) (va_A (List.flatten (wRail aR C rs ra)) sz)) 0 0 (va_A (List.flatten (wRail aR C rs ra)) sz) := by
  refine cStart (QA := fun A => cQi D (fun (r : Int32) (u : Unit) => post r ) (fun u => wRail aR C rs ra) A) (cc := cX4_hasBike) (maxL := 2) (ret := (some .boolean)) (by decide) (Nat.le_of_ble_eq_true rfl) ?_
  intro p e s m args below meth c A ls hx hb hr hml hown hw hlocks hname hK hN hA hP hD hS hl
  generalize hQ : MQ below _ args s 0 0 A = Q
  have hl : lv_has ls 2 [(0, .ref (aR 0)), (1, .int p1)] := hl
  have hn60 : (Cond.fieldLinkNest "LockRail$Rail" 60 "LockRail$Bikes" "count" "I" "LockRail").before args s = true := hN.f 17 rfl
  obtain ⟨H, hH⟩ : ∃ H, H = s.heap := ⟨_, rfl⟩
  obtain ⟨locs, hlo⟩ : ∃ z : List Loc, z = [] := ⟨_, rfl⟩
  have hP : va_P D vwCl (List.flatten (wRail aR C rs ra)) H := by rw [hH]; exact hP
  have hS : va_S A s.heap H locs := by rw [hH, hlo]; exact hS
  rw [show W p l e rmX4_hasBike s m args below meth c s.heap [] 0 0 Q (F0 m 0 ls []) = W p l e rmX4_hasBike s m args below meth c H locs 0 0 Q (F0 m 0 ls []) from by rw [hH, hlo]]
  refine lv_iload_n hx hb dX4_hasBike_0 rfl (lv_at hl 1 rfl) ?_
  refine lv_if_lt (tgt := 19) hx hb dX4_hasBike_1 (by decide) (fun c1 => ?_) (fun c1 => ?_)
  · have h := h.1 c1
    refine lv_iconst (v := 0) hx hb dX4_hasBike_19 (by decide) ?_
    rw [← hQ]
    exact cRetZ (v := 0) () hx hb hr hlocks hS hP hD (Or.inl rfl) h dX4_hasBike_20
  · have h := h.2 c1
    refine lv_iload_n hx hb dX4_hasBike_4 rfl (lv_at hl 1 rfl) ?_
    refine lv_aload_n hx hb dX4_hasBike_5 rfl (lv_at hl 0 rfl) ?_
    refine va_get (D := D) (ci := 4) (v := .ref (aR 7)) (C := RX4) (T := TX4) (N := 16) hx hb hw inW_X4 hown hK hP 0 rfl rfl 5 (by decide) (hw _ mw_2_1) (fun _ h9 => h9) rfl dX4_hasBike_6 ?_
    refine va_getN (D := D) (ci := 0) (v := .int (rs 13)) (C := RX0) (T := TX0) (N := 6) hx hb hw inW_X0 hown hK hP 7 rfl rfl 0 (by decide) hn60 (fun _ h9 => h9) rfl dX4_hasBike_9 ?_
    refine lv_icmp_ge (tgt := 19) hx hb dX4_hasBike_12 (by decide) (fun c2 => ?_) (fun c2 => ?_)
    · have h := h.1 c2
      refine lv_iconst (v := 0) hx hb dX4_hasBike_19 (by decide) ?_
      rw [← hQ]
      exact cRetZ (v := 0) () hx hb hr hlocks hS hP hD (Or.inl rfl) h dX4_hasBike_20
    · have h := h.2 c2
      refine lv_iconst (v := 1) hx hb dX4_hasBike_15 (by decide) ?_
      refine lv_goto (tgt := 20) hx hb dX4_hasBike_16 (by decide) ?_
      rw [← hQ]
      exact cRetZ (v := 1) () hx hb hr hlocks hS hP hD (Or.inr rfl) h dX4_hasBike_20
