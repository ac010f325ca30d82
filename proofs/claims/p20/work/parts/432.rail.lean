abbrev vsX4_wipe : List Cond := Cond.code yX4_wipe cX4_wipe 1 none :: WS
abbrev rmX4_wipe : Room := { frames := 0, cells := 0, slots := 0, locals := 0 }
set_option maxHeartbeats 4000000 in
set_option maxRecDepth 100000 in
theorem k_X4_wipe (l : Launch) (D : va_G) (C : Nat → ClassId) (sz : Nat) (aR : Nat → Nat)  (rs : Nat → Int32) (ra : Nat → Nat → Int32)  {post : (Nat → Int32) → Prop} (h : P_X4_wipe rs post) : Met l yX4_wipe vsX4_wipe rmX4_wipe (cPre D C [.ref (aR 0)] sz (wRail aR C rs ra)) (cQv D (fun (u : (Nat → Int32)) => post u) (fun u => wRail aR C u ra) (va_A (List.flatten (wRail aR C rs ra)) sz)) 0 0 (va_A (List.flatten (wRail aR C rs ra)) sz) := by
  refine cStart (QA := fun A => cQv D (fun (u : (Nat → Int32)) => post u) (fun u => wRail aR C u ra) A) (cc := cX4_wipe) (maxL := 1) (ret := none) (by decide) (Nat.le_of_ble_eq_true rfl) ?_
  intro p e s m args below meth c A ls hx hb hr hml hown hw hlocks hname hK hN hA hP hD hS hl
  generalize hQ : MQ below _ args s 0 0 A = Q
  have hl : lv_has ls 1 [(0, .ref (aR 0))] := hl
  have hn56 : (Cond.fieldLinkNest "LockRail$Rail" 56 "LockRail$Lamps" "count" "I" "LockRail").before args s = true := hN.f 7 rfl
  have hn59 : (Cond.fieldLinkNest "LockRail$Rail" 59 "LockRail$Locks" "count" "I" "LockRail").before args s = true := hN.f 12 rfl
  have hn60 : (Cond.fieldLinkNest "LockRail$Rail" 60 "LockRail$Bikes" "count" "I" "LockRail").before args s = true := hN.f 17 rfl
  have hn61 : (Cond.fieldLinkNest "LockRail$Rail" 61 "LockRail$Thieves" "count" "I" "LockRail").before args s = true := hN.f 32 rfl
  have hn87 : (Cond.fieldLinkNest "LockRail$Rail" 87 "LockRail$Year" "isThere" "Z" "LockRail").before args s = true := hN.f 41 rfl
  obtain ⟨H, hH⟩ : ∃ H, H = s.heap := ⟨_, rfl⟩
  obtain ⟨locs, hlo⟩ : ∃ z : List Loc, z = [] := ⟨_, rfl⟩
  have hP : va_P D vwCl (List.flatten (wRail aR C rs ra)) H := by rw [hH]; exact hP
  have hS : va_S A s.heap H locs := by rw [hH, hlo]; exact hS
  rw [show W p l e rmX4_wipe s m args below meth c s.heap [] 0 0 Q (F0 m 0 ls []) = W p l e rmX4_wipe s m args below meth c H locs 0 0 Q (F0 m 0 ls []) from by rw [hH, hlo]]
  refine lv_aload_n hx hb dX4_wipe_0 rfl (lv_at hl 0 rfl) ?_
  refine lv_iconst (v := 0) hx hb dX4_wipe_1 (by decide) ?_
  refine va_put (D := D) (ci := 4) (v := .int 0) (ty := .int) (C := RX4) (T := TX4) (N := 16) hx hb hw inW_X4 tyX4 tyX4_ok nmX4 hown hK hP hD hS 0 rfl rfl 0 (by decide) (hw _ mw_1_225) (fun _ h9 => h9) rfl (by decide +kernel) rfl rfl (Nat.le_of_ble_eq_true rfl) dX4_wipe_2 (fun H locs hP hD hS => ?_)
  refine lv_aload_n hx hb dX4_wipe_5 rfl (lv_at hl 0 rfl) ?_
  refine lv_iconst (v := 0) hx hb dX4_wipe_6 (by decide) ?_
  refine va_put (D := D) (ci := 4) (v := .int 0) (ty := .int) (C := RX4) (T := TX4) (N := 16) hx hb hw inW_X4 tyX4 tyX4_ok nmX4 hown hK hP hD hS 0 rfl rfl 1 (by decide) (hw _ mw_1_228) (fun _ h9 => h9) rfl (by decide +kernel) rfl rfl (Nat.le_of_ble_eq_true rfl) dX4_wipe_7 (fun H locs hP hD hS => ?_)
  refine lv_aload_n hx hb dX4_wipe_10 rfl (lv_at hl 0 rfl) ?_
  refine lv_iconst (v := 0) hx hb dX4_wipe_11 (by decide) ?_
  refine va_put (D := D) (ci := 4) (v := .int 0) (ty := .int) (C := RX4) (T := TX4) (N := 16) hx hb hw inW_X4 tyX4 tyX4_ok nmX4 hown hK hP hD hS 0 rfl rfl 2 (by decide) (hw _ mw_1_232) (fun _ h9 => h9) rfl (by decide +kernel) rfl rfl (Nat.le_of_ble_eq_true rfl) dX4_wipe_12 (fun H locs hP hD hS => ?_)
  refine lv_aload_n hx hb dX4_wipe_15 rfl (lv_at hl 0 rfl) ?_
  refine va_get (D := D) (ci := 4) (v := .ref (aR 1)) (C := RX4) (T := TX4) (N := 16) hx hb hw inW_X4 hown hK hP 0 rfl rfl 3 (by decide) (hw _ mw_1_235) (fun _ h9 => h9) rfl dX4_wipe_16 ?_
  refine lv_iconst (v := 0) hx hb dX4_wipe_19 (by decide) ?_
  refine va_putN (D := D) (ci := 1) (v := .int 0) (ty := .int) (C := RX1) (T := TX1) (N := 3) hx hb hw inW_X1 tyX1 tyX1_ok nmX1 hown hK hP hD hS 1 rfl rfl 0 (by decide) hn56 (fun _ h9 => h9) rfl (by decide +kernel) rfl rfl (Nat.le_of_ble_eq_true rfl) dX4_wipe_20 (fun H locs hP hD hS => ?_)
  refine lv_aload_n hx hb dX4_wipe_23 rfl (lv_at hl 0 rfl) ?_
  refine va_get (D := D) (ci := 4) (v := .ref (aR 4)) (C := RX4) (T := TX4) (N := 16) hx hb hw inW_X4 hown hK hP 0 rfl rfl 4 (by decide) (hw _ mw_1_238) (fun _ h9 => h9) rfl dX4_wipe_24 ?_
  refine lv_iconst (v := 0) hx hb dX4_wipe_27 (by decide) ?_
  refine va_putN (D := D) (ci := 2) (v := .int 0) (ty := .int) (C := RX2) (T := TX2) (N := 3) hx hb hw inW_X2 tyX2 tyX2_ok nmX2 hown hK hP hD hS 4 rfl rfl 0 (by decide) hn59 (fun _ h9 => h9) rfl (by decide +kernel) rfl rfl (Nat.le_of_ble_eq_true rfl) dX4_wipe_28 (fun H locs hP hD hS => ?_)
  refine lv_aload_n hx hb dX4_wipe_31 rfl (lv_at hl 0 rfl) ?_
  refine va_get (D := D) (ci := 4) (v := .ref (aR 7)) (C := RX4) (T := TX4) (N := 16) hx hb hw inW_X4 hown hK hP 0 rfl rfl 5 (by decide) (hw _ mw_2_1) (fun _ h9 => h9) rfl dX4_wipe_32 ?_
  refine lv_iconst (v := 0) hx hb dX4_wipe_35 (by decide) ?_
  refine va_putN (D := D) (ci := 0) (v := .int 0) (ty := .int) (C := RX0) (T := TX0) (N := 6) hx hb hw inW_X0 tyX0 tyX0_ok nmX0 hown hK hP hD hS 7 rfl rfl 0 (by decide) hn60 (fun _ h9 => h9) rfl (by decide +kernel) rfl rfl (Nat.le_of_ble_eq_true rfl) dX4_wipe_36 (fun H locs hP hD hS => ?_)
  refine lv_aload_n hx hb dX4_wipe_39 rfl (lv_at hl 0 rfl) ?_
  refine va_get (D := D) (ci := 4) (v := .ref (aR 13)) (C := RX4) (T := TX4) (N := 16) hx hb hw inW_X4 hown hK hP 0 rfl rfl 6 (by decide) (hw _ mw_2_5) (fun _ h9 => h9) rfl dX4_wipe_40 ?_
  refine lv_iconst (v := 0) hx hb dX4_wipe_43 (by decide) ?_
  refine va_putN (D := D) (ci := 9) (v := .int 0) (ty := .int) (C := RX9) (T := TX9) (N := 6) hx hb hw inW_X9 tyX9 tyX9_ok nmX9 hown hK hP hD hS 13 rfl rfl 0 (by decide) hn61 (fun _ h9 => h9) rfl (by decide +kernel) rfl rfl (Nat.le_of_ble_eq_true rfl) dX4_wipe_44 (fun H locs hP hD hS => ?_)
  refine lv_aload_n hx hb dX4_wipe_47 rfl (lv_at hl 0 rfl) ?_
  refine lv_iconst (v := 0) hx hb dX4_wipe_48 (by decide) ?_
  refine va_put (D := D) (ci := 4) (v := .int 0) (ty := .boolean) (C := RX4) (T := TX4) (N := 16) hx hb hw inW_X4 tyX4 tyX4_ok nmX4 hown hK hP hD hS 0 rfl rfl 7 (by decide) (hw _ mw_2_9) (fun _ h9 => h9) rfl (by decide +kernel) rfl rfl (Nat.le_of_ble_eq_true rfl) dX4_wipe_49 (fun H locs hP hD hS => ?_)
  refine lv_aload_n hx hb dX4_wipe_52 rfl (lv_at hl 0 rfl) ?_
  refine lv_iconst (v := 0) hx hb dX4_wipe_53 (by decide) ?_
  refine va_put (D := D) (ci := 4) (v := .int 0) (ty := .int) (C := RX4) (T := TX4) (N := 16) hx hb hw inW_X4 tyX4 tyX4_ok nmX4 hown hK hP hD hS 0 rfl rfl 8 (by decide) (hw _ mw_2_11) (fun _ h9 => h9) rfl (by decide +kernel) rfl rfl (Nat.le_of_ble_eq_true rfl) dX4_wipe_54 (fun H locs hP hD hS => ?_)
  refine lv_aload_n hx hb dX4_wipe_57 rfl (lv_at hl 0 rfl) ?_
  refine lv_iconst (v := 0) hx hb dX4_wipe_58 (by decide) ?_
  refine va_put (D := D) (ci := 4) (v := .int 0) (ty := .int) (C := RX4) (T := TX4) (N := 16) hx hb hw inW_X4 tyX4 tyX4_ok nmX4 hown hK hP hD hS 0 rfl rfl 9 (by decide) (hw _ mw_2_13) (fun _ h9 => h9) rfl (by decide +kernel) rfl rfl (Nat.le_of_ble_eq_true rfl) dX4_wipe_59 (fun H locs hP hD hS => ?_)
  refine lv_aload_n hx hb dX4_wipe_62 rfl (lv_at hl 0 rfl) ?_
  refine lv_iconst (v := 0) hx hb dX4_wipe_63 (by decide) ?_
  refine va_put (D := D) (ci := 4) (v := .int 0) (ty := .boolean) (C := RX4) (T := TX4) (N := 16) hx hb hw inW_X4 tyX4 tyX4_ok nmX4 hown hK hP hD hS 0 rfl rfl 10 (by decide) (hw _ mw_2_15) (fun _ h9 => h9) rfl (by decide +kernel) rfl rfl (Nat.le_of_ble_eq_true rfl) dX4_wipe_64 (fun H locs hP hD hS => ?_)
  refine lv_aload_n hx hb dX4_wipe_67 rfl (lv_at hl 0 rfl) ?_
  refine lv_iconst (v := 0) hx hb dX4_wipe_68 (by decide) ?_
  refine va_put (D := D) (ci := 4) (v := .int 0) (ty := .boolean) (C := RX4) (T := TX4) (N := 16) hx hb hw inW_X4 tyX4 tyX4_ok nmX4 hown hK hP hD hS 0 rfl rfl 11 (by decide) (hw _ mw_2_17) (fun _ h9 => h9) rfl (by decide +kernel) rfl rfl (Nat.le_of_ble_eq_true rfl) dX4_wipe_69 (fun H locs hP hD hS => ?_)
  refine lv_aload_n hx hb dX4_wipe_72 rfl (lv_at hl 0 rfl) ?_
  refine lv_iconst (v := 0) hx hb dX4_wipe_73 (by decide) ?_
  refine va_put (D := D) (ci := 4) (v := .int 0) (ty := .int) (C := RX4) (T := TX4) (N := 16) hx hb hw inW_X4 tyX4 tyX4_ok nmX4 hown hK hP hD hS 0 rfl rfl 12 (by decide) (hw _ mw_2_20) (fun _ h9 => h9) rfl (by decide +kernel) rfl rfl (Nat.le_of_ble_eq_true rfl) dX4_wipe_74 (fun H locs hP hD hS => ?_)
  refine lv_aload_n hx hb dX4_wipe_77 rfl (lv_at hl 0 rfl) ?_
  refine lv_iconst (v := 0) hx hb dX4_wipe_78 (by decide) ?_
  refine va_put (D := D) (ci := 4) (v := .int 0) (ty := .int) (C := RX4) (T := TX4) (N := 16) hx hb hw inW_X4 tyX4 tyX4_ok nmX4 hown hK hP hD hS 0 rfl rfl 13 (by decide) (hw _ mw_2_22) (fun _ h9 => h9) rfl (by decide +kernel) rfl rfl (Nat.le_of_ble_eq_true rfl) dX4_wipe_79 (fun H locs hP hD hS => ?_)
  refine lv_aload_n hx hb dX4_wipe_82 rfl (lv_at hl 0 rfl) ?_
  refine lv_iconst (v := 0) hx hb dX4_wipe_83 (by decide) ?_
  refine va_put (D := D) (ci := 4) (v := .int 0) (ty := .boolean) (C := RX4) (T := TX4) (N := 16) hx hb hw inW_X4 tyX4 tyX4_ok nmX4 hown hK hP hD hS 0 rfl rfl 14 (by decide) (hw _ mw_2_24) (fun _ h9 => h9) rfl (by decide +kernel) rfl rfl (Nat.le_of_ble_eq_true rfl) dX4_wipe_84 (fun H locs hP hD hS => ?_)
  refine lv_aload_n hx hb dX4_wipe_87 rfl (lv_at hl 0 rfl) ?_
  refine va_get (D := D) (ci := 4) (v := .ref (aR 19)) (C := RX4) (T := TX4) (N := 16) hx hb hw inW_X4 hown hK hP 0 rfl rfl 15 (by decide) (hw _ mw_2_26) (fun _ h9 => h9) rfl dX4_wipe_88 ?_
  refine lv_iconst (v := 0) hx hb dX4_wipe_91 (by decide) ?_
  refine va_putN (D := D) (ci := 10) (v := .int 0) (ty := .boolean) (C := RX10) (T := TX10) (N := 3) hx hb hw inW_X10 tyX10 tyX10_ok nmX10 hown hK hP hD hS 19 rfl rfl 0 (by decide) hn87 (fun _ h9 => h9) rfl (by decide +kernel) rfl rfl (Nat.le_of_ble_eq_true rfl) dX4_wipe_92 (fun H locs hP hD hS => ?_)
  have hP : va_P D vwCl (List.flatten (wRail aR C (va_up (va_up (va_up (va_up (va_up (va_up (va_up (va_up (va_up (va_up (va_up (va_up (va_up (va_up (va_up (va_up rs 0 0) 1 0) 2 0) 3 0) 4 0) 5 0) 6 0) 7 0) 8 0) 9 0) 10 0) 11 0) 12 0) 13 0) 14 0) 15 0) ra)) H := hP
  have hD : va_D A (List.flatten (wRail aR C (va_up (va_up (va_up (va_up (va_up (va_up (va_up (va_up (va_up (va_up (va_up (va_up (va_up (va_up (va_up (va_up rs 0 0) 1 0) 2 0) 3 0) 4 0) 5 0) 6 0) 7 0) 8 0) 9 0) 10 0) 11 0) 12 0) 13 0) 14 0) 15 0) ra)) := hD
  rw [← hQ]
  exact cRetV ((va_up (va_up (va_up (va_up (va_up (va_up (va_up (va_up (va_up (va_up (va_up (va_up (va_up (va_up (va_up (va_up rs 0 0) 1 0) 2 0) 3 0) 4 0) 5 0) 6 0) 7 0) 8 0) 9 0) 10 0) 11 0) 12 0) 13 0) 14 0) 15 0)) hx hb hr hlocks hS hP hD h dX4_wipe_95
abbrev vsX4_copyFrom : List Cond := Cond.code yX4_copyFrom cX4_copyFrom 2 none :: WS
abbrev rmX4_copyFrom : Room := { frames := 2, cells := 0, slots := 0, locals := 62 }
set_option maxHeartbeats 4000000 in
set_option maxRecDepth 100000 in
theorem k_X4_copyFrom (l : Launch) (D : va_G) (C : Nat → ClassId) (sz : Nat) (aR : Nat → Nat) (aR1 : Nat → Nat)  (rs : Nat → Int32) (ra : Nat → Nat → Int32) (rs1 : Nat → Int32) (ra1 : Nat → Nat → Int32)  {post : (Nat → Int32) → (Nat → Nat → Int32) → Prop} (h : P_X4_copyFrom rs ra rs1 ra1 post) : Met l yX4_copyFrom vsX4_copyFrom rmX4_copyFrom (cPre D C [.ref (aR 0), .ref (aR1 0)] sz (wRail aR C rs ra ++ (wRail aR1 C rs1 ra1))) (cQv D (fun (u : (Nat → Int32) × (Nat → Nat → Int32)) => post u.1 u.2) (fun u => wRail aR C u.1 u.2 ++ (wRail aR1 C rs1 ra1)) (va_A (List.flatten (wRail aR C rs ra ++ (wRail aR1 C rs1 ra1))) sz)) 0 0 (va_A (List.flatten (wRail aR C rs ra ++ (wRail aR1 C rs1 ra1))) sz) := by
  refine cStart (QA := fun A => cQv D (fun (u : (Nat → Int32) × (Nat → Nat → Int32)) => post u.1 u.2) (fun u => wRail aR C u.1 u.2 ++ (wRail aR1 C rs1 ra1)) A) (cc := cX4_copyFrom) (maxL := 2) (ret := none) (by decide) (Nat.le_of_ble_eq_true rfl) ?_
  intro p e s m args below meth c A ls hx hb hr hml hown hw hlocks hname hK hN hA hP hD hS hl
  generalize hQ : MQ below _ args s 0 0 A = Q
  have hl : lv_has ls 2 [(0, .ref (aR 0)), (1, .ref (aR1 0))] := hl
  obtain ⟨H, hH⟩ : ∃ H, H = s.heap := ⟨_, rfl⟩
  obtain ⟨locs, hlo⟩ : ∃ z : List Loc, z = [] := ⟨_, rfl⟩
  have hP : va_P D vwCl (List.flatten (wRail aR C rs ra ++ (wRail aR1 C rs1 ra1))) H := by rw [hH]; exact hP
  have hS : va_S A s.heap H locs := by rw [hH, hlo]; exact hS
  rw [show W p l e rmX4_copyFrom s m args below meth c s.heap [] 0 0 Q (F0 m 0 ls []) = W p l e rmX4_copyFrom s m args below meth c H locs 0 0 Q (F0 m 0 ls []) from by rw [hH, hlo]]
  refine lv_aload_n hx hb dX4_copyFrom_0 rfl (lv_at hl 0 rfl) ?_
  refine lv_aload_n hx hb dX4_copyFrom_1 rfl (lv_at hl 1 rfl) ?_
  refine va_get (D := D) (ci := 4) (v := .int (rs1 0)) (C := RX4) (T := TX4) (N := 16) hx hb hw inW_X4 hown hK hP 22 rfl rfl 0 (by decide) (hw _ mw_1_225) (fun _ h9 => h9) rfl dX4_copyFrom_2 ?_
  refine lv_topi (fun x1 ex1 => ?_)
  have h := h x1 ex1
  refine va_put (D := D) (ci := 4) (v := .int x1) (ty := .int) (C := RX4) (T := TX4) (N := 16) hx hb hw inW_X4 tyX4 tyX4_ok nmX4 hown hK hP hD hS 0 rfl rfl 0 (by decide) (hw _ mw_1_225) (fun _ h9 => h9) rfl (by decide +kernel) rfl rfl (Nat.le_of_ble_eq_true rfl) dX4_copyFrom_5 (fun H locs hP hD hS => ?_)
  refine lv_aload_n hx hb dX4_copyFrom_8 rfl (lv_at hl 0 rfl) ?_
  refine lv_aload_n hx hb dX4_copyFrom_9 rfl (lv_at hl 1 rfl) ?_
  refine va_get (D := D) (ci := 4) (v := .int (rs1 1)) (C := RX4) (T := TX4) (N := 16) hx hb hw inW_X4 hown hK hP 22 rfl rfl 1 (by decide) (hw _ mw_1_228) (fun _ h9 => h9) rfl dX4_copyFrom_10 ?_
  refine lv_topi (fun x2 ex2 => ?_)
  have h := h x2 ex2
  refine va_put (D := D) (ci := 4) (v := .int x2) (ty := .int) (C := RX4) (T := TX4) (N := 16) hx hb hw inW_X4 tyX4 tyX4_ok nmX4 hown hK hP hD hS 0 rfl rfl 1 (by decide) (hw _ mw_1_228) (fun _ h9 => h9) rfl (by decide +kernel) rfl rfl (Nat.le_of_ble_eq_true rfl) dX4_copyFrom_13 (fun H locs hP hD hS => ?_)
  refine lv_aload_n hx hb dX4_copyFrom_16 rfl (lv_at hl 0 rfl) ?_
  refine lv_aload_n hx hb dX4_copyFrom_17 rfl (lv_at hl 1 rfl) ?_
  refine va_get (D := D) (ci := 4) (v := .int (rs1 2)) (C := RX4) (T := TX4) (N := 16) hx hb hw inW_X4 hown hK hP 22 rfl rfl 2 (by decide) (hw _ mw_1_232) (fun _ h9 => h9) rfl dX4_copyFrom_18 ?_
  refine lv_topi (fun x3 ex3 => ?_)
  have h := h x3 ex3
  refine va_put (D := D) (ci := 4) (v := .int x3) (ty := .int) (C := RX4) (T := TX4) (N := 16) hx hb hw inW_X4 tyX4 tyX4_ok nmX4 hown hK hP hD hS 0 rfl rfl 2 (by decide) (hw _ mw_1_232) (fun _ h9 => h9) rfl (by decide +kernel) rfl rfl (Nat.le_of_ble_eq_true rfl) dX4_copyFrom_21 (fun H locs hP hD hS => ?_)
  refine lv_aload_n hx hb dX4_copyFrom_24 rfl (lv_at hl 0 rfl) ?_
  refine va_get (D := D) (ci := 4) (v := .ref (aR 1)) (C := RX4) (T := TX4) (N := 16) hx hb hw inW_X4 hown hK hP 0 rfl rfl 3 (by decide) (hw _ mw_1_235) (fun _ h9 => h9) rfl dX4_copyFrom_25 ?_
  refine lv_aload_n hx hb dX4_copyFrom_28 rfl (lv_at hl 1 rfl) ?_
  refine va_get (D := D) (ci := 4) (v := .ref (aR1 1)) (C := RX4) (T := TX4) (N := 16) hx hb hw inW_X4 hown hK hP 22 rfl rfl 3 (by decide) (hw _ mw_1_235) (fun _ h9 => h9) rfl dX4_copyFrom_29 ?_
  have hP : va_P D vwCl (List.flatten ([cRail (aR 0) (aR 1) (aR 4) (aR 7) (aR 13) (aR 19) C x1 x2 x3 (rs 3) (rs 4) (rs 5) (rs 6) (rs 7) (rs 8) (rs 9) (rs 10), cLamps (aR 1) (aR 2) (aR 3) C (rs 11) (ra 0) (ra 1), cLocks (aR 4) (aR 5) (aR 6) C (rs 12) (ra 2) (ra 3), cBikes (aR 7) (aR 8) (aR 9) (aR 10) (aR 11) (aR 12) C (rs 13) (ra 4) (ra 5) (ra 6) (ra 7) (ra 8), cThieves (aR 13) (aR 14) (aR 15) (aR 16) (aR 17) (aR 18) C (rs 14) (ra 9) (ra 10) (ra 11) (ra 12) (ra 13), cYear (aR 19) (aR 20) (aR 21) C (rs 15) (ra 14) (ra 15)] ++ ([cRail (aR1 0) (aR1 1) (aR1 4) (aR1 7) (aR1 13) (aR1 19) C (rs1 0) (rs1 1) (rs1 2) (rs1 3) (rs1 4) (rs1 5) (rs1 6) (rs1 7) (rs1 8) (rs1 9) (rs1 10), cLamps (aR1 1) (aR1 2) (aR1 3) C (rs1 11) (ra1 0) (ra1 1), cLocks (aR1 4) (aR1 5) (aR1 6) C (rs1 12) (ra1 2) (ra1 3), cBikes (aR1 7) (aR1 8) (aR1 9) (aR1 10) (aR1 11) (aR1 12) C (rs1 13) (ra1 4) (ra1 5) (ra1 6) (ra1 7) (ra1 8), cThieves (aR1 13) (aR1 14) (aR1 15) (aR1 16) (aR1 17) (aR1 18) C (rs1 14) (ra1 9) (ra1 10) (ra1 11) (ra1 12) (ra1 13), cYear (aR1 19) (aR1 20) (aR1 21) C (rs1 15) (ra1 14) (ra1 15)]))) H := hP
  have hD : va_D A (List.flatten ([cRail (aR 0) (aR 1) (aR 4) (aR 7) (aR 13) (aR 19) C x1 x2 x3 (rs 3) (rs 4) (rs 5) (rs 6) (rs 7) (rs 8) (rs 9) (rs 10), cLamps (aR 1) (aR 2) (aR 3) C (rs 11) (ra 0) (ra 1), cLocks (aR 4) (aR 5) (aR 6) C (rs 12) (ra 2) (ra 3), cBikes (aR 7) (aR 8) (aR 9) (aR 10) (aR 11) (aR 12) C (rs 13) (ra 4) (ra 5) (ra 6) (ra 7) (ra 8), cThieves (aR 13) (aR 14) (aR 15) (aR 16) (aR 17) (aR 18) C (rs 14) (ra 9) (ra 10) (ra 11) (ra 12) (ra 13), cYear (aR 19) (aR 20) (aR 21) C (rs 15) (ra 14) (ra 15)] ++ ([cRail (aR1 0) (aR1 1) (aR1 4) (aR1 7) (aR1 13) (aR1 19) C (rs1 0) (rs1 1) (rs1 2) (rs1 3) (rs1 4) (rs1 5) (rs1 6) (rs1 7) (rs1 8) (rs1 9) (rs1 10), cLamps (aR1 1) (aR1 2) (aR1 3) C (rs1 11) (ra1 0) (ra1 1), cLocks (aR1 4) (aR1 5) (aR1 6) C (rs1 12) (ra1 2) (ra1 3), cBikes (aR1 7) (aR1 8) (aR1 9) (aR1 10) (aR1 11) (aR1 12) C (rs1 13) (ra1 4) (ra1 5) (ra1 6) (ra1 7) (ra1 8), cThieves (aR1 13) (aR1 14) (aR1 15) (aR1 16) (aR1 17) (aR1 18) C (rs1 14) (ra1 9) (ra1 10) (ra1 11) (ra1 12) (ra1 13), cYear (aR1 19) (aR1 20) (aR1 21) C (rs1 15) (ra1 14) (ra1 15)]))) := hD
  refine gs_V12_13 (rs_VN12_13 (As := [.ref (aR1 1)]) (rest := []) ⟨hx, hb, hml, hown, hw⟩ hK hN hP hD (k_X1_copyFrom l D C _ (aR 1) (aR 2) (aR 3) (aR1 1) (aR1 2) (aR1 3)  (rs 11) (ra 0) (ra 1) (rs1 11) (ra1 0) (ra1 1)  h) ⟨va_cnB 1 hw (goodN mw_3_130) rfl rfl rfl (hN.m 24 rfl) (hw _ mw_1_5) (by decide +kernel) ⟨Nat.le_of_ble_eq_true rfl, Nat.le_of_ble_eq_true rfl⟩, hw _ mw_3_129, hw _ mw_s27⟩ rfl rfl rfl hl.1 rfl (Nat.le_of_ble_eq_true rfl) dX4_copyFrom_32 ⟨Nat.zero_le _, Nat.zero_le _⟩) hP hD hS hA (fun u H locs h hP hD hS => ?_)
  obtain ⟨cou_4, pla_5, bri_6⟩ := u
  have hP : va_P D vwCl (List.flatten ([cRail (aR 0) (aR 1) (aR 4) (aR 7) (aR 13) (aR 19) C x1 x2 x3 (rs 3) (rs 4) (rs 5) (rs 6) (rs 7) (rs 8) (rs 9) (rs 10), cLamps (aR 1) (aR 2) (aR 3) C cou_4 pla_5 bri_6, cLocks (aR 4) (aR 5) (aR 6) C (rs 12) (ra 2) (ra 3), cBikes (aR 7) (aR 8) (aR 9) (aR 10) (aR 11) (aR 12) C (rs 13) (ra 4) (ra 5) (ra 6) (ra 7) (ra 8), cThieves (aR 13) (aR 14) (aR 15) (aR 16) (aR 17) (aR 18) C (rs 14) (ra 9) (ra 10) (ra 11) (ra 12) (ra 13), cYear (aR 19) (aR 20) (aR 21) C (rs 15) (ra 14) (ra 15)] ++ ([cRail (aR1 0) (aR1 1) (aR1 4) (aR1 7) (aR1 13) (aR1 19) C (rs1 0) (rs1 1) (rs1 2) (rs1 3) (rs1 4) (rs1 5) (rs1 6) (rs1 7) (rs1 8) (rs1 9) (rs1 10), cLamps (aR1 1) (aR1 2) (aR1 3) C (rs1 11) (ra1 0) (ra1 1), cLocks (aR1 4) (aR1 5) (aR1 6) C (rs1 12) (ra1 2) (ra1 3), cBikes (aR1 7) (aR1 8) (aR1 9) (aR1 10) (aR1 11) (aR1 12) C (rs1 13) (ra1 4) (ra1 5) (ra1 6) (ra1 7) (ra1 8), cThieves (aR1 13) (aR1 14) (aR1 15) (aR1 16) (aR1 17) (aR1 18) C (rs1 14) (ra1 9) (ra1 10) (ra1 11) (ra1 12) (ra1 13), cYear (aR1 19) (aR1 20) (aR1 21) C (rs1 15) (ra1 14) (ra1 15)]))) H := hP
  have hD : va_D A (List.flatten ([cRail (aR 0) (aR 1) (aR 4) (aR 7) (aR 13) (aR 19) C x1 x2 x3 (rs 3) (rs 4) (rs 5) (rs 6) (rs 7) (rs 8) (rs 9) (rs 10), cLamps (aR 1) (aR 2) (aR 3) C cou_4 pla_5 bri_6, cLocks (aR 4) (aR 5) (aR 6) C (rs 12) (ra 2) (ra 3), cBikes (aR 7) (aR 8) (aR 9) (aR 10) (aR 11) (aR 12) C (rs 13) (ra 4) (ra 5) (ra 6) (ra 7) (ra 8), cThieves (aR 13) (aR 14) (aR 15) (aR 16) (aR 17) (aR 18) C (rs 14) (ra 9) (ra 10) (ra 11) (ra 12) (ra 13), cYear (aR 19) (aR 20) (aR 21) C (rs 15) (ra 14) (ra 15)] ++ ([cRail (aR1 0) (aR1 1) (aR1 4) (aR1 7) (aR1 13) (aR1 19) C (rs1 0) (rs1 1) (rs1 2) (rs1 3) (rs1 4) (rs1 5) (rs1 6) (rs1 7) (rs1 8) (rs1 9) (rs1 10), cLamps (aR1 1) (aR1 2) (aR1 3) C (rs1 11) (ra1 0) (ra1 1), cLocks (aR1 4) (aR1 5) (aR1 6) C (rs1 12) (ra1 2) (ra1 3), cBikes (aR1 7) (aR1 8) (aR1 9) (aR1 10) (aR1 11) (aR1 12) C (rs1 13) (ra1 4) (ra1 5) (ra1 6) (ra1 7) (ra1 8), cThieves (aR1 13) (aR1 14) (aR1 15) (aR1 16) (aR1 17) (aR1 18) C (rs1 14) (ra1 9) (ra1 10) (ra1 11) (ra1 12) (ra1 13), cYear (aR1 19) (aR1 20) (aR1 21) C (rs1 15) (ra1 14) (ra1 15)]))) := hD
  refine lv_aload_n hx hb dX4_copyFrom_35 rfl (lv_at hl 0 rfl) ?_
  refine va_get (D := D) (ci := 4) (v := .ref (aR 4)) (C := RX4) (T := TX4) (N := 16) hx hb hw inW_X4 hown hK hP 0 rfl rfl 4 (by decide) (hw _ mw_1_238) (fun _ h9 => h9) rfl dX4_copyFrom_36 ?_
  refine lv_aload_n hx hb dX4_copyFrom_39 rfl (lv_at hl 1 rfl) ?_
  refine va_get (D := D) (ci := 4) (v := .ref (aR1 4)) (C := RX4) (T := TX4) (N := 16) hx hb hw inW_X4 hown hK hP 22 rfl rfl 4 (by decide) (hw _ mw_1_238) (fun _ h9 => h9) rfl dX4_copyFrom_40 ?_
  refine gs_V12_14 (rs_VN12_14 (As := [.ref (aR1 4)]) (rest := []) ⟨hx, hb, hml, hown, hw⟩ hK hN hP hD (k_X2_copyFrom l D C _ (aR 4) (aR 5) (aR 6) (aR1 4) (aR1 5) (aR1 6)  (rs 12) (ra 2) (ra 3) (rs1 12) (ra1 2) (ra1 3)  h) ⟨va_cnB 1 hw (goodN mw_3_137) rfl rfl rfl (hN.m 25 rfl) (hw _ mw_1_6) (by decide +kernel) ⟨Nat.le_of_ble_eq_true rfl, Nat.le_of_ble_eq_true rfl⟩, hw _ mw_3_136, hw _ mw_s28⟩ rfl rfl rfl hl.1 rfl (Nat.le_of_ble_eq_true rfl) dX4_copyFrom_43 ⟨Nat.zero_le _, Nat.zero_le _⟩) hP hD hS hA (fun u H locs h hP hD hS => ?_)
  obtain ⟨cou_7, pri_8, cut_9⟩ := u
  have hP : va_P D vwCl (List.flatten ([cRail (aR 0) (aR 1) (aR 4) (aR 7) (aR 13) (aR 19) C x1 x2 x3 (rs 3) (rs 4) (rs 5) (rs 6) (rs 7) (rs 8) (rs 9) (rs 10), cLamps (aR 1) (aR 2) (aR 3) C cou_4 pla_5 bri_6, cLocks (aR 4) (aR 5) (aR 6) C cou_7 pri_8 cut_9, cBikes (aR 7) (aR 8) (aR 9) (aR 10) (aR 11) (aR 12) C (rs 13) (ra 4) (ra 5) (ra 6) (ra 7) (ra 8), cThieves (aR 13) (aR 14) (aR 15) (aR 16) (aR 17) (aR 18) C (rs 14) (ra 9) (ra 10) (ra 11) (ra 12) (ra 13), cYear (aR 19) (aR 20) (aR 21) C (rs 15) (ra 14) (ra 15)] ++ ([cRail (aR1 0) (aR1 1) (aR1 4) (aR1 7) (aR1 13) (aR1 19) C (rs1 0) (rs1 1) (rs1 2) (rs1 3) (rs1 4) (rs1 5) (rs1 6) (rs1 7) (rs1 8) (rs1 9) (rs1 10), cLamps (aR1 1) (aR1 2) (aR1 3) C (rs1 11) (ra1 0) (ra1 1), cLocks (aR1 4) (aR1 5) (aR1 6) C (rs1 12) (ra1 2) (ra1 3), cBikes (aR1 7) (aR1 8) (aR1 9) (aR1 10) (aR1 11) (aR1 12) C (rs1 13) (ra1 4) (ra1 5) (ra1 6) (ra1 7) (ra1 8), cThieves (aR1 13) (aR1 14) (aR1 15) (aR1 16) (aR1 17) (aR1 18) C (rs1 14) (ra1 9) (ra1 10) (ra1 11) (ra1 12) (ra1 13), cYear (aR1 19) (aR1 20) (aR1 21) C (rs1 15) (ra1 14) (ra1 15)]))) H := hP
  have hD : va_D A (List.flatten ([cRail (aR 0) (aR 1) (aR 4) (aR 7) (aR 13) (aR 19) C x1 x2 x3 (rs 3) (rs 4) (rs 5) (rs 6) (rs 7) (rs 8) (rs 9) (rs 10), cLamps (aR 1) (aR 2) (aR 3) C cou_4 pla_5 bri_6, cLocks (aR 4) (aR 5) (aR 6) C cou_7 pri_8 cut_9, cBikes (aR 7) (aR 8) (aR 9) (aR 10) (aR 11) (aR 12) C (rs 13) (ra 4) (ra 5) (ra 6) (ra 7) (ra 8), cThieves (aR 13) (aR 14) (aR 15) (aR 16) (aR 17) (aR 18) C (rs 14) (ra 9) (ra 10) (ra 11) (ra 12) (ra 13), cYear (aR 19) (aR 20) (aR 21) C (rs 15) (ra 14) (ra 15)] ++ ([cRail (aR1 0) (aR1 1) (aR1 4) (aR1 7) (aR1 13) (aR1 19) C (rs1 0) (rs1 1) (rs1 2) (rs1 3) (rs1 4) (rs1 5) (rs1 6) (rs1 7) (rs1 8) (rs1 9) (rs1 10), cLamps (aR1 1) (aR1 2) (aR1 3) C (rs1 11) (ra1 0) (ra1 1), cLocks (aR1 4) (aR1 5) (aR1 6) C (rs1 12) (ra1 2) (ra1 3), cBikes (aR1 7) (aR1 8) (aR1 9) (aR1 10) (aR1 11) (aR1 12) C (rs1 13) (ra1 4) (ra1 5) (ra1 6) (ra1 7) (ra1 8), cThieves (aR1 13) (aR1 14) (aR1 15) (aR1 16) (aR1 17) (aR1 18) C (rs1 14) (ra1 9) (ra1 10) (ra1 11) (ra1 12) (ra1 13), cYear (aR1 19) (aR1 20) (aR1 21) C (rs1 15) (ra1 14) (ra1 15)]))) := hD
  refine lv_aload_n hx hb dX4_copyFrom_46 rfl (lv_at hl 0 rfl) ?_
  refine va_get (D := D) (ci := 4) (v := .ref (aR 7)) (C := RX4) (T := TX4) (N := 16) hx hb hw inW_X4 hown hK hP 0 rfl rfl 5 (by decide) (hw _ mw_2_1) (fun _ h9 => h9) rfl dX4_copyFrom_47 ?_
  refine lv_aload_n hx hb dX4_copyFrom_50 rfl (lv_at hl 1 rfl) ?_
  refine va_get (D := D) (ci := 4) (v := .ref (aR1 7)) (C := RX4) (T := TX4) (N := 16) hx hb hw inW_X4 hown hK hP 22 rfl rfl 5 (by decide) (hw _ mw_2_1) (fun _ h9 => h9) rfl dX4_copyFrom_51 ?_
  refine gs_V12_15 (rs_VN12_15 (As := [.ref (aR1 7)]) (rest := []) ⟨hx, hb, hml, hown, hw⟩ hK hN hP hD (k_X0_copyFrom l D C _ (aR 7) (aR 8) (aR 9) (aR 10) (aR 11) (aR 12) (aR1 7) (aR1 8) (aR1 9) (aR1 10) (aR1 11) (aR1 12)  (rs 13) (ra 4) (ra 5) (ra 6) (ra 7) (ra 8) (rs1 13) (ra1 4) (ra1 5) (ra1 6) (ra1 7) (ra1 8)  h) ⟨va_cnB 1 hw (goodN mw_3_142) rfl rfl rfl (hN.m 26 rfl) (hw _ mw_1_7) (by decide +kernel) ⟨Nat.le_of_ble_eq_true rfl, Nat.le_of_ble_eq_true rfl⟩, hw _ mw_3_141, hw _ mw_s29⟩ rfl rfl rfl hl.1 rfl (Nat.le_of_ble_eq_true rfl) dX4_copyFrom_54 ⟨Nat.zero_le _, Nat.zero_le _⟩) hP hD hS hA (fun u H locs h hP hD hS => ?_)
  obtain ⟨cou_10, wor_11, see_12, pla_13, loc_14, mar_15⟩ := u
  have hP : va_P D vwCl (List.flatten ([cRail (aR 0) (aR 1) (aR 4) (aR 7) (aR 13) (aR 19) C x1 x2 x3 (rs 3) (rs 4) (rs 5) (rs 6) (rs 7) (rs 8) (rs 9) (rs 10), cLamps (aR 1) (aR 2) (aR 3) C cou_4 pla_5 bri_6, cLocks (aR 4) (aR 5) (aR 6) C cou_7 pri_8 cut_9, cBikes (aR 7) (aR 8) (aR 9) (aR 10) (aR 11) (aR 12) C cou_10 wor_11 see_12 pla_13 loc_14 mar_15, cThieves (aR 13) (aR 14) (aR 15) (aR 16) (aR 17) (aR 18) C (rs 14) (ra 9) (ra 10) (ra 11) (ra 12) (ra 13), cYear (aR 19) (aR 20) (aR 21) C (rs 15) (ra 14) (ra 15)] ++ ([cRail (aR1 0) (aR1 1) (aR1 4) (aR1 7) (aR1 13) (aR1 19) C (rs1 0) (rs1 1) (rs1 2) (rs1 3) (rs1 4) (rs1 5) (rs1 6) (rs1 7) (rs1 8) (rs1 9) (rs1 10), cLamps (aR1 1) (aR1 2) (aR1 3) C (rs1 11) (ra1 0) (ra1 1), cLocks (aR1 4) (aR1 5) (aR1 6) C (rs1 12) (ra1 2) (ra1 3), cBikes (aR1 7) (aR1 8) (aR1 9) (aR1 10) (aR1 11) (aR1 12) C (rs1 13) (ra1 4) (ra1 5) (ra1 6) (ra1 7) (ra1 8), cThieves (aR1 13) (aR1 14) (aR1 15) (aR1 16) (aR1 17) (aR1 18) C (rs1 14) (ra1 9) (ra1 10) (ra1 11) (ra1 12) (ra1 13), cYear (aR1 19) (aR1 20) (aR1 21) C (rs1 15) (ra1 14) (ra1 15)]))) H := hP
  have hD : va_D A (List.flatten ([cRail (aR 0) (aR 1) (aR 4) (aR 7) (aR 13) (aR 19) C x1 x2 x3 (rs 3) (rs 4) (rs 5) (rs 6) (rs 7) (rs 8) (rs 9) (rs 10), cLamps (aR 1) (aR 2) (aR 3) C cou_4 pla_5 bri_6, cLocks (aR 4) (aR 5) (aR 6) C cou_7 pri_8 cut_9, cBikes (aR 7) (aR 8) (aR 9) (aR 10) (aR 11) (aR 12) C cou_10 wor_11 see_12 pla_13 loc_14 mar_15, cThieves (aR 13) (aR 14) (aR 15) (aR 16) (aR 17) (aR 18) C (rs 14) (ra 9) (ra 10) (ra 11) (ra 12) (ra 13), cYear (aR 19) (aR 20) (aR 21) C (rs 15) (ra 14) (ra 15)] ++ ([cRail (aR1 0) (aR1 1) (aR1 4) (aR1 7) (aR1 13) (aR1 19) C (rs1 0) (rs1 1) (rs1 2) (rs1 3) (rs1 4) (rs1 5) (rs1 6) (rs1 7) (rs1 8) (rs1 9) (rs1 10), cLamps (aR1 1) (aR1 2) (aR1 3) C (rs1 11) (ra1 0) (ra1 1), cLocks (aR1 4) (aR1 5) (aR1 6) C (rs1 12) (ra1 2) (ra1 3), cBikes (aR1 7) (aR1 8) (aR1 9) (aR1 10) (aR1 11) (aR1 12) C (rs1 13) (ra1 4) (ra1 5) (ra1 6) (ra1 7) (ra1 8), cThieves (aR1 13) (aR1 14) (aR1 15) (aR1 16) (aR1 17) (aR1 18) C (rs1 14) (ra1 9) (ra1 10) (ra1 11) (ra1 12) (ra1 13), cYear (aR1 19) (aR1 20) (aR1 21) C (rs1 15) (ra1 14) (ra1 15)]))) := hD
  refine lv_aload_n hx hb dX4_copyFrom_57 rfl (lv_at hl 0 rfl) ?_
  refine va_get (D := D) (ci := 4) (v := .ref (aR 13)) (C := RX4) (T := TX4) (N := 16) hx hb hw inW_X4 hown hK hP 0 rfl rfl 6 (by decide) (hw _ mw_2_5) (fun _ h9 => h9) rfl dX4_copyFrom_58 ?_
  refine lv_aload_n hx hb dX4_copyFrom_61 rfl (lv_at hl 1 rfl) ?_
  refine va_get (D := D) (ci := 4) (v := .ref (aR1 13)) (C := RX4) (T := TX4) (N := 16) hx hb hw inW_X4 hown hK hP 22 rfl rfl 6 (by decide) (hw _ mw_2_5) (fun _ h9 => h9) rfl dX4_copyFrom_62 ?_
  refine gs_V12_16 (rs_VN12_16 (As := [.ref (aR1 13)]) (rest := []) ⟨hx, hb, hml, hown, hw⟩ hK hN hP hD (k_X9_copyFrom l D C _ (aR 13) (aR 14) (aR 15) (aR 16) (aR 17) (aR 18) (aR1 13) (aR1 14) (aR1 15) (aR1 16) (aR1 17) (aR1 18)  (rs 14) (ra 9) (ra 10) (ra 11) (ra 12) (ra 13) (rs1 14) (ra1 9) (ra1 10) (ra1 11) (ra1 12) (ra1 13)  h) ⟨va_cnB 1 hw (goodN mw_3_147) rfl rfl rfl (hN.m 27 rfl) (hw _ mw_1_8) (by decide +kernel) ⟨Nat.le_of_ble_eq_true rfl, Nat.le_of_ble_eq_true rfl⟩, hw _ mw_3_146, hw _ mw_s30⟩ rfl rfl rfl hl.1 rfl (Nat.le_of_ble_eq_true rfl) dX4_copyFrom_65 ⟨Nat.zero_le _, Nat.zero_le _⟩) hP hD hS hA (fun u H locs h hP hD hS => ?_)
  obtain ⟨cou_16, too_17, com_18, fea_19, kin_20, jus_21⟩ := u
  have hP : va_P D vwCl (List.flatten ([cRail (aR 0) (aR 1) (aR 4) (aR 7) (aR 13) (aR 19) C x1 x2 x3 (rs 3) (rs 4) (rs 5) (rs 6) (rs 7) (rs 8) (rs 9) (rs 10), cLamps (aR 1) (aR 2) (aR 3) C cou_4 pla_5 bri_6, cLocks (aR 4) (aR 5) (aR 6) C cou_7 pri_8 cut_9, cBikes (aR 7) (aR 8) (aR 9) (aR 10) (aR 11) (aR 12) C cou_10 wor_11 see_12 pla_13 loc_14 mar_15, cThieves (aR 13) (aR 14) (aR 15) (aR 16) (aR 17) (aR 18) C cou_16 too_17 com_18 fea_19 kin_20 jus_21, cYear (aR 19) (aR 20) (aR 21) C (rs 15) (ra 14) (ra 15)] ++ ([cRail (aR1 0) (aR1 1) (aR1 4) (aR1 7) (aR1 13) (aR1 19) C (rs1 0) (rs1 1) (rs1 2) (rs1 3) (rs1 4) (rs1 5) (rs1 6) (rs1 7) (rs1 8) (rs1 9) (rs1 10), cLamps (aR1 1) (aR1 2) (aR1 3) C (rs1 11) (ra1 0) (ra1 1), cLocks (aR1 4) (aR1 5) (aR1 6) C (rs1 12) (ra1 2) (ra1 3), cBikes (aR1 7) (aR1 8) (aR1 9) (aR1 10) (aR1 11) (aR1 12) C (rs1 13) (ra1 4) (ra1 5) (ra1 6) (ra1 7) (ra1 8), cThieves (aR1 13) (aR1 14) (aR1 15) (aR1 16) (aR1 17) (aR1 18) C (rs1 14) (ra1 9) (ra1 10) (ra1 11) (ra1 12) (ra1 13), cYear (aR1 19) (aR1 20) (aR1 21) C (rs1 15) (ra1 14) (ra1 15)]))) H := hP
  have hD : va_D A (List.flatten ([cRail (aR 0) (aR 1) (aR 4) (aR 7) (aR 13) (aR 19) C x1 x2 x3 (rs 3) (rs 4) (rs 5) (rs 6) (rs 7) (rs 8) (rs 9) (rs 10), cLamps (aR 1) (aR 2) (aR 3) C cou_4 pla_5 bri_6, cLocks (aR 4) (aR 5) (aR 6) C cou_7 pri_8 cut_9, cBikes (aR 7) (aR 8) (aR 9) (aR 10) (aR 11) (aR 12) C cou_10 wor_11 see_12 pla_13 loc_14 mar_15, cThieves (aR 13) (aR 14) (aR 15) (aR 16) (aR 17) (aR 18) C cou_16 too_17 com_18 fea_19 kin_20 jus_21, cYear (aR 19) (aR 20) (aR 21) C (rs 15) (ra 14) (ra 15)] ++ ([cRail (aR1 0) (aR1 1) (aR1 4) (aR1 7) (aR1 13) (aR1 19) C (rs1 0) (rs1 1) (rs1 2) (rs1 3) (rs1 4) (rs1 5) (rs1 6) (rs1 7) (rs1 8) (rs1 9) (rs1 10), cLamps (aR1 1) (aR1 2) (aR1 3) C (rs1 11) (ra1 0) (ra1 1), cLocks (aR1 4) (aR1 5) (aR1 6) C (rs1 12) (ra1 2) (ra1 3), cBikes (aR1 7) (aR1 8) (aR1 9) (aR1 10) (aR1 11) (aR1 12) C (rs1 13) (ra1 4) (ra1 5) (ra1 6) (ra1 7) (ra1 8), cThieves (aR1 13) (aR1 14) (aR1 15) (aR1 16) (aR1 17) (aR1 18) C (rs1 14) (ra1 9) (ra1 10) (ra1 11) (ra1 12) (ra1 13), cYear (aR1 19) (aR1 20) (aR1 21) C (rs1 15) (ra1 14) (ra1 15)]))) := hD
  refine lv_aload_n hx hb dX4_copyFrom_68 rfl (lv_at hl 0 rfl) ?_
  refine lv_aload_n hx hb dX4_copyFrom_69 rfl (lv_at hl 1 rfl) ?_
  refine va_get (D := D) (ci := 4) (v := .int (rs1 3)) (C := RX4) (T := TX4) (N := 16) hx hb hw inW_X4 hown hK hP 22 rfl rfl 7 (by decide) (hw _ mw_2_9) (fun _ h9 => h9) rfl dX4_copyFrom_70 ?_
  refine lv_topi (fun x22 ex22 => ?_)
  have h := h x22 ex22
  refine va_put (D := D) (ci := 4) (v := .int x22) (ty := .boolean) (C := RX4) (T := TX4) (N := 16) hx hb hw inW_X4 tyX4 tyX4_ok nmX4 hown hK hP hD hS 0 rfl rfl 7 (by decide) (hw _ mw_2_9) (fun _ h9 => h9) rfl (by decide +kernel) (zb_n h.1) (zb_f h.1) (Nat.le_of_ble_eq_true rfl) dX4_copyFrom_73 (fun H locs hP hD hS => ?_)
  have h := h.2
  refine lv_aload_n hx hb dX4_copyFrom_76 rfl (lv_at hl 0 rfl) ?_
  refine lv_aload_n hx hb dX4_copyFrom_77 rfl (lv_at hl 1 rfl) ?_
  refine va_get (D := D) (ci := 4) (v := .int (rs1 4)) (C := RX4) (T := TX4) (N := 16) hx hb hw inW_X4 hown hK hP 22 rfl rfl 8 (by decide) (hw _ mw_2_11) (fun _ h9 => h9) rfl dX4_copyFrom_78 ?_
  refine lv_topi (fun x23 ex23 => ?_)
  have h := h x23 ex23
  refine va_put (D := D) (ci := 4) (v := .int x23) (ty := .int) (C := RX4) (T := TX4) (N := 16) hx hb hw inW_X4 tyX4 tyX4_ok nmX4 hown hK hP hD hS 0 rfl rfl 8 (by decide) (hw _ mw_2_11) (fun _ h9 => h9) rfl (by decide +kernel) rfl rfl (Nat.le_of_ble_eq_true rfl) dX4_copyFrom_81 (fun H locs hP hD hS => ?_)
  refine lv_aload_n hx hb dX4_copyFrom_84 rfl (lv_at hl 0 rfl) ?_
  refine lv_aload_n hx hb dX4_copyFrom_85 rfl (lv_at hl 1 rfl) ?_
  refine va_get (D := D) (ci := 4) (v := .int (rs1 5)) (C := RX4) (T := TX4) (N := 16) hx hb hw inW_X4 hown hK hP 22 rfl rfl 9 (by decide) (hw _ mw_2_13) (fun _ h9 => h9) rfl dX4_copyFrom_86 ?_
  refine lv_topi (fun x24 ex24 => ?_)
  have h := h x24 ex24
  refine va_put (D := D) (ci := 4) (v := .int x24) (ty := .int) (C := RX4) (T := TX4) (N := 16) hx hb hw inW_X4 tyX4 tyX4_ok nmX4 hown hK hP hD hS 0 rfl rfl 9 (by decide) (hw _ mw_2_13) (fun _ h9 => h9) rfl (by decide +kernel) rfl rfl (Nat.le_of_ble_eq_true rfl) dX4_copyFrom_89 (fun H locs hP hD hS => ?_)
  refine lv_aload_n hx hb dX4_copyFrom_92 rfl (lv_at hl 0 rfl) ?_
  refine lv_aload_n hx hb dX4_copyFrom_93 rfl (lv_at hl 1 rfl) ?_
  refine va_get (D := D) (ci := 4) (v := .int (rs1 6)) (C := RX4) (T := TX4) (N := 16) hx hb hw inW_X4 hown hK hP 22 rfl rfl 10 (by decide) (hw _ mw_2_15) (fun _ h9 => h9) rfl dX4_copyFrom_94 ?_
  refine lv_topi (fun x25 ex25 => ?_)
  have h := h x25 ex25
  refine va_put (D := D) (ci := 4) (v := .int x25) (ty := .boolean) (C := RX4) (T := TX4) (N := 16) hx hb hw inW_X4 tyX4 tyX4_ok nmX4 hown hK hP hD hS 0 rfl rfl 10 (by decide) (hw _ mw_2_15) (fun _ h9 => h9) rfl (by decide +kernel) (zb_n h.1) (zb_f h.1) (Nat.le_of_ble_eq_true rfl) dX4_copyFrom_97 (fun H locs hP hD hS => ?_)
  have h := h.2
  refine lv_aload_n hx hb dX4_copyFrom_100 rfl (lv_at hl 0 rfl) ?_
  refine lv_aload_n hx hb dX4_copyFrom_101 rfl (lv_at hl 1 rfl) ?_
  refine va_get (D := D) (ci := 4) (v := .int (rs1 7)) (C := RX4) (T := TX4) (N := 16) hx hb hw inW_X4 hown hK hP 22 rfl rfl 11 (by decide) (hw _ mw_2_17) (fun _ h9 => h9) rfl dX4_copyFrom_102 ?_
  refine lv_topi (fun x26 ex26 => ?_)
  have h := h x26 ex26
  refine va_put (D := D) (ci := 4) (v := .int x26) (ty := .boolean) (C := RX4) (T := TX4) (N := 16) hx hb hw inW_X4 tyX4 tyX4_ok nmX4 hown hK hP hD hS 0 rfl rfl 11 (by decide) (hw _ mw_2_17) (fun _ h9 => h9) rfl (by decide +kernel) (zb_n h.1) (zb_f h.1) (Nat.le_of_ble_eq_true rfl) dX4_copyFrom_105 (fun H locs hP hD hS => ?_)
  have h := h.2
  refine lv_aload_n hx hb dX4_copyFrom_108 rfl (lv_at hl 0 rfl) ?_
  refine lv_aload_n hx hb dX4_copyFrom_109 rfl (lv_at hl 1 rfl) ?_
  refine va_get (D := D) (ci := 4) (v := .int (rs1 8)) (C := RX4) (T := TX4) (N := 16) hx hb hw inW_X4 hown hK hP 22 rfl rfl 12 (by decide) (hw _ mw_2_20) (fun _ h9 => h9) rfl dX4_copyFrom_110 ?_
  refine lv_topi (fun x27 ex27 => ?_)
  have h := h x27 ex27
  refine va_put (D := D) (ci := 4) (v := .int x27) (ty := .int) (C := RX4) (T := TX4) (N := 16) hx hb hw inW_X4 tyX4 tyX4_ok nmX4 hown hK hP hD hS 0 rfl rfl 12 (by decide) (hw _ mw_2_20) (fun _ h9 => h9) rfl (by decide +kernel) rfl rfl (Nat.le_of_ble_eq_true rfl) dX4_copyFrom_113 (fun H locs hP hD hS => ?_)
  refine lv_aload_n hx hb dX4_copyFrom_116 rfl (lv_at hl 0 rfl) ?_
  refine lv_aload_n hx hb dX4_copyFrom_117 rfl (lv_at hl 1 rfl) ?_
  refine va_get (D := D) (ci := 4) (v := .int (rs1 9)) (C := RX4) (T := TX4) (N := 16) hx hb hw inW_X4 hown hK hP 22 rfl rfl 13 (by decide) (hw _ mw_2_22) (fun _ h9 => h9) rfl dX4_copyFrom_118 ?_
  refine lv_topi (fun x28 ex28 => ?_)
  have h := h x28 ex28
  refine va_put (D := D) (ci := 4) (v := .int x28) (ty := .int) (C := RX4) (T := TX4) (N := 16) hx hb hw inW_X4 tyX4 tyX4_ok nmX4 hown hK hP hD hS 0 rfl rfl 13 (by decide) (hw _ mw_2_22) (fun _ h9 => h9) rfl (by decide +kernel) rfl rfl (Nat.le_of_ble_eq_true rfl) dX4_copyFrom_121 (fun H locs hP hD hS => ?_)
  refine lv_aload_n hx hb dX4_copyFrom_124 rfl (lv_at hl 0 rfl) ?_
  refine lv_aload_n hx hb dX4_copyFrom_125 rfl (lv_at hl 1 rfl) ?_
  refine va_get (D := D) (ci := 4) (v := .int (rs1 10)) (C := RX4) (T := TX4) (N := 16) hx hb hw inW_X4 hown hK hP 22 rfl rfl 14 (by decide) (hw _ mw_2_24) (fun _ h9 => h9) rfl dX4_copyFrom_126 ?_
  refine lv_topi (fun x29 ex29 => ?_)
  have h := h x29 ex29
  refine va_put (D := D) (ci := 4) (v := .int x29) (ty := .boolean) (C := RX4) (T := TX4) (N := 16) hx hb hw inW_X4 tyX4 tyX4_ok nmX4 hown hK hP hD hS 0 rfl rfl 14 (by decide) (hw _ mw_2_24) (fun _ h9 => h9) rfl (by decide +kernel) (zb_n h.1) (zb_f h.1) (Nat.le_of_ble_eq_true rfl) dX4_copyFrom_129 (fun H locs hP hD hS => ?_)
  have h := h.2
  refine lv_aload_n hx hb dX4_copyFrom_132 rfl (lv_at hl 0 rfl) ?_
  refine va_get (D := D) (ci := 4) (v := .ref (aR 19)) (C := RX4) (T := TX4) (N := 16) hx hb hw inW_X4 hown hK hP 0 rfl rfl 15 (by decide) (hw _ mw_2_26) (fun _ h9 => h9) rfl dX4_copyFrom_133 ?_
  refine lv_aload_n hx hb dX4_copyFrom_136 rfl (lv_at hl 1 rfl) ?_
  refine va_get (D := D) (ci := 4) (v := .ref (aR1 19)) (C := RX4) (T := TX4) (N := 16) hx hb hw inW_X4 hown hK hP 22 rfl rfl 15 (by decide) (hw _ mw_2_26) (fun _ h9 => h9) rfl dX4_copyFrom_137 ?_
  have hP : va_P D vwCl (List.flatten ([cRail (aR 0) (aR 1) (aR 4) (aR 7) (aR 13) (aR 19) C x1 x2 x3 x22 x23 x24 x25 x26 x27 x28 x29, cLamps (aR 1) (aR 2) (aR 3) C cou_4 pla_5 bri_6, cLocks (aR 4) (aR 5) (aR 6) C cou_7 pri_8 cut_9, cBikes (aR 7) (aR 8) (aR 9) (aR 10) (aR 11) (aR 12) C cou_10 wor_11 see_12 pla_13 loc_14 mar_15, cThieves (aR 13) (aR 14) (aR 15) (aR 16) (aR 17) (aR 18) C cou_16 too_17 com_18 fea_19 kin_20 jus_21, cYear (aR 19) (aR 20) (aR 21) C (rs 15) (ra 14) (ra 15)] ++ ([cRail (aR1 0) (aR1 1) (aR1 4) (aR1 7) (aR1 13) (aR1 19) C (rs1 0) (rs1 1) (rs1 2) (rs1 3) (rs1 4) (rs1 5) (rs1 6) (rs1 7) (rs1 8) (rs1 9) (rs1 10), cLamps (aR1 1) (aR1 2) (aR1 3) C (rs1 11) (ra1 0) (ra1 1), cLocks (aR1 4) (aR1 5) (aR1 6) C (rs1 12) (ra1 2) (ra1 3), cBikes (aR1 7) (aR1 8) (aR1 9) (aR1 10) (aR1 11) (aR1 12) C (rs1 13) (ra1 4) (ra1 5) (ra1 6) (ra1 7) (ra1 8), cThieves (aR1 13) (aR1 14) (aR1 15) (aR1 16) (aR1 17) (aR1 18) C (rs1 14) (ra1 9) (ra1 10) (ra1 11) (ra1 12) (ra1 13), cYear (aR1 19) (aR1 20) (aR1 21) C (rs1 15) (ra1 14) (ra1 15)]))) H := hP
  have hD : va_D A (List.flatten ([cRail (aR 0) (aR 1) (aR 4) (aR 7) (aR 13) (aR 19) C x1 x2 x3 x22 x23 x24 x25 x26 x27 x28 x29, cLamps (aR 1) (aR 2) (aR 3) C cou_4 pla_5 bri_6, cLocks (aR 4) (aR 5) (aR 6) C cou_7 pri_8 cut_9, cBikes (aR 7) (aR 8) (aR 9) (aR 10) (aR 11) (aR 12) C cou_10 wor_11 see_12 pla_13 loc_14 mar_15, cThieves (aR 13) (aR 14) (aR 15) (aR 16) (aR 17) (aR 18) C cou_16 too_17 com_18 fea_19 kin_20 jus_21, cYear (aR 19) (aR 20) (aR 21) C (rs 15) (ra 14) (ra 15)] ++ ([cRail (aR1 0) (aR1 1) (aR1 4) (aR1 7) (aR1 13) (aR1 19) C (rs1 0) (rs1 1) (rs1 2) (rs1 3) (rs1 4) (rs1 5) (rs1 6) (rs1 7) (rs1 8) (rs1 9) (rs1 10), cLamps (aR1 1) (aR1 2) (aR1 3) C (rs1 11) (ra1 0) (ra1 1), cLocks (aR1 4) (aR1 5) (aR1 6) C (rs1 12) (ra1 2) (ra1 3), cBikes (aR1 7) (aR1 8) (aR1 9) (aR1 10) (aR1 11) (aR1 12) C (rs1 13) (ra1 4) (ra1 5) (ra1 6) (ra1 7) (ra1 8), cThieves (aR1 13) (aR1 14) (aR1 15) (aR1 16) (aR1 17) (aR1 18) C (rs1 14) (ra1 9) (ra1 10) (ra1 11) (ra1 12) (ra1 13), cYear (aR1 19) (aR1 20) (aR1 21) C (rs1 15) (ra1 14) (ra1 15)]))) := hD
  refine gs_V12_17 (rs_VN12_17 (As := [.ref (aR1 19)]) (rest := []) ⟨hx, hb, hml, hown, hw⟩ hK hN hP hD (k_X10_copyFrom l D C _ (aR 19) (aR 20) (aR 21) (aR1 19) (aR1 20) (aR1 21)  (rs 15) (ra 14) (ra 15) (rs1 15) (ra1 14) (ra1 15)  h) ⟨va_cnB 1 hw (goodN mw_3_152) rfl rfl rfl (hN.m 28 rfl) (hw _ mw_1_9) (by decide +kernel) ⟨Nat.le_of_ble_eq_true rfl, Nat.le_of_ble_eq_true rfl⟩, hw _ mw_3_151, hw _ mw_s31⟩ rfl rfl rfl hl.1 rfl (Nat.le_of_ble_eq_true rfl) dX4_copyFrom_140 ⟨Nat.zero_le _, Nat.zero_le _⟩) hP hD hS hA (fun u H locs h hP hD hS => ?_)
  obtain ⟨isT_30, tak_31, too_32⟩ := u
  have hP : va_P D vwCl (List.flatten ([cRail (aR 0) (aR 1) (aR 4) (aR 7) (aR 13) (aR 19) C x1 x2 x3 x22 x23 x24 x25 x26 x27 x28 x29, cLamps (aR 1) (aR 2) (aR 3) C cou_4 pla_5 bri_6, cLocks (aR 4) (aR 5) (aR 6) C cou_7 pri_8 cut_9, cBikes (aR 7) (aR 8) (aR 9) (aR 10) (aR 11) (aR 12) C cou_10 wor_11 see_12 pla_13 loc_14 mar_15, cThieves (aR 13) (aR 14) (aR 15) (aR 16) (aR 17) (aR 18) C cou_16 too_17 com_18 fea_19 kin_20 jus_21, cYear (aR 19) (aR 20) (aR 21) C isT_30 tak_31 too_32] ++ ([cRail (aR1 0) (aR1 1) (aR1 4) (aR1 7) (aR1 13) (aR1 19) C (rs1 0) (rs1 1) (rs1 2) (rs1 3) (rs1 4) (rs1 5) (rs1 6) (rs1 7) (rs1 8) (rs1 9) (rs1 10), cLamps (aR1 1) (aR1 2) (aR1 3) C (rs1 11) (ra1 0) (ra1 1), cLocks (aR1 4) (aR1 5) (aR1 6) C (rs1 12) (ra1 2) (ra1 3), cBikes (aR1 7) (aR1 8) (aR1 9) (aR1 10) (aR1 11) (aR1 12) C (rs1 13) (ra1 4) (ra1 5) (ra1 6) (ra1 7) (ra1 8), cThieves (aR1 13) (aR1 14) (aR1 15) (aR1 16) (aR1 17) (aR1 18) C (rs1 14) (ra1 9) (ra1 10) (ra1 11) (ra1 12) (ra1 13), cYear (aR1 19) (aR1 20) (aR1 21) C (rs1 15) (ra1 14) (ra1 15)]))) H := hP
  have hD : va_D A (List.flatten ([cRail (aR 0) (aR 1) (aR 4) (aR 7) (aR 13) (aR 19) C x1 x2 x3 x22 x23 x24 x25 x26 x27 x28 x29, cLamps (aR 1) (aR 2) (aR 3) C cou_4 pla_5 bri_6, cLocks (aR 4) (aR 5) (aR 6) C cou_7 pri_8 cut_9, cBikes (aR 7) (aR 8) (aR 9) (aR 10) (aR 11) (aR 12) C cou_10 wor_11 see_12 pla_13 loc_14 mar_15, cThieves (aR 13) (aR 14) (aR 15) (aR 16) (aR 17) (aR 18) C cou_16 too_17 com_18 fea_19 kin_20 jus_21, cYear (aR 19) (aR 20) (aR 21) C isT_30 tak_31 too_32] ++ ([cRail (aR1 0) (aR1 1) (aR1 4) (aR1 7) (aR1 13) (aR1 19) C (rs1 0) (rs1 1) (rs1 2) (rs1 3) (rs1 4) (rs1 5) (rs1 6) (rs1 7) (rs1 8) (rs1 9) (rs1 10), cLamps (aR1 1) (aR1 2) (aR1 3) C (rs1 11) (ra1 0) (ra1 1), cLocks (aR1 4) (aR1 5) (aR1 6) C (rs1 12) (ra1 2) (ra1 3), cBikes (aR1 7) (aR1 8) (aR1 9) (aR1 10) (aR1 11) (aR1 12) C (rs1 13) (ra1 4) (ra1 5) (ra1 6) (ra1 7) (ra1 8), cThieves (aR1 13) (aR1 14) (aR1 15) (aR1 16) (aR1 17) (aR1 18) C (rs1 14) (ra1 9) (ra1 10) (ra1 11) (ra1 12) (ra1 13), cYear (aR1 19) (aR1 20) (aR1 21) C (rs1 15) (ra1 14) (ra1 15)]))) := hD
  rw [← hQ]
  exact cRetV ((va_up (va_up (va_up (va_up (va_up (va_up (va_up (va_up (va_up (va_up (va_up (va_up (va_up (va_up (va_up (va_up rs 0 x1) 1 x2) 2 x3) 3 x22) 4 x23) 5 x24) 6 x25) 7 x26) 8 x27) 9 x28) 10 x29) 11 cou_4) 12 cou_7) 13 cou_10) 14 cou_16) 15 isT_30), (va_up (va_up (va_up (va_up (va_up (va_up (va_up (va_up (va_up (va_up (va_up (va_up (va_up (va_up (va_up (va_up ra 0 pla_5) 1 bri_6) 2 pri_8) 3 cut_9) 4 wor_11) 5 see_12) 6 pla_13) 7 loc_14) 8 mar_15) 9 too_17) 10 com_18) 11 fea_19) 12 kin_20) 13 jus_21) 14 tak_31) 15 too_32)) hx hb hr hlocks hS hP hD h dX4_copyFrom_143
abbrev vsX4_hasPlace : List Cond := Cond.code yX4_hasPlace cX4_hasPlace 2 (some .boolean) :: WS
abbrev rmX4_hasPlace : Room := { frames := 0, cells := 0, slots := 0, locals := 0 }
set_option maxHeartbeats 4000000 in
set_option maxRecDepth 100000 in
theorem k_X4_hasPlace (l : Launch) (D : va_G) (C : Nat → ClassId) (sz : Nat) (aR : Nat → Nat)  (rs : Nat → Int32) (ra : Nat → Nat → Int32) (p1 : Int32) {post : Int32 → Prop} (h : P_X4_hasPlace rs p1 post) : Met l yX4_hasPlace vsX4_hasPlace rmX4_hasPlace (cPre D C [.ref (aR 0), .int p1] sz (wRail aR C rs ra)) (cQi D (fun (r : Int32) (u : Unit) => post r ) (fun u => wRail aR C rs ra) (va_A (List.flatten (wRail aR C rs ra)) sz)) 0 0 (va_A (List.flatten (wRail aR C rs ra)) sz) := by
  refine cStart (QA := fun A => cQi D (fun (r : Int32) (u : Unit) => post r ) (fun u => wRail aR C rs ra) A) (cc := cX4_hasPlace) (maxL := 2) (ret := (some .boolean)) (by decide) (Nat.le_of_ble_eq_true rfl) ?_
  intro p e s m args below meth c A ls hx hb hr hml hown hw hlocks hname hK hN hA hP hD hS hl
  generalize hQ : MQ below _ args s 0 0 A = Q
  have hl : lv_has ls 2 [(0, .ref (aR 0)), (1, .int p1)] := hl
  obtain ⟨H, hH⟩ : ∃ H, H = s.heap := ⟨_, rfl⟩
  obtain ⟨locs, hlo⟩ : ∃ z : List Loc, z = [] := ⟨_, rfl⟩
  have hP : va_P D vwCl (List.flatten (wRail aR C rs ra)) H := by rw [hH]; exact hP
  have hS : va_S A s.heap H locs := by rw [hH, hlo]; exact hS
  rw [show W p l e rmX4_hasPlace s m args below meth c s.heap [] 0 0 Q (F0 m 0 ls []) = W p l e rmX4_hasPlace s m args below meth c H locs 0 0 Q (F0 m 0 ls []) from by rw [hH, hlo]]
  refine lv_iload_n hx hb dX4_hasPlace_0 rfl (lv_at hl 1 rfl) ?_
  refine lv_if_lt (tgt := 16) hx hb dX4_hasPlace_1 (by decide) (fun c1 => ?_) (fun c1 => ?_)
  · have h := h.1 c1
    refine lv_iconst (v := 0) hx hb dX4_hasPlace_16 (by decide) ?_
    rw [← hQ]
    exact cRetZ (v := 0) () hx hb hr hlocks hS hP hD (Or.inl rfl) h dX4_hasPlace_17
  · have h := h.2 c1
    refine lv_iload_n hx hb dX4_hasPlace_4 rfl (lv_at hl 1 rfl) ?_
    refine lv_aload_n hx hb dX4_hasPlace_5 rfl (lv_at hl 0 rfl) ?_
    refine va_get (D := D) (ci := 4) (v := .int (rs 0)) (C := RX4) (T := TX4) (N := 16) hx hb hw inW_X4 hown hK hP 0 rfl rfl 0 (by decide) (hw _ mw_1_225) (fun _ h9 => h9) rfl dX4_hasPlace_6 ?_
    refine lv_icmp_ge (tgt := 16) hx hb dX4_hasPlace_9 (by decide) (fun c2 => ?_) (fun c2 => ?_)
    · have h := h.1 c2
      refine lv_iconst (v := 0) hx hb dX4_hasPlace_16 (by decide) ?_
      rw [← hQ]
      exact cRetZ (v := 0) () hx hb hr hlocks hS hP hD (Or.inl rfl) h dX4_hasPlace_17
    · have h := h.2 c2
      refine lv_iconst (v := 1) hx hb dX4_hasPlace_12 (by decide) ?_
      refine lv_goto (tgt := 17) hx hb dX4_hasPlace_13 (by decide) ?_
      rw [← hQ]
      exact cRetZ (v := 1) () hx hb hr hlocks hS hP hD (Or.inr rfl) h dX4_hasPlace_17
abbrev vsX4_lightOf : List Cond := Cond.code yX4_lightOf cX4_lightOf 4 (some .int) :: WS
abbrev rmX4_lightOf : Room := { frames := 1, cells := 0, slots := 0, locals := 23 }
set_option maxHeartbeats 4000000 in
set_option maxRecDepth 100000 in
theorem k_X4_lightOf (l : Launch) (D : va_G) (C : Nat → ClassId) (sz : Nat) (aR : Nat → Nat)  (rs : Nat → Int32) (ra : Nat → Nat → Int32) (p1 : Int32) {post : Int32 → Prop} (h : P_X4_lightOf rs ra p1 post) : Met l yX4_lightOf vsX4_lightOf rmX4_lightOf (cPre D C [.ref (aR 0), .int p1] sz (wRail aR C rs ra)) (cQi D (fun (r : Int32) (u : Unit) => post r ) (fun u => wRail aR C rs ra) (va_A (List.flatten (wRail aR C rs ra)) sz)) 0 0 (va_A (List.flatten (wRail aR C rs ra)) sz) := by
  refine cStart (QA := fun A => cQi D (fun (r : Int32) (u : Unit) => post r ) (fun u => wRail aR C rs ra) A) (cc := cX4_lightOf) (maxL := 4) (ret := (some .int)) (by decide) (Nat.le_of_ble_eq_true rfl) ?_
  intro p e s m args below meth c A ls hx hb hr hml hown hw hlocks hname hK hN hA hP hD hS hl
  generalize hQ : MQ below _ args s 0 0 A = Q
  have hl : lv_has ls 4 [(0, .ref (aR 0)), (1, .int p1)] := hl
  have hn56 : (Cond.fieldLinkNest "LockRail$Rail" 56 "LockRail$Lamps" "count" "I" "LockRail").before args s = true := hN.f 7 rfl
  have hn114 : (Cond.fieldLinkNest "LockRail$Rail" 114 "LockRail$Lamps" "bright" "[I" "LockRail").before args s = true := hN.f 11 rfl
  have hn118 : (Cond.fieldLinkNest "LockRail$Rail" 118 "LockRail$Lamps" "place" "[I" "LockRail").before args s = true := hN.f 10 rfl
  obtain ⟨H, hH⟩ : ∃ H, H = s.heap := ⟨_, rfl⟩
  obtain ⟨locs, hlo⟩ : ∃ z : List Loc, z = [] := ⟨_, rfl⟩
  have hP : va_P D vwCl (List.flatten (wRail aR C rs ra)) H := by rw [hH]; exact hP
  have hS : va_S A s.heap H locs := by rw [hH, hlo]; exact hS
  rw [show W p l e rmX4_lightOf s m args below meth c s.heap [] 0 0 Q (F0 m 0 ls []) = W p l e rmX4_lightOf s m args below meth c H locs 0 0 Q (F0 m 0 ls []) from by rw [hH, hlo]]
  have N18 : ∀  (n18 : Nat) (x2_ : Int32) (x3_ : Int32) (H : Heap) (locs : List Loc) (ls : Array Slot), P_X4_lightOf_18 rs ra p1 post   n18 x2_ x3_ → va_P D vwCl (List.flatten (wRail aR C rs ra)) H → va_D A (List.flatten (wRail aR C rs ra)) → va_S A s.heap H locs → lv_has ls 4 [(0, .ref (aR 0)), (1, .int p1), (2, .int x2_), (3, .int x3_)] → W p l e rmX4_lightOf s m args below meth c H locs 0 0 Q (F0 m 18 ls []) := by
    intro n18
    induction n18 with
    | zero => intro x2_ x3_ H locs ls h hP hD hS hl; exact False.elim h
    | succ n18 ih18 =>
      intro x2_ x3_ H locs ls h hP hD hS hl
      refine lv_iload_n hx hb dX4_lightOf_18 rfl (lv_at hl 3 rfl) ?_
      refine lv_aload_n hx hb dX4_lightOf_19 rfl (lv_at hl 0 rfl) ?_
      refine va_get (D := D) (ci := 4) (v := .ref (aR 1)) (C := RX4) (T := TX4) (N := 16) hx hb hw inW_X4 hown hK hP 0 rfl rfl 3 (by decide) (hw _ mw_1_235) (fun _ h9 => h9) rfl dX4_lightOf_20 ?_
      refine va_getN (D := D) (ci := 1) (v := .int (rs 11)) (C := RX1) (T := TX1) (N := 3) hx hb hw inW_X1 hown hK hP 1 rfl rfl 0 (by decide) hn56 (fun _ h9 => h9) rfl dX4_lightOf_23 ?_
      refine lv_icmp_ge (tgt := 66) hx hb dX4_lightOf_26 (by decide) (fun c1 => ?_) (fun c1 => ?_)
      · have h := h.1 c1
        refine lv_iload_n hx hb dX4_lightOf_66 rfl (lv_at hl 2 rfl) ?_
        rw [← hQ]
        exact cRetI (v := x2_) () hx hb hr hlocks hS hP hD h dX4_lightOf_67
      · have h := h.2 c1
        refine lv_iload_n hx hb dX4_lightOf_29 rfl (lv_at hl 2 rfl) ?_
        refine lv_iconst (v := 0) hx hb dX4_lightOf_30 (by decide) ?_
        refine lv_aload_n hx hb dX4_lightOf_31 rfl (lv_at hl 0 rfl) ?_
        refine va_get (D := D) (ci := 4) (v := .ref (aR 1)) (C := RX4) (T := TX4) (N := 16) hx hb hw inW_X4 hown hK hP 0 rfl rfl 3 (by decide) (hw _ mw_1_235) (fun _ h9 => h9) rfl dX4_lightOf_32 ?_
        refine va_getN (D := D) (ci := 1) (v := .ref (aR 3)) (C := RX1) (T := TX1) (N := 3) hx hb hw inW_X1 hown hK hP 1 rfl rfl 2 (by decide) hn114 (fun _ h9 => h9) rfl dX4_lightOf_35 ?_
        refine lv_iload_n hx hb dX4_lightOf_38 rfl (lv_at hl 3 rfl) ?_
        refine cIald hx hb hK hP 3 0 rfl rfl x3_.toNatClampNeg rfl h.1 dX4_lightOf_39 ?_
        have h := h.2
        refine lv_iload_n hx hb dX4_lightOf_40 rfl (lv_at hl 1 rfl) ?_
        refine lv_aload_n hx hb dX4_lightOf_41 rfl (lv_at hl 0 rfl) ?_
        refine va_get (D := D) (ci := 4) (v := .ref (aR 1)) (C := RX4) (T := TX4) (N := 16) hx hb hw inW_X4 hown hK hP 0 rfl rfl 3 (by decide) (hw _ mw_1_235) (fun _ h9 => h9) rfl dX4_lightOf_42 ?_
        refine va_getN (D := D) (ci := 1) (v := .ref (aR 2)) (C := RX1) (T := TX1) (N := 3) hx hb hw inW_X1 hown hK hP 1 rfl rfl 1 (by decide) hn118 (fun _ h9 => h9) rfl dX4_lightOf_45 ?_
        refine lv_iload_n hx hb dX4_lightOf_48 rfl (lv_at hl 3 rfl) ?_
        refine cIald hx hb hK hP 2 0 rfl rfl x3_.toNatClampNeg rfl h.1 dX4_lightOf_49 ?_
        have h := h.2
        refine lv_isub hx hb dX4_lightOf_50 ?_
        refine va_mabs hx hb (hml.trans hl.1.symm) hown (hw _ mw_3_170) (hw _ mw_3_171) (hw _ mw_1_14) (hw _ mw_3_172) (Nat.le_of_ble_eq_true rfl) (Nat.le_of_ble_eq_true rfl) (Nat.zero_le _) (Nat.zero_le _) dX4_lightOf_51 ?_
        refine lv_isub hx hb dX4_lightOf_54 ?_
        refine va_mmax hx hb (hml.trans hl.1.symm) hown (hw _ mw_3_173) (hw _ mw_3_174) (hw _ mw_1_14) (hw _ mw_3_175) (Nat.le_of_ble_eq_true rfl) (Nat.le_of_ble_eq_true rfl) (Nat.zero_le _) (Nat.zero_le _) dX4_lightOf_55 ?_
        refine lv_iadd hx hb dX4_lightOf_58 ?_
        refine lv_topi (fun x2 ex2 => ?_)
        have h := h x2 ex2
        refine lv_istore_n (lv' := [(2, .int x2), (0, .ref (aR 0)), (1, .int p1), (3, .int x3_)]) hx hb dX4_lightOf_59 rfl hl (by decide) rfl (fun ls hl => ?_)
        refine lv_iinc (v := (x3_ + 1)) (lv' := [(3, .int (x3_ + 1)), (2, .int x2), (0, .ref (aR 0)), (1, .int p1)]) hx hb dX4_lightOf_60 hl (k := 3) rfl rfl (by decide) rfl (fun ls hl => ?_)
        refine lv_goto (tgt := 18) hx hb dX4_lightOf_63 (by decide) ?_
        exact ih18 x2 (x3_ + 1) _ _ _ h hP hD hS (lv_sub hl [2, 3, 1, 0] rfl)
  refine lv_aload_n hx hb dX4_lightOf_0 rfl (lv_at hl 0 rfl) ?_
  refine va_get (D := D) (ci := 4) (v := .int (rs 10)) (C := RX4) (T := TX4) (N := 16) hx hb hw inW_X4 hown hK hP 0 rfl rfl 14 (by decide) (hw _ mw_2_24) (fun _ h9 => h9) rfl dX4_lightOf_1 ?_
  refine lv_if_eq (tgt := 14) hx hb dX4_lightOf_4 (by decide) (fun c3 => ?_) (fun c3 => ?_)
  · have h := h.1 c3
    refine lv_iconst (v := 0) hx hb dX4_lightOf_14 (by decide) ?_
    refine lv_istore_n (lv' := [(2, .int 0), (0, .ref (aR 0)), (1, .int p1)]) hx hb dX4_lightOf_15 rfl hl (by decide) rfl (fun ls hl => ?_)
    refine lv_iconst (v := 0) hx hb dX4_lightOf_16 (by decide) ?_
    refine lv_istore_n (lv' := [(3, .int 0), (2, .int 0), (0, .ref (aR 0)), (1, .int p1)]) hx hb dX4_lightOf_17 rfl hl (by decide) rfl (fun ls hl => ?_)
    obtain ⟨n, h⟩ := h
    exact N18  n 0 0 _ _ _ h hP hD hS (lv_sub hl [2, 3, 1, 0] rfl)
  · have h := h.2 c3
    refine lv_aload_n hx hb dX4_lightOf_7 rfl (lv_at hl 0 rfl) ?_
    refine va_get (D := D) (ci := 4) (v := .int (rs 9)) (C := RX4) (T := TX4) (N := 16) hx hb hw inW_X4 hown hK hP 0 rfl rfl 13 (by decide) (hw _ mw_2_22) (fun _ h9 => h9) rfl dX4_lightOf_8 ?_
    refine lv_goto (tgt := 15) hx hb dX4_lightOf_11 (by decide) ?_
    refine lv_topi (fun x4 ex4 => ?_)
    have h := h x4 ex4
    refine lv_istore_n (lv' := [(2, .int x4), (0, .ref (aR 0)), (1, .int p1)]) hx hb dX4_lightOf_15 rfl hl (by decide) rfl (fun ls hl => ?_)
    refine lv_iconst (v := 0) hx hb dX4_lightOf_16 (by decide) ?_
    refine lv_istore_n (lv' := [(3, .int 0), (2, .int x4), (0, .ref (aR 0)), (1, .int p1)]) hx hb dX4_lightOf_17 rfl hl (by decide) rfl (fun ls hl => ?_)
    obtain ⟨n, h⟩ := h
    exact N18  n x4 0 _ _ _ h hP hD hS (lv_sub hl [2, 3, 1, 0] rfl)
abbrev vsX4_hasBike : List Cond := Cond.code yX4_hasBike cX4_hasBike 2 (some .boolean) :: WS
abbrev rmX4_hasBike : Room := { frames := 0, cells := 0, slots := 0, locals := 0 }
set_option maxHeartbeats 4000000 in
set_option maxRecDepth 100000 in
theorem k_X4_hasBike (l : Launch) (D : va_G) (C : Nat → ClassId) (sz : Nat) (aR : Nat → Nat)  (rs : Nat → Int32) (ra : Nat → Nat → Int32) (p1 : Int32) {post : Int32 → Prop} (h : P_X4_hasBike rs p1 post) : Met l yX4_hasBike vsX4_hasBike rmX4_hasBike (cPre D C [.ref (aR 0), .int p1] sz (wRail aR C rs ra)) (cQi D (fun (r : Int32) (u : Unit) => post r ) (fun u => wRail aR C rs ra) (va_A (List.flatten (wRail aR C rs ra)) sz)) 0 0 (va_A (List.flatten (wRail aR C rs ra)) sz) := by
  refine cStart (QA := fun A => cQi D (fun (r : Int32) (u : Unit) => post r ) (fun u => wRail aR C rs ra) A) (cc := cX4_hasBike) (maxL := 2) (ret := (some .boolean)) (by decide) (Nat.le_of_ble_eq_true rfl) ?_
  intro p e s m args below meth c A ls hx hb hr hml hown hw hlocks hname hK hN hA hP hD hS hl
  generalize hQ : MQ below _ args s 0 0 A = Q
  have hl : lv_has ls 2 [(0, .ref (aR 0)), (1, .int p1)] := hl
  have hn60 : (Cond.fieldLinkNest "LockRail$Rail" 60 "LockRail$Bikes" "count" "I" "LockRail").before args s = true := hN.f 17 rfl
  obtain ⟨H, hH⟩ : ∃ H, H = s.heap := ⟨_, rfl⟩
  obtain ⟨locs, hlo⟩ : ∃ z : List Loc, z = [] := ⟨_, rfl⟩
  have hP : va_P D vwCl (List.flatten (wRail aR C rs ra)) H := by rw [hH]; exact hP
  have hS : va_S A s.heap H locs := by rw [hH, hlo]; exact hS
  rw [show W p l e rmX4_hasBike s m args below meth c s.heap [] 0 0 Q (F0 m 0 ls []) = W p l e rmX4_hasBike s m args below meth c H locs 0 0 Q (F0 m 0 ls []) from by rw [hH, hlo]]
  refine lv_iload_n hx hb dX4_hasBike_0 rfl (lv_at hl 1 rfl) ?_
  refine lv_if_lt (tgt := 19) hx hb dX4_hasBike_1 (by decide) (fun c1 => ?_) (fun c1 => ?_)
  · have h := h.1 c1
    refine lv_iconst (v := 0) hx hb dX4_hasBike_19 (by decide) ?_
    rw [← hQ]
    exact cRetZ (v := 0) () hx hb hr hlocks hS hP hD (Or.inl rfl) h dX4_hasBike_20
  · have h := h.2 c1
    refine lv_iload_n hx hb dX4_hasBike_4 rfl (lv_at hl 1 rfl) ?_
    refine lv_aload_n hx hb dX4_hasBike_5 rfl (lv_at hl 0 rfl) ?_
    refine va_get (D := D) (ci := 4) (v := .ref (aR 7)) (C := RX4) (T := TX4) (N := 16) hx hb hw inW_X4 hown hK hP 0 rfl rfl 5 (by decide) (hw _ mw_2_1) (fun _ h9 => h9) rfl dX4_hasBike_6 ?_
    refine va_getN (D := D) (ci := 0) (v := .int (rs 13)) (C := RX0) (T := TX0) (N := 6) hx hb hw inW_X0 hown hK hP 7 rfl rfl 0 (by decide) hn60 (fun _ h9 => h9) rfl dX4_hasBike_9 ?_
    refine lv_icmp_ge (tgt := 19) hx hb dX4_hasBike_12 (by decide) (fun c2 => ?_) (fun c2 => ?_)
    · have h := h.1 c2
      refine lv_iconst (v := 0) hx hb dX4_hasBike_19 (by decide) ?_
      rw [← hQ]
      exact cRetZ (v := 0) () hx hb hr hlocks hS hP hD (Or.inl rfl) h dX4_hasBike_20
    · have h := h.2 c2
      refine lv_iconst (v := 1) hx hb dX4_hasBike_15 (by decide) ?_
      refine lv_goto (tgt := 20) hx hb dX4_hasBike_16 (by decide) ?_
      rw [← hQ]
      exact cRetZ (v := 1) () hx hb hr hlocks hS hP hD (Or.inr rfl) h dX4_hasBike_20
abbrev vsX4_hasThief : List Cond := Cond.code yX4_hasThief cX4_hasThief 2 (some .boolean) :: WS
abbrev rmX4_hasThief : Room := { frames := 0, cells := 0, slots := 0, locals := 0 }
set_option maxHeartbeats 4000000 in
set_option maxRecDepth 100000 in
theorem k_X4_hasThief (l : Launch) (D : va_G) (C : Nat → ClassId) (sz : Nat) (aR : Nat → Nat)  (rs : Nat → Int32) (ra : Nat → Nat → Int32) (p1 : Int32) {post : Int32 → Prop} (h : P_X4_hasThief rs p1 post) : Met l yX4_hasThief vsX4_hasThief rmX4_hasThief (cPre D C [.ref (aR 0), .int p1] sz (wRail aR C rs ra)) (cQi D (fun (r : Int32) (u : Unit) => post r ) (fun u => wRail aR C rs ra) (va_A (List.flatten (wRail aR C rs ra)) sz)) 0 0 (va_A (List.flatten (wRail aR C rs ra)) sz) := by
  refine cStart (QA := fun A => cQi D (fun (r : Int32) (u : Unit) => post r ) (fun u => wRail aR C rs ra) A) (cc := cX4_hasThief) (maxL := 2) (ret := (some .boolean)) (by decide) (Nat.le_of_ble_eq_true rfl) ?_
  intro p e s m args below meth c A ls hx hb hr hml hown hw hlocks hname hK hN hA hP hD hS hl
  generalize hQ : MQ below _ args s 0 0 A = Q
  have hl : lv_has ls 2 [(0, .ref (aR 0)), (1, .int p1)] := hl
  have hn61 : (Cond.fieldLinkNest "LockRail$Rail" 61 "LockRail$Thieves" "count" "I" "LockRail").before args s = true := hN.f 32 rfl
  obtain ⟨H, hH⟩ : ∃ H, H = s.heap := ⟨_, rfl⟩
  obtain ⟨locs, hlo⟩ : ∃ z : List Loc, z = [] := ⟨_, rfl⟩
  have hP : va_P D vwCl (List.flatten (wRail aR C rs ra)) H := by rw [hH]; exact hP
  have hS : va_S A s.heap H locs := by rw [hH, hlo]; exact hS
  rw [show W p l e rmX4_hasThief s m args below meth c s.heap [] 0 0 Q (F0 m 0 ls []) = W p l e rmX4_hasThief s m args below meth c H locs 0 0 Q (F0 m 0 ls []) from by rw [hH, hlo]]
  refine lv_iload_n hx hb dX4_hasThief_0 rfl (lv_at hl 1 rfl) ?_
  refine lv_if_lt (tgt := 19) hx hb dX4_hasThief_1 (by decide) (fun c1 => ?_) (fun c1 => ?_)
  · have h := h.1 c1
    refine lv_iconst (v := 0) hx hb dX4_hasThief_19 (by decide) ?_
    rw [← hQ]
    exact cRetZ (v := 0) () hx hb hr hlocks hS hP hD (Or.inl rfl) h dX4_hasThief_20
  · have h := h.2 c1
    refine lv_iload_n hx hb dX4_hasThief_4 rfl (lv_at hl 1 rfl) ?_
    refine lv_aload_n hx hb dX4_hasThief_5 rfl (lv_at hl 0 rfl) ?_
    refine va_get (D := D) (ci := 4) (v := .ref (aR 13)) (C := RX4) (T := TX4) (N := 16) hx hb hw inW_X4 hown hK hP 0 rfl rfl 6 (by decide) (hw _ mw_2_5) (fun _ h9 => h9) rfl dX4_hasThief_6 ?_
    refine va_getN (D := D) (ci := 9) (v := .int (rs 14)) (C := RX9) (T := TX9) (N := 6) hx hb hw inW_X9 hown hK hP 13 rfl rfl 0 (by decide) hn61 (fun _ h9 => h9) rfl dX4_hasThief_9 ?_
    refine lv_icmp_ge (tgt := 19) hx hb dX4_hasThief_12 (by decide) (fun c2 => ?_) (fun c2 => ?_)
    · have h := h.1 c2
      refine lv_iconst (v := 0) hx hb dX4_hasThief_19 (by decide) ?_
      rw [← hQ]
      exact cRetZ (v := 0) () hx hb hr hlocks hS hP hD (Or.inl rfl) h dX4_hasThief_20
    · have h := h.2 c2
      refine lv_iconst (v := 1) hx hb dX4_hasThief_15 (by decide) ?_
      refine lv_goto (tgt := 20) hx hb dX4_hasThief_16 (by decide) ?_
      rw [← hQ]
      exact cRetZ (v := 1) () hx hb hr hlocks hS hP hD (Or.inr rfl) h dX4_hasThief_20
abbrev vsX4_troubleOf : List Cond := Cond.code yX4_troubleOf cX4_troubleOf 6 (some .int) :: WS
abbrev rmX4_troubleOf : Room := { frames := 0, cells := 0, slots := 0, locals := 0 }
set_option maxHeartbeats 4000000 in
set_option maxRecDepth 100000 in
theorem k_X4_troubleOf (l : Launch) (D : va_G) (C : Nat → ClassId) (sz : Nat) (aR : Nat → Nat)  (rs : Nat → Int32) (ra : Nat → Nat → Int32) (p1 : Int32) (p2 : Int32) (p3 : Int32) {post : Int32 → Prop} (h : P_X4_troubleOf ra p1 p2 p3 post) : Met l yX4_troubleOf vsX4_troubleOf rmX4_troubleOf (cPre D C [.ref (aR 0), .int p1, .int p2, .int p3] sz (wRail aR C rs ra)) (cQi D (fun (r : Int32) (u : Unit) => post r ) (fun u => wRail aR C rs ra) (va_A (List.flatten (wRail aR C rs ra)) sz)) 0 0 (va_A (List.flatten (wRail aR C rs ra)) sz) := by
  refine cStart (QA := fun A => cQi D (fun (r : Int32) (u : Unit) => post r ) (fun u => wRail aR C rs ra) A) (cc := cX4_troubleOf) (maxL := 6) (ret := (some .int)) (by decide) (Nat.le_of_ble_eq_true rfl) ?_
  intro p e s m args below meth c A ls hx hb hr hml hown hw hlocks hname hK hN hA hP hD hS hl
  generalize hQ : MQ below _ args s 0 0 A = Q
  have hl : lv_has ls 6 [(0, .ref (aR 0)), (1, .int p1), (2, .int p2), (3, .int p3)] := hl
  have hn140 : (Cond.fieldLinkNest "LockRail$Rail" 140 "LockRail$Thieves" "fears" "[I" "LockRail").before args s = true := hN.f 38 rfl
  have hn131 : (Cond.fieldLinkNest "LockRail$Rail" 131 "LockRail$Bikes" "lock" "[I" "LockRail").before args s = true := hN.f 29 rfl
  have hn134 : (Cond.fieldLinkNest "LockRail$Rail" 134 "LockRail$Locks" "cuts" "[I" "LockRail").before args s = true := hN.f 16 rfl
  have hn137 : (Cond.fieldLinkNest "LockRail$Rail" 137 "LockRail$Thieves" "tool" "[I" "LockRail").before args s = true := hN.f 36 rfl
  obtain ⟨H, hH⟩ : ∃ H, H = s.heap := ⟨_, rfl⟩
  obtain ⟨locs, hlo⟩ : ∃ z : List Loc, z = [] := ⟨_, rfl⟩
  have hP : va_P D vwCl (List.flatten (wRail aR C rs ra)) H := by rw [hH]; exact hP
  have hS : va_S A s.heap H locs := by rw [hH, hlo]; exact hS
  rw [show W p l e rmX4_troubleOf s m args below meth c s.heap [] 0 0 Q (F0 m 0 ls []) = W p l e rmX4_troubleOf s m args below meth c H locs 0 0 Q (F0 m 0 ls []) from by rw [hH, hlo]]
  have N43 : ∀ (k0_ : Int32) (H : Heap) (locs : List Loc) (ls : Array Slot), P_X4_troubleOf_43 ra p1 p2 p3 post  k0_ → va_P D vwCl (List.flatten (wRail aR C rs ra)) H → va_D A (List.flatten (wRail aR C rs ra)) → va_S A s.heap H locs → lv_has ls 6 [(0, .ref (aR 0)), (1, .int p1), (3, .int p3)] → W p l e rmX4_troubleOf s m args below meth c H locs 0 0 Q (F0 m 43 ls [.int k0_]) := by
    intro k0_ H locs ls h hP hD hS hl
    refine lv_istore (lv' := [(5, .int k0_), (0, .ref (aR 0)), (1, .int p1), (3, .int p3)]) hx hb dX4_troubleOf_43 hl (by decide) rfl (fun ls hl => ?_)
    refine lv_iload hx hb dX4_troubleOf_45 (lv_at hl 0 rfl) ?_
    refine lv_aload_n hx hb dX4_troubleOf_47 rfl (lv_at hl 1 rfl) ?_
    refine va_get (D := D) (ci := 4) (v := .ref (aR 13)) (C := RX4) (T := TX4) (N := 16) hx hb hw inW_X4 hown hK hP 0 rfl rfl 6 (by decide) (hw _ mw_2_5) (fun _ h9 => h9) rfl dX4_troubleOf_48 ?_
    refine va_getN (D := D) (ci := 9) (v := .ref (aR 16)) (C := RX9) (T := TX9) (N := 6) hx hb hw inW_X9 hown hK hP 13 rfl rfl 3 (by decide) hn140 (fun _ h9 => h9) rfl dX4_troubleOf_51 ?_
    refine lv_iload_n hx hb dX4_troubleOf_54 rfl (lv_at hl 2 rfl) ?_
    refine cIald hx hb hK hP 16 0 rfl rfl p1.toNatClampNeg rfl h.1 dX4_troubleOf_55 ?_
    have h := h.2
    refine lv_imul hx hb dX4_troubleOf_56 ?_
    refine lv_iconst (v := 1) hx hb dX4_troubleOf_57 (by decide) ?_
    refine lv_iload_n hx hb dX4_troubleOf_58 rfl (lv_at hl 3 rfl) ?_
    refine lv_iadd hx hb dX4_troubleOf_59 ?_
    refine lv_imul hx hb dX4_troubleOf_60 ?_
    refine lv_bipush (v := 100) hx hb dX4_troubleOf_61 (by decide) ?_
    refine lv_idiv hx hb dX4_troubleOf_63 (by decide) ?_
    rw [← hQ]
    exact cRetI (v := (((k0_ * (ra 11 p1.toNatClampNeg)) * (1 + p3)) / 100)) () hx hb hr hlocks hS hP hD h dX4_troubleOf_64
  refine lv_aload_n hx hb dX4_troubleOf_0 rfl (lv_at hl 0 rfl) ?_
  refine va_get (D := D) (ci := 4) (v := .ref (aR 7)) (C := RX4) (T := TX4) (N := 16) hx hb hw inW_X4 hown hK hP 0 rfl rfl 5 (by decide) (hw _ mw_2_1) (fun _ h9 => h9) rfl dX4_troubleOf_1 ?_
  refine va_getN (D := D) (ci := 0) (v := .ref (aR 11)) (C := RX0) (T := TX0) (N := 6) hx hb hw inW_X0 hown hK hP 7 rfl rfl 4 (by decide) hn131 (fun _ h9 => h9) rfl dX4_troubleOf_4 ?_
  refine lv_iload_n hx hb dX4_troubleOf_7 rfl (lv_at hl 2 rfl) ?_
  refine cIald hx hb hK hP 11 0 rfl rfl p2.toNatClampNeg rfl h.1 dX4_troubleOf_8 ?_
  have h := h.2
  refine lv_topi (fun x1 ex1 => ?_)
  have h := h x1 ex1
  refine lv_istore (lv' := [(4, .int x1), (0, .ref (aR 0)), (1, .int p1), (2, .int p2), (3, .int p3)]) hx hb dX4_troubleOf_9 hl (by decide) rfl (fun ls hl => ?_)
  refine lv_iload hx hb dX4_troubleOf_11 (lv_at hl 0 rfl) ?_
  refine lv_iconst (v := (-1)) hx hb dX4_troubleOf_13 (by decide) ?_
  refine lv_icmp_ne (tgt := 21) hx hb dX4_troubleOf_14 (by decide) (fun c2 => ?_) (fun c2 => ?_)
  · have h := h.1 c2
    refine lv_aload_n hx hb dX4_troubleOf_21 rfl (lv_at hl 1 rfl) ?_
    refine va_get (D := D) (ci := 4) (v := .ref (aR 4)) (C := RX4) (T := TX4) (N := 16) hx hb hw inW_X4 hown hK hP 0 rfl rfl 4 (by decide) (hw _ mw_1_238) (fun _ h9 => h9) rfl dX4_troubleOf_22 ?_
    refine va_getN (D := D) (ci := 2) (v := .ref (aR 6)) (C := RX2) (T := TX2) (N := 3) hx hb hw inW_X2 hown hK hP 4 rfl rfl 2 (by decide) hn134 (fun _ h9 => h9) rfl dX4_troubleOf_25 ?_
    refine lv_iconst (v := 3) hx hb dX4_troubleOf_28 (by decide) ?_
    refine lv_iload hx hb dX4_troubleOf_29 (lv_at hl 0 rfl) ?_
    refine lv_imul hx hb dX4_troubleOf_31 ?_
    refine lv_aload_n hx hb dX4_troubleOf_32 rfl (lv_at hl 1 rfl) ?_
    refine va_get (D := D) (ci := 4) (v := .ref (aR 13)) (C := RX4) (T := TX4) (N := 16) hx hb hw inW_X4 hown hK hP 0 rfl rfl 6 (by decide) (hw _ mw_2_5) (fun _ h9 => h9) rfl dX4_troubleOf_33 ?_
    refine va_getN (D := D) (ci := 9) (v := .ref (aR 14)) (C := RX9) (T := TX9) (N := 6) hx hb hw inW_X9 hown hK hP 13 rfl rfl 1 (by decide) hn137 (fun _ h9 => h9) rfl dX4_troubleOf_36 ?_
    refine lv_iload_n hx hb dX4_troubleOf_39 rfl (lv_at hl 2 rfl) ?_
    refine cIald hx hb hK hP 14 0 rfl rfl p1.toNatClampNeg rfl h.1 dX4_troubleOf_40 ?_
    have h := h.2
    refine lv_iadd hx hb dX4_troubleOf_41 ?_
    refine cIald hx hb hK hP 6 0 rfl rfl (((3 * x1) + (ra 9 p1.toNatClampNeg)).toNatClampNeg) rfl h.1 dX4_troubleOf_42 ?_
    have h := h.2
    exact N43 (ra 3 (((3 * x1) + (ra 9 p1.toNatClampNeg)).toNatClampNeg)) _ _ _ h hP hD hS (lv_sub hl [1, 2, 4] rfl)
  · have h := h.2 c2
    refine lv_iconst (v := 0) hx hb dX4_troubleOf_17 (by decide) ?_
    refine lv_goto (tgt := 43) hx hb dX4_troubleOf_18 (by decide) ?_
    exact N43 0 _ _ _ h hP hD hS (lv_sub hl [1, 2, 4] rfl)
abbrev vsX4_gainOf : List Cond := Cond.code yX4_gainOf cX4_gainOf 5 (some .int) :: WS
abbrev rmX4_gainOf : Room := { frames := 0, cells := 0, slots := 0, locals := 0 }
set_option maxHeartbeats 4000000 in
set_option maxRecDepth 100000 in
theorem k_X4_gainOf (l : Launch) (D : va_G) (C : Nat → ClassId) (sz : Nat) (aR : Nat → Nat)  (rs : Nat → Int32) (ra : Nat → Nat → Int32) (p1 : Int32) (p2 : Int32) {post : Int32 → Prop} (h : P_X4_gainOf rs ra p1 p2 post) : Met l yX4_gainOf vsX4_gainOf rmX4_gainOf (cPre D C [.ref (aR 0), .int p1, .int p2] sz (wRail aR C rs ra)) (cQi D (fun (r : Int32) (u : Unit) => post r ) (fun u => wRail aR C rs ra) (va_A (List.flatten (wRail aR C rs ra)) sz)) 0 0 (va_A (List.flatten (wRail aR C rs ra)) sz) := by
  refine cStart (QA := fun A => cQi D (fun (r : Int32) (u : Unit) => post r ) (fun u => wRail aR C rs ra) A) (cc := cX4_gainOf) (maxL := 5) (ret := (some .int)) (by decide) (Nat.le_of_ble_eq_true rfl) ?_
  intro p e s m args below meth c A ls hx hb hr hml hown hw hlocks hname hK hN hA hP hD hS hl
  generalize hQ : MQ below _ args s 0 0 A = Q
  have hl : lv_has ls 5 [(0, .ref (aR 0)), (1, .int p1), (2, .int p2)] := hl
  have hn146 : (Cond.fieldLinkNest "LockRail$Rail" 146 "LockRail$Bikes" "marked" "[Z" "LockRail").before args s = true := hN.f 31 rfl
  have hn143 : (Cond.fieldLinkNest "LockRail$Rail" 143 "LockRail$Bikes" "seems" "[I" "LockRail").before args s = true := hN.f 25 rfl
  have hn60 : (Cond.fieldLinkNest "LockRail$Rail" 60 "LockRail$Bikes" "count" "I" "LockRail").before args s = true := hN.f 17 rfl
  obtain ⟨H, hH⟩ : ∃ H, H = s.heap := ⟨_, rfl⟩
  obtain ⟨locs, hlo⟩ : ∃ z : List Loc, z = [] := ⟨_, rfl⟩
  have hP : va_P D vwCl (List.flatten (wRail aR C rs ra)) H := by rw [hH]; exact hP
  have hS : va_S A s.heap H locs := by rw [hH, hlo]; exact hS
  rw [show W p l e rmX4_gainOf s m args below meth c s.heap [] 0 0 Q (F0 m 0 ls []) = W p l e rmX4_gainOf s m args below meth c H locs 0 0 Q (F0 m 0 ls []) from by rw [hH, hlo]]
  have N49 : ∀ (x3_ : Int32) (H : Heap) (locs : List Loc) (ls : Array Slot), P_X4_gainOf_49 rs ra p1 p2 post  x3_ → va_P D vwCl (List.flatten (wRail aR C rs ra)) H → va_D A (List.flatten (wRail aR C rs ra)) → va_S A s.heap H locs → lv_has ls 5 [(0, .ref (aR 0)), (1, .int p1), (3, .int x3_)] → W p l e rmX4_gainOf s m args below meth c H locs 0 0 Q (F0 m 49 ls []) := by
    intro x3_ H locs ls h hP hD hS hl
    refine lv_aload_n hx hb dX4_gainOf_49 rfl (lv_at hl 0 rfl) ?_
    refine va_get (D := D) (ci := 4) (v := .ref (aR 7)) (C := RX4) (T := TX4) (N := 16) hx hb hw inW_X4 hown hK hP 0 rfl rfl 5 (by decide) (hw _ mw_2_1) (fun _ h9 => h9) rfl dX4_gainOf_50 ?_
    refine va_getN (D := D) (ci := 0) (v := .ref (aR 12)) (C := RX0) (T := TX0) (N := 6) hx hb hw inW_X0 hown hK hP 7 rfl rfl 5 (by decide) hn146 (fun _ h9 => h9) rfl dX4_gainOf_53 ?_
    refine lv_iload_n hx hb dX4_gainOf_56 rfl (lv_at hl 1 rfl) ?_
    refine cZald hx hb hK hP 12 3 rfl rfl p1.toNatClampNeg rfl h.1 dX4_gainOf_57 ?_
    have h := h.2
    refine lv_if_eq (tgt := 76) hx hb dX4_gainOf_58 (by decide) (fun c1 => ?_) (fun c1 => ?_)
    · have h := h.1 c1
      refine lv_iload_n hx hb dX4_gainOf_76 rfl (lv_at hl 2 rfl) ?_
      rw [← hQ]
      exact cRetI (v := x3_) () hx hb hr hlocks hS hP hD h dX4_gainOf_77
    · have h := h.2 c1
      refine lv_iload_n hx hb dX4_gainOf_61 rfl (lv_at hl 2 rfl) ?_
      refine lv_bipush (v := 100) hx hb dX4_gainOf_62 (by decide) ?_
      refine lv_aload_n hx hb dX4_gainOf_64 rfl (lv_at hl 0 rfl) ?_
      refine va_get (D := D) (ci := 4) (v := .int (rs 5)) (C := RX4) (T := TX4) (N := 16) hx hb hw inW_X4 hown hK hP 0 rfl rfl 9 (by decide) (hw _ mw_2_13) (fun _ h9 => h9) rfl dX4_gainOf_65 ?_
      refine lv_isub hx hb dX4_gainOf_68 ?_
      refine lv_imul hx hb dX4_gainOf_69 ?_
      refine lv_bipush (v := 100) hx hb dX4_gainOf_70 (by decide) ?_
      refine lv_idiv hx hb dX4_gainOf_72 (by decide) ?_
      refine lv_goto (tgt := 77) hx hb dX4_gainOf_73 (by decide) ?_
      rw [← hQ]
      exact cRetI (v := ((x3_ * (100 - (rs 5))) / 100)) () hx hb hr hlocks hS hP hD h dX4_gainOf_77
  refine lv_aload_n hx hb dX4_gainOf_0 rfl (lv_at hl 0 rfl) ?_
  refine va_get (D := D) (ci := 4) (v := .ref (aR 7)) (C := RX4) (T := TX4) (N := 16) hx hb hw inW_X4 hown hK hP 0 rfl rfl 5 (by decide) (hw _ mw_2_1) (fun _ h9 => h9) rfl dX4_gainOf_1 ?_
  refine va_getN (D := D) (ci := 0) (v := .ref (aR 9)) (C := RX0) (T := TX0) (N := 6) hx hb hw inW_X0 hown hK hP 7 rfl rfl 2 (by decide) hn143 (fun _ h9 => h9) rfl dX4_gainOf_4 ?_
  refine lv_iload_n hx hb dX4_gainOf_7 rfl (lv_at hl 1 rfl) ?_
  refine cIald hx hb hK hP 9 0 rfl rfl p1.toNatClampNeg rfl h.1 dX4_gainOf_8 ?_
  have h := h.2
  refine lv_topi (fun x2 ex2 => ?_)
  have h := h x2 ex2
  refine lv_istore_n (lv' := [(3, .int x2), (0, .ref (aR 0)), (1, .int p1), (2, .int p2)]) hx hb dX4_gainOf_9 rfl hl (by decide) rfl (fun ls hl => ?_)
  refine lv_bipush (v := 100) hx hb dX4_gainOf_10 (by decide) ?_
  refine lv_aload_n hx hb dX4_gainOf_12 rfl (lv_at hl 1 rfl) ?_
  refine va_get (D := D) (ci := 4) (v := .ref (aR 7)) (C := RX4) (T := TX4) (N := 16) hx hb hw inW_X4 hown hK hP 0 rfl rfl 5 (by decide) (hw _ mw_2_1) (fun _ h9 => h9) rfl dX4_gainOf_13 ?_
  refine va_getN (D := D) (ci := 0) (v := .int (rs 13)) (C := RX0) (T := TX0) (N := 6) hx hb hw inW_X0 hown hK hP 7 rfl rfl 0 (by decide) hn60 (fun _ h9 => h9) rfl dX4_gainOf_16 ?_
  refine lv_imul hx hb dX4_gainOf_19 ?_
  refine lv_topi (fun x3 ex3 => ?_)
  have h := h x3 ex3
  refine lv_istore (lv' := [(4, .int x3), (3, .int x2), (0, .ref (aR 0)), (1, .int p1), (2, .int p2)]) hx hb dX4_gainOf_20 hl (by decide) rfl (fun ls hl => ?_)
  refine lv_aload_n hx hb dX4_gainOf_22 rfl (lv_at hl 2 rfl) ?_
  refine va_get (D := D) (ci := 4) (v := .int (rs 6)) (C := RX4) (T := TX4) (N := 16) hx hb hw inW_X4 hown hK hP 0 rfl rfl 10 (by decide) (hw _ mw_2_15) (fun _ h9 => h9) rfl dX4_gainOf_23 ?_
  refine lv_if_eq (tgt := 49) hx hb dX4_gainOf_26 (by decide) (fun c4 => ?_) (fun c4 => ?_)
  · have h := h.1 c4
    exact N49 x2 _ _ _ h hP hD hS (lv_sub hl [2, 3, 1] rfl)
  · have h := h.2 c4
    refine lv_iload hx hb dX4_gainOf_29 (lv_at hl 0 rfl) ?_
    refine lv_if_le (tgt := 49) hx hb dX4_gainOf_31 (by decide) (fun c5 => ?_) (fun c5 => ?_)
    · have h := h.1 c5
      exact N49 x2 _ _ _ h hP hD hS (lv_sub hl [2, 3, 1] rfl)
    · have h := h.2 c5
      refine lv_iload_n hx hb dX4_gainOf_34 rfl (lv_at hl 1 rfl) ?_
      refine lv_iload hx hb dX4_gainOf_35 (lv_at hl 0 rfl) ?_
      refine lv_aload_n hx hb dX4_gainOf_37 rfl (lv_at hl 2 rfl) ?_
      refine va_get (D := D) (ci := 4) (v := .int (rs 5)) (C := RX4) (T := TX4) (N := 16) hx hb hw inW_X4 hown hK hP 0 rfl rfl 9 (by decide) (hw _ mw_2_13) (fun _ h9 => h9) rfl dX4_gainOf_38 ?_
      refine lv_iload_n hx hb dX4_gainOf_41 rfl (lv_at hl 4 rfl) ?_
      refine lv_imul hx hb dX4_gainOf_42 ?_
      refine lv_isub hx hb dX4_gainOf_43 ?_
      refine lv_imul hx hb dX4_gainOf_44 ?_
      refine lv_iload hx hb dX4_gainOf_45 (lv_at hl 0 rfl) ?_
      refine lv_idiv hx hb dX4_gainOf_47 h.1 ?_
      have h := h.2
      rw [← hQ]
      exact cRetI (v := ((x2 * (x3 - ((rs 5) * p2))) / x3)) () hx hb hr hlocks hS hP hD h dX4_gainOf_48
abbrev vsX4_hasSet : List Cond := Cond.code yX4_hasSet cX4_hasSet 2 (some .boolean) :: WS
abbrev rmX4_hasSet : Room := { frames := 0, cells := 0, slots := 0, locals := 0 }
set_option maxHeartbeats 4000000 in
set_option maxRecDepth 100000 in
theorem k_X4_hasSet (l : Launch) (D : va_G) (C : Nat → ClassId) (sz : Nat) (aR : Nat → Nat)  (rs : Nat → Int32) (ra : Nat → Nat → Int32) (p1 : Int32) {post : Int32 → Prop} (h : P_X4_hasSet rs p1 post) : Met l yX4_hasSet vsX4_hasSet rmX4_hasSet (cPre D C [.ref (aR 0), .int p1] sz (wRail aR C rs ra)) (cQi D (fun (r : Int32) (u : Unit) => post r ) (fun u => wRail aR C rs ra) (va_A (List.flatten (wRail aR C rs ra)) sz)) 0 0 (va_A (List.flatten (wRail aR C rs ra)) sz) := by
  refine cStart (QA := fun A => cQi D (fun (r : Int32) (u : Unit) => post r ) (fun u => wRail aR C rs ra) A) (cc := cX4_hasSet) (maxL := 2) (ret := (some .boolean)) (by decide) (Nat.le_of_ble_eq_true rfl) ?_
  intro p e s m args below meth c A ls hx hb hr hml hown hw hlocks hname hK hN hA hP hD hS hl
  generalize hQ : MQ below _ args s 0 0 A = Q
  have hl : lv_has ls 2 [(0, .ref (aR 0)), (1, .int p1)] := hl
  have hn60 : (Cond.fieldLinkNest "LockRail$Rail" 60 "LockRail$Bikes" "count" "I" "LockRail").before args s = true := hN.f 17 rfl
  obtain ⟨H, hH⟩ : ∃ H, H = s.heap := ⟨_, rfl⟩
  obtain ⟨locs, hlo⟩ : ∃ z : List Loc, z = [] := ⟨_, rfl⟩
  have hP : va_P D vwCl (List.flatten (wRail aR C rs ra)) H := by rw [hH]; exact hP
  have hS : va_S A s.heap H locs := by rw [hH, hlo]; exact hS
  rw [show W p l e rmX4_hasSet s m args below meth c s.heap [] 0 0 Q (F0 m 0 ls []) = W p l e rmX4_hasSet s m args below meth c H locs 0 0 Q (F0 m 0 ls []) from by rw [hH, hlo]]
  refine lv_iload_n hx hb dX4_hasSet_0 rfl (lv_at hl 1 rfl) ?_
  refine lv_if_lt (tgt := 21) hx hb dX4_hasSet_1 (by decide) (fun c1 => ?_) (fun c1 => ?_)
  · have h := h.1 c1
    refine lv_iconst (v := 0) hx hb dX4_hasSet_21 (by decide) ?_
    rw [← hQ]
    exact cRetZ (v := 0) () hx hb hr hlocks hS hP hD (Or.inl rfl) h dX4_hasSet_22
  · have h := h.2 c1
    refine lv_iload_n hx hb dX4_hasSet_4 rfl (lv_at hl 1 rfl) ?_
    refine lv_iconst (v := 1) hx hb dX4_hasSet_5 (by decide) ?_
    refine lv_aload_n hx hb dX4_hasSet_6 rfl (lv_at hl 0 rfl) ?_
    refine va_get (D := D) (ci := 4) (v := .ref (aR 7)) (C := RX4) (T := TX4) (N := 16) hx hb hw inW_X4 hown hK hP 0 rfl rfl 5 (by decide) (hw _ mw_2_1) (fun _ h9 => h9) rfl dX4_hasSet_7 ?_
    refine va_getN (D := D) (ci := 0) (v := .int (rs 13)) (C := RX0) (T := TX0) (N := 6) hx hb hw inW_X0 hown hK hP 7 rfl rfl 0 (by decide) hn60 (fun _ h9 => h9) rfl dX4_hasSet_10 ?_
    refine lv_ishl hx hb dX4_hasSet_13 ?_
    refine lv_icmp_ge (tgt := 21) hx hb dX4_hasSet_14 (by decide) (fun c2 => ?_) (fun c2 => ?_)
    · have h := h.1 c2
      refine lv_iconst (v := 0) hx hb dX4_hasSet_21 (by decide) ?_
      rw [← hQ]
      exact cRetZ (v := 0) () hx hb hr hlocks hS hP hD (Or.inl rfl) h dX4_hasSet_22
    · have h := h.2 c2
      refine lv_iconst (v := 1) hx hb dX4_hasSet_17 (by decide) ?_
      refine lv_goto (tgt := 22) hx hb dX4_hasSet_18 (by decide) ?_
      rw [← hQ]
      exact cRetZ (v := 1) () hx hb hr hlocks hS hP hD (Or.inr rfl) h dX4_hasSet_22
abbrev vsX4_isTold : List Cond := Cond.code yX4_isTold cX4_isTold 1 (some .boolean) :: WS
abbrev rmX4_isTold : Room := { frames := 0, cells := 0, slots := 0, locals := 0 }
set_option maxHeartbeats 4000000 in
set_option maxRecDepth 100000 in
theorem k_X4_isTold (l : Launch) (D : va_G) (C : Nat → ClassId) (sz : Nat) (aR : Nat → Nat)  (rs : Nat → Int32) (ra : Nat → Nat → Int32)  {post : Int32 → Prop} (h : P_X4_isTold rs post) : Met l yX4_isTold vsX4_isTold rmX4_isTold (cPre D C [.ref (aR 0)] sz (wRail aR C rs ra)) (cQi D (fun (r : Int32) (u : Unit) => post r ) (fun u => wRail aR C rs ra) (va_A (List.flatten (wRail aR C rs ra)) sz)) 0 0 (va_A (List.flatten (wRail aR C rs ra)) sz) := by
  refine cStart (QA := fun A => cQi D (fun (r : Int32) (u : Unit) => post r ) (fun u => wRail aR C rs ra) A) (cc := cX4_isTold) (maxL := 1) (ret := (some .boolean)) (by decide) (Nat.le_of_ble_eq_true rfl) ?_
  intro p e s m args below meth c A ls hx hb hr hml hown hw hlocks hname hK hN hA hP hD hS hl
  generalize hQ : MQ below _ args s 0 0 A = Q
  have hl : lv_has ls 1 [(0, .ref (aR 0))] := hl
  obtain ⟨H, hH⟩ : ∃ H, H = s.heap := ⟨_, rfl⟩
  obtain ⟨locs, hlo⟩ : ∃ z : List Loc, z = [] := ⟨_, rfl⟩
  have hP : va_P D vwCl (List.flatten (wRail aR C rs ra)) H := by rw [hH]; exact hP
  have hS : va_S A s.heap H locs := by rw [hH, hlo]; exact hS
  rw [show W p l e rmX4_isTold s m args below meth c s.heap [] 0 0 Q (F0 m 0 ls []) = W p l e rmX4_isTold s m args below meth c H locs 0 0 Q (F0 m 0 ls []) from by rw [hH, hlo]]
  refine lv_aload_n hx hb dX4_isTold_0 rfl (lv_at hl 0 rfl) ?_
  refine va_get (D := D) (ci := 4) (v := .int (rs 2)) (C := RX4) (T := TX4) (N := 16) hx hb hw inW_X4 hown hK hP 0 rfl rfl 2 (by decide) (hw _ mw_1_232) (fun _ h9 => h9) rfl dX4_isTold_1 ?_
  refine lv_if_le (tgt := 11) hx hb dX4_isTold_4 (by decide) (fun c1 => ?_) (fun c1 => ?_)
  · have h := h.1 c1
    refine lv_iconst (v := 0) hx hb dX4_isTold_11 (by decide) ?_
    rw [← hQ]
    exact cRetZ (v := 0) () hx hb hr hlocks hS hP hD (Or.inl rfl) h dX4_isTold_12
  · have h := h.2 c1
    refine lv_iconst (v := 1) hx hb dX4_isTold_7 (by decide) ?_
    refine lv_goto (tgt := 12) hx hb dX4_isTold_8 (by decide) ?_
    rw [← hQ]
    exact cRetZ (v := 1) () hx hb hr hlocks hS hP hD (Or.inr rfl) h dX4_isTold_12
abbrev vsX4_paidFor : List Cond := Cond.code yX4_paidFor cX4_paidFor 4 (some .long) :: WS
abbrev rmX4_paidFor : Room := { frames := 0, cells := 0, slots := 0, locals := 0 }
set_option maxHeartbeats 4000000 in
set_option maxRecDepth 100000 in
theorem k_X4_paidFor (l : Launch) (D : va_G) (C : Nat → ClassId) (sz : Nat) (aR : Nat → Nat)  (rs : Nat → Int32) (ra : Nat → Nat → Int32) (p1 : Int32) {post : Int64 → Prop} (h : P_X4_paidFor rs ra p1 post) : Met l yX4_paidFor vsX4_paidFor rmX4_paidFor (cPre D C [.ref (aR 0), .int p1] sz (wRail aR C rs ra)) (cQl D (fun (r : Int64) (u : Unit) => post r ) (fun u => wRail aR C rs ra) (va_A (List.flatten (wRail aR C rs ra)) sz)) 0 0 (va_A (List.flatten (wRail aR C rs ra)) sz) := by
  refine cStart (QA := fun A => cQl D (fun (r : Int64) (u : Unit) => post r ) (fun u => wRail aR C rs ra) A) (cc := cX4_paidFor) (maxL := 4) (ret := (some .long)) (by decide) (Nat.le_of_ble_eq_true rfl) ?_
  intro p e s m args below meth c A ls hx hb hr hml hown hw hlocks hname hK hN hA hP hD hS hl
  generalize hQ : MQ below _ args s 0 0 A = Q
  have hl : lv_has ls 4 [(0, .ref (aR 0)), (1, .int p1)] := hl
  have hn146 : (Cond.fieldLinkNest "LockRail$Rail" 146 "LockRail$Bikes" "marked" "[Z" "LockRail").before args s = true := hN.f 31 rfl
  have hn131 : (Cond.fieldLinkNest "LockRail$Rail" 131 "LockRail$Bikes" "lock" "[I" "LockRail").before args s = true := hN.f 29 rfl
  have hn150 : (Cond.fieldLinkNest "LockRail$Rail" 150 "LockRail$Locks" "price" "[I" "LockRail").before args s = true := hN.f 15 rfl
  obtain ⟨H, hH⟩ : ∃ H, H = s.heap := ⟨_, rfl⟩
  obtain ⟨locs, hlo⟩ : ∃ z : List Loc, z = [] := ⟨_, rfl⟩
  have hP : va_P D vwCl (List.flatten (wRail aR C rs ra)) H := by rw [hH]; exact hP
  have hS : va_S A s.heap H locs := by rw [hH, hlo]; exact hS
  rw [show W p l e rmX4_paidFor s m args below meth c s.heap [] 0 0 Q (F0 m 0 ls []) = W p l e rmX4_paidFor s m args below meth c H locs 0 0 Q (F0 m 0 ls []) from by rw [hH, hlo]]
  have N28 : ∀ (k0_ : Int32) (H : Heap) (locs : List Loc) (ls : Array Slot), P_X4_paidFor_28 rs ra p1 post  k0_ → va_P D vwCl (List.flatten (wRail aR C rs ra)) H → va_D A (List.flatten (wRail aR C rs ra)) → va_S A s.heap H locs → lv_has ls 4 [(0, .ref (aR 0)), (1, .int p1)] → W p l e rmX4_paidFor s m args below meth c H locs 0 0 Q (F0 m 28 ls [.int k0_]) := by
    intro k0_ H locs ls h hP hD hS hl
    refine lv_istore_n (lv' := [(3, .int k0_), (0, .ref (aR 0)), (1, .int p1)]) hx hb dX4_paidFor_28 rfl hl (by decide) rfl (fun ls hl => ?_)
    refine lv_ldc2 (v := 1000) hx hb hown (hw _ mw_4_109) dX4_paidFor_29 ?_
    refine lv_iload_n hx hb dX4_paidFor_32 rfl (lv_at hl 0 rfl) ?_
    refine lv_aload_n hx hb dX4_paidFor_33 rfl (lv_at hl 1 rfl) ?_
    refine va_get (D := D) (ci := 4) (v := .ref (aR 7)) (C := RX4) (T := TX4) (N := 16) hx hb hw inW_X4 hown hK hP 0 rfl rfl 5 (by decide) (hw _ mw_2_1) (fun _ h9 => h9) rfl dX4_paidFor_34 ?_
    refine va_getN (D := D) (ci := 0) (v := .ref (aR 12)) (C := RX0) (T := TX0) (N := 6) hx hb hw inW_X0 hown hK hP 7 rfl rfl 5 (by decide) hn146 (fun _ h9 => h9) rfl dX4_paidFor_37 ?_
    refine lv_iload_n hx hb dX4_paidFor_40 rfl (lv_at hl 2 rfl) ?_
    refine cZald hx hb hK hP 12 3 rfl rfl p1.toNatClampNeg rfl h.1 dX4_paidFor_41 ?_
    have h := h.2
    refine lv_if_eq (tgt := 52) hx hb dX4_paidFor_42 (by decide) (fun c1 => ?_) (fun c1 => ?_)
    · have h := h.1 c1
      refine lv_iconst (v := 0) hx hb dX4_paidFor_52 (by decide) ?_
      refine lv_iadd hx hb dX4_paidFor_53 ?_
      refine lv_i2l hx hb dX4_paidFor_54 rfl ?_
      refine lv_lmul hx hb dX4_paidFor_55 ?_
      rw [← hQ]
      exact cRetL (v := (1000 * (k0_ + 0).toInt64)) () hx hb hr hlocks hS hP hD h dX4_paidFor_56
    · have h := h.2 c1
      refine lv_aload_n hx hb dX4_paidFor_45 rfl (lv_at hl 1 rfl) ?_
      refine va_get (D := D) (ci := 4) (v := .int (rs 4)) (C := RX4) (T := TX4) (N := 16) hx hb hw inW_X4 hown hK hP 0 rfl rfl 8 (by decide) (hw _ mw_2_11) (fun _ h9 => h9) rfl dX4_paidFor_46 ?_
      refine lv_goto (tgt := 53) hx hb dX4_paidFor_49 (by decide) ?_
      refine lv_iadd hx hb dX4_paidFor_53 ?_
      refine lv_i2l hx hb dX4_paidFor_54 rfl ?_
      refine lv_lmul hx hb dX4_paidFor_55 ?_
      rw [← hQ]
      exact cRetL (v := (1000 * (k0_ + (rs 4)).toInt64)) () hx hb hr hlocks hS hP hD h dX4_paidFor_56
  refine lv_aload_n hx hb dX4_paidFor_0 rfl (lv_at hl 0 rfl) ?_
  refine va_get (D := D) (ci := 4) (v := .ref (aR 7)) (C := RX4) (T := TX4) (N := 16) hx hb hw inW_X4 hown hK hP 0 rfl rfl 5 (by decide) (hw _ mw_2_1) (fun _ h9 => h9) rfl dX4_paidFor_1 ?_
  refine va_getN (D := D) (ci := 0) (v := .ref (aR 11)) (C := RX0) (T := TX0) (N := 6) hx hb hw inW_X0 hown hK hP 7 rfl rfl 4 (by decide) hn131 (fun _ h9 => h9) rfl dX4_paidFor_4 ?_
  refine lv_iload_n hx hb dX4_paidFor_7 rfl (lv_at hl 1 rfl) ?_
  refine cIald hx hb hK hP 11 0 rfl rfl p1.toNatClampNeg rfl h.1 dX4_paidFor_8 ?_
  have h := h.2
  refine lv_topi (fun x2 ex2 => ?_)
  have h := h x2 ex2
  refine lv_istore_n (lv' := [(2, .int x2), (0, .ref (aR 0)), (1, .int p1)]) hx hb dX4_paidFor_9 rfl hl (by decide) rfl (fun ls hl => ?_)
  refine lv_iload_n hx hb dX4_paidFor_10 rfl (lv_at hl 0 rfl) ?_
  refine lv_iconst (v := (-1)) hx hb dX4_paidFor_11 (by decide) ?_
  refine lv_icmp_ne (tgt := 19) hx hb dX4_paidFor_12 (by decide) (fun c3 => ?_) (fun c3 => ?_)
  · have h := h.1 c3
    refine lv_aload_n hx hb dX4_paidFor_19 rfl (lv_at hl 1 rfl) ?_
    refine va_get (D := D) (ci := 4) (v := .ref (aR 4)) (C := RX4) (T := TX4) (N := 16) hx hb hw inW_X4 hown hK hP 0 rfl rfl 4 (by decide) (hw _ mw_1_238) (fun _ h9 => h9) rfl dX4_paidFor_20 ?_
    refine va_getN (D := D) (ci := 2) (v := .ref (aR 5)) (C := RX2) (T := TX2) (N := 3) hx hb hw inW_X2 hown hK hP 4 rfl rfl 1 (by decide) hn150 (fun _ h9 => h9) rfl dX4_paidFor_23 ?_
    refine lv_iload_n hx hb dX4_paidFor_26 rfl (lv_at hl 0 rfl) ?_
    refine cIald hx hb hK hP 5 0 rfl rfl x2.toNatClampNeg rfl h.1 dX4_paidFor_27 ?_
    have h := h.2
    exact N28 (ra 2 x2.toNatClampNeg) _ _ _ h hP hD hS (lv_sub hl [1, 2] rfl)
  · have h := h.2 c3
    refine lv_iconst (v := 0) hx hb dX4_paidFor_15 (by decide) ?_
    refine lv_goto (tgt := 28) hx hb dX4_paidFor_16 (by decide) ?_
    exact N28 0 _ _ _ h hP hD hS (lv_sub hl [1, 2] rfl)
abbrev vsX4_wages : List Cond := Cond.code yX4_wages cX4_wages 1 (some .long) :: WS
abbrev rmX4_wages : Room := { frames := 0, cells := 0, slots := 0, locals := 0 }
set_option maxHeartbeats 4000000 in
set_option maxRecDepth 100000 in
theorem k_X4_wages (l : Launch) (D : va_G) (C : Nat → ClassId) (sz : Nat) (aR : Nat → Nat)  (rs : Nat → Int32) (ra : Nat → Nat → Int32)  {post : Int64 → Prop} (h : P_X4_wages rs post) : Met l yX4_wages vsX4_wages rmX4_wages (cPre D C [.ref (aR 0)] sz (wRail aR C rs ra)) (cQl D (fun (r : Int64) (u : Unit) => post r ) (fun u => wRail aR C rs ra) (va_A (List.flatten (wRail aR C rs ra)) sz)) 0 0 (va_A (List.flatten (wRail aR C rs ra)) sz) := by
  refine cStart (QA := fun A => cQl D (fun (r : Int64) (u : Unit) => post r ) (fun u => wRail aR C rs ra) A) (cc := cX4_wages) (maxL := 1) (ret := (some .long)) (by decide) (Nat.le_of_ble_eq_true rfl) ?_
  intro p e s m args below meth c A ls hx hb hr hml hown hw hlocks hname hK hN hA hP hD hS hl
  generalize hQ : MQ below _ args s 0 0 A = Q
  have hl : lv_has ls 1 [(0, .ref (aR 0))] := hl
  obtain ⟨H, hH⟩ : ∃ H, H = s.heap := ⟨_, rfl⟩
  obtain ⟨locs, hlo⟩ : ∃ z : List Loc, z = [] := ⟨_, rfl⟩
  have hP : va_P D vwCl (List.flatten (wRail aR C rs ra)) H := by rw [hH]; exact hP
  have hS : va_S A s.heap H locs := by rw [hH, hlo]; exact hS
  rw [show W p l e rmX4_wages s m args below meth c s.heap [] 0 0 Q (F0 m 0 ls []) = W p l e rmX4_wages s m args below meth c H locs 0 0 Q (F0 m 0 ls []) from by rw [hH, hlo]]
  refine lv_ldc2 (v := 1000) hx hb hown (hw _ mw_4_109) dX4_wages_0 ?_
  refine lv_aload_n hx hb dX4_wages_3 rfl (lv_at hl 0 rfl) ?_
  refine va_get (D := D) (ci := 4) (v := .int (rs 8)) (C := RX4) (T := TX4) (N := 16) hx hb hw inW_X4 hown hK hP 0 rfl rfl 12 (by decide) (hw _ mw_2_20) (fun _ h9 => h9) rfl dX4_wages_4 ?_
  refine lv_i2l hx hb dX4_wages_7 rfl ?_
  refine lv_lmul hx hb dX4_wages_8 ?_
  refine lv_aload_n hx hb dX4_wages_9 rfl (lv_at hl 0 rfl) ?_
  refine va_get (D := D) (ci := 4) (v := .int (rs 1)) (C := RX4) (T := TX4) (N := 16) hx hb hw inW_X4 hown hK hP 0 rfl rfl 1 (by decide) (hw _ mw_1_228) (fun _ h9 => h9) rfl dX4_wages_10 ?_
  refine lv_i2l hx hb dX4_wages_13 rfl ?_
  refine lv_lmul hx hb dX4_wages_14 ?_
  rw [← hQ]
  exact cRetL (v := ((1000 * (rs 8).toInt64) * (rs 1).toInt64)) () hx hb hr hlocks hS hP hD h dX4_wages_15
abbrev vsX4_wageShare : List Cond := Cond.code yX4_wageShare cX4_wageShare 1 (some .long) :: WS
abbrev rmX4_wageShare : Room := { frames := 1, cells := 0, slots := 0, locals := 20 }
set_option maxHeartbeats 4000000 in
set_option maxRecDepth 100000 in
theorem k_X4_wageShare (l : Launch) (D : va_G) (C : Nat → ClassId) (sz : Nat) (aR : Nat → Nat)  (rs : Nat → Int32) (ra : Nat → Nat → Int32)  {post : Int64 → Prop} (h : P_X4_wageShare rs post) : Met l yX4_wageShare vsX4_wageShare rmX4_wageShare (cPre D C [.ref (aR 0)] sz (wRail aR C rs ra)) (cQl D (fun (r : Int64) (u : Unit) => post r ) (fun u => wRail aR C rs ra) (va_A (List.flatten (wRail aR C rs ra)) sz)) 0 0 (va_A (List.flatten (wRail aR C rs ra)) sz) := by
  refine cStart (QA := fun A => cQl D (fun (r : Int64) (u : Unit) => post r ) (fun u => wRail aR C rs ra) A) (cc := cX4_wageShare) (maxL := 1) (ret := (some .long)) (by decide) (Nat.le_of_ble_eq_true rfl) ?_
  intro p e s m args below meth c A ls hx hb hr hml hown hw hlocks hname hK hN hA hP hD hS hl
  generalize hQ : MQ below _ args s 0 0 A = Q
  have hl : lv_has ls 1 [(0, .ref (aR 0))] := hl
  have hn60 : (Cond.fieldLinkNest "LockRail$Rail" 60 "LockRail$Bikes" "count" "I" "LockRail").before args s = true := hN.f 17 rfl
  obtain ⟨H, hH⟩ : ∃ H, H = s.heap := ⟨_, rfl⟩
  obtain ⟨locs, hlo⟩ : ∃ z : List Loc, z = [] := ⟨_, rfl⟩
  have hP : va_P D vwCl (List.flatten (wRail aR C rs ra)) H := by rw [hH]; exact hP
  have hS : va_S A s.heap H locs := by rw [hH, hlo]; exact hS
  rw [show W p l e rmX4_wageShare s m args below meth c s.heap [] 0 0 Q (F0 m 0 ls []) = W p l e rmX4_wageShare s m args below meth c H locs 0 0 Q (F0 m 0 ls []) from by rw [hH, hlo]]
  refine lv_aload_n hx hb dX4_wageShare_0 rfl (lv_at hl 0 rfl) ?_
  refine va_get (D := D) (ci := 4) (v := .int (rs 10)) (C := RX4) (T := TX4) (N := 16) hx hb hw inW_X4 hown hK hP 0 rfl rfl 14 (by decide) (hw _ mw_2_24) (fun _ h9 => h9) rfl dX4_wageShare_1 ?_
  refine lv_if_eq (tgt := 33) hx hb dX4_wageShare_4 (by decide) (fun c1 => ?_) (fun c1 => ?_)
  · have h := h.1 c1
    refine lv_lconst (v := 0) hx hb dX4_wageShare_33 (by decide) ?_
    rw [← hQ]
    exact cRetL (v := 0) () hx hb hr hlocks hS hP hD h dX4_wageShare_34
  · have h := h.2 c1
    refine lv_aload_n hx hb dX4_wageShare_7 rfl (lv_at hl 0 rfl) ?_
    refine va_get (D := D) (ci := 4) (v := .ref (aR 7)) (C := RX4) (T := TX4) (N := 16) hx hb hw inW_X4 hown hK hP 0 rfl rfl 5 (by decide) (hw _ mw_2_1) (fun _ h9 => h9) rfl dX4_wageShare_8 ?_
    refine va_getN (D := D) (ci := 0) (v := .int (rs 13)) (C := RX0) (T := TX0) (N := 6) hx hb hw inW_X0 hown hK hP 7 rfl rfl 0 (by decide) hn60 (fun _ h9 => h9) rfl dX4_wageShare_11 ?_
    refine lv_if_le (tgt := 33) hx hb dX4_wageShare_14 (by decide) (fun c2 => ?_) (fun c2 => ?_)
    · have h := h.1 c2
      refine lv_lconst (v := 0) hx hb dX4_wageShare_33 (by decide) ?_
      rw [← hQ]
      exact cRetL (v := 0) () hx hb hr hlocks hS hP hD h dX4_wageShare_34
    · have h := h.2 c2
      refine lv_aload_n hx hb dX4_wageShare_17 rfl (lv_at hl 0 rfl) ?_
      refine cGoAL (cRunAV (As := []) (rest := []) ⟨hx, hb, hml, hown, hw⟩ hK hN hP hD (k_X4_wages l D C _ aR  rs ra  h) (cwV 0 hw (goodV mw_4_116 mw_4_118 mw_s62 mw_1_4 mw_4_119) rfl rfl rfl (by decide +kernel) ⟨Nat.le_of_ble_eq_true rfl, Nat.le_of_ble_eq_true rfl⟩) rfl rfl rfl hl.1 rfl (Nat.le_of_ble_eq_true rfl) dX4_wageShare_18 ⟨Nat.zero_le _, Nat.zero_le _⟩) hP hD hS hA (fun r3 u H locs h hP hD hS => ?_)
      have hP : va_P D vwCl (List.flatten (wRail aR C rs ra)) H := hP
      have hD : va_D A (List.flatten (wRail aR C rs ra)) := hD
      refine lv_aload_n hx hb dX4_wageShare_21 rfl (lv_at hl 0 rfl) ?_
      refine va_get (D := D) (ci := 4) (v := .ref (aR 7)) (C := RX4) (T := TX4) (N := 16) hx hb hw inW_X4 hown hK hP 0 rfl rfl 5 (by decide) (hw _ mw_2_1) (fun _ h9 => h9) rfl dX4_wageShare_22 ?_
      refine va_getN (D := D) (ci := 0) (v := .int (rs 13)) (C := RX0) (T := TX0) (N := 6) hx hb hw inW_X0 hown hK hP 7 rfl rfl 0 (by decide) hn60 (fun _ h9 => h9) rfl dX4_wageShare_25 ?_
      refine lv_i2l hx hb dX4_wageShare_28 rfl ?_
      refine lv_ldiv hx hb dX4_wageShare_29 h.1 ?_
      have h := h.2
      refine lv_goto (tgt := 34) hx hb dX4_wageShare_30 (by decide) ?_
      rw [← hQ]
      exact cRetL (v := (r3 / (rs 13).toInt64)) () hx hb hr hlocks hS hP hD h dX4_wageShare_34
abbrev vsX4_options : List Cond := Cond.code yX4_options cX4_options 1 (some .int) :: WS
abbrev rmX4_options : Room := { frames := 1, cells := 0, slots := 0, locals := 20 }
set_option maxHeartbeats 4000000 in
set_option maxRecDepth 100000 in
theorem k_X4_options (l : Launch) (D : va_G) (C : Nat → ClassId) (sz : Nat) (aR : Nat → Nat)  (rs : Nat → Int32) (ra : Nat → Nat → Int32)  {post : Int32 → Prop} (h : P_X4_options rs post) : Met l yX4_options vsX4_options rmX4_options (cPre D C [.ref (aR 0)] sz (wRail aR C rs ra)) (cQi D (fun (r : Int32) (u : Unit) => post r ) (fun u => wRail aR C rs ra) (va_A (List.flatten (wRail aR C rs ra)) sz)) 0 0 (va_A (List.flatten (wRail aR C rs ra)) sz) := by
  refine cStart (QA := fun A => cQi D (fun (r : Int32) (u : Unit) => post r ) (fun u => wRail aR C rs ra) A) (cc := cX4_options) (maxL := 1) (ret := (some .int)) (by decide) (Nat.le_of_ble_eq_true rfl) ?_
  intro p e s m args below meth c A ls hx hb hr hml hown hw hlocks hname hK hN hA hP hD hS hl
  generalize hQ : MQ below _ args s 0 0 A = Q
  have hl : lv_has ls 1 [(0, .ref (aR 0))] := hl
  have hn59 : (Cond.fieldLinkNest "LockRail$Rail" 59 "LockRail$Locks" "count" "I" "LockRail").before args s = true := hN.f 12 rfl
  obtain ⟨H, hH⟩ : ∃ H, H = s.heap := ⟨_, rfl⟩
  obtain ⟨locs, hlo⟩ : ∃ z : List Loc, z = [] := ⟨_, rfl⟩
  have hP : va_P D vwCl (List.flatten (wRail aR C rs ra)) H := by rw [hH]; exact hP
  have hS : va_S A s.heap H locs := by rw [hH, hlo]; exact hS
  rw [show W p l e rmX4_options s m args below meth c s.heap [] 0 0 Q (F0 m 0 ls []) = W p l e rmX4_options s m args below meth c H locs 0 0 Q (F0 m 0 ls []) from by rw [hH, hlo]]
  refine lv_aload_n hx hb dX4_options_0 rfl (lv_at hl 0 rfl) ?_
  refine cGoAI (cRunAV (As := []) (rest := []) ⟨hx, hb, hml, hown, hw⟩ hK hN hP hD (k_X4_isTold l D C _ aR  rs ra  h) (cwV 0 hw (goodV mw_4_145 mw_4_18 mw_s47 mw_1_4 mw_4_19) rfl rfl rfl (by decide +kernel) ⟨Nat.le_of_ble_eq_true rfl, Nat.le_of_ble_eq_true rfl⟩) rfl rfl rfl hl.1 rfl (Nat.le_of_ble_eq_true rfl) dX4_options_1 ⟨Nat.zero_le _, Nat.zero_le _⟩) hP hD hS hA (fun r1 u H locs h hP hD hS => ?_)
  have hP : va_P D vwCl (List.flatten (wRail aR C rs ra)) H := hP
  have hD : va_D A (List.flatten (wRail aR C rs ra)) := hD
  refine lv_if_eq (tgt := 21) hx hb dX4_options_4 (by decide) (fun c2 => ?_) (fun c2 => ?_)
  · have h := h.1 c2
    refine lv_iconst (v := 0) hx hb dX4_options_21 (by decide) ?_
    rw [← hQ]
    exact cRetI (v := 0) () hx hb hr hlocks hS hP hD h dX4_options_22
  · have h := h.2 c2
    refine lv_iconst (v := 2) hx hb dX4_options_7 (by decide) ?_
    refine lv_aload_n hx hb dX4_options_8 rfl (lv_at hl 0 rfl) ?_
    refine va_get (D := D) (ci := 4) (v := .ref (aR 4)) (C := RX4) (T := TX4) (N := 16) hx hb hw inW_X4 hown hK hP 0 rfl rfl 4 (by decide) (hw _ mw_1_238) (fun _ h9 => h9) rfl dX4_options_9 ?_
    refine va_getN (D := D) (ci := 2) (v := .int (rs 12)) (C := RX2) (T := TX2) (N := 3) hx hb hw inW_X2 hown hK hP 4 rfl rfl 0 (by decide) hn59 (fun _ h9 => h9) rfl dX4_options_12 ?_
    refine lv_iconst (v := 1) hx hb dX4_options_15 (by decide) ?_
    refine lv_iadd hx hb dX4_options_16 ?_
    refine lv_imul hx hb dX4_options_17 ?_
    refine lv_goto (tgt := 22) hx hb dX4_options_18 (by decide) ?_
    rw [← hQ]
    exact cRetI (v := (2 * ((rs 12) + 1))) () hx hb hr hlocks hS hP hD h dX4_options_22
abbrev vsX4_hasOption : List Cond := Cond.code yX4_hasOption cX4_hasOption 2 (some .boolean) :: WS
abbrev rmX4_hasOption : Room := { frames := 2, cells := 0, slots := 0, locals := 40 }
set_option maxHeartbeats 4000000 in
set_option maxRecDepth 100000 in
theorem k_X4_hasOption (l : Launch) (D : va_G) (C : Nat → ClassId) (sz : Nat) (aR : Nat → Nat)  (rs : Nat → Int32) (ra : Nat → Nat → Int32) (p1 : Int32) {post : Int32 → Prop} (h : P_X4_hasOption rs p1 post) : Met l yX4_hasOption vsX4_hasOption rmX4_hasOption (cPre D C [.ref (aR 0), .int p1] sz (wRail aR C rs ra)) (cQi D (fun (r : Int32) (u : Unit) => post r ) (fun u => wRail aR C rs ra) (va_A (List.flatten (wRail aR C rs ra)) sz)) 0 0 (va_A (List.flatten (wRail aR C rs ra)) sz) := by
  refine cStart (QA := fun A => cQi D (fun (r : Int32) (u : Unit) => post r ) (fun u => wRail aR C rs ra) A) (cc := cX4_hasOption) (maxL := 2) (ret := (some .boolean)) (by decide) (Nat.le_of_ble_eq_true rfl) ?_
  intro p e s m args below meth c A ls hx hb hr hml hown hw hlocks hname hK hN hA hP hD hS hl
  generalize hQ : MQ below _ args s 0 0 A = Q
  have hl : lv_has ls 2 [(0, .ref (aR 0)), (1, .int p1)] := hl
  obtain ⟨H, hH⟩ : ∃ H, H = s.heap := ⟨_, rfl⟩
  obtain ⟨locs, hlo⟩ : ∃ z : List Loc, z = [] := ⟨_, rfl⟩
  have hP : va_P D vwCl (List.flatten (wRail aR C rs ra)) H := by rw [hH]; exact hP
  have hS : va_S A s.heap H locs := by rw [hH, hlo]; exact hS
  rw [show W p l e rmX4_hasOption s m args below meth c s.heap [] 0 0 Q (F0 m 0 ls []) = W p l e rmX4_hasOption s m args below meth c H locs 0 0 Q (F0 m 0 ls []) from by rw [hH, hlo]]
  refine lv_iload_n hx hb dX4_hasOption_0 rfl (lv_at hl 1 rfl) ?_
  refine lv_if_lt (tgt := 16) hx hb dX4_hasOption_1 (by decide) (fun c1 => ?_) (fun c1 => ?_)
  · have h := h.1 c1
    refine lv_iconst (v := 0) hx hb dX4_hasOption_16 (by decide) ?_
    rw [← hQ]
    exact cRetZ (v := 0) () hx hb hr hlocks hS hP hD (Or.inl rfl) h dX4_hasOption_17
  · have h := h.2 c1
    refine lv_iload_n hx hb dX4_hasOption_4 rfl (lv_at hl 1 rfl) ?_
    refine lv_aload_n hx hb dX4_hasOption_5 rfl (lv_at hl 0 rfl) ?_
    refine cGoAI (cRunAV (As := []) (rest := [.int p1]) ⟨hx, hb, hml, hown, hw⟩ hK hN hP hD (k_X4_options l D C _ aR  rs ra  h) (cwV 0 hw (goodV mw_4_141 mw_4_143 mw_s66 mw_1_4 mw_4_144) rfl rfl rfl (by decide +kernel) ⟨Nat.le_of_ble_eq_true rfl, Nat.le_of_ble_eq_true rfl⟩) rfl rfl rfl hl.1 rfl (Nat.le_of_ble_eq_true rfl) dX4_hasOption_6 ⟨Nat.zero_le _, Nat.zero_le _⟩) hP hD hS hA (fun r2 u H locs h hP hD hS => ?_)
    have hP : va_P D vwCl (List.flatten (wRail aR C rs ra)) H := hP
    have hD : va_D A (List.flatten (wRail aR C rs ra)) := hD
    refine lv_icmp_ge (tgt := 16) hx hb dX4_hasOption_9 (by decide) (fun c3 => ?_) (fun c3 => ?_)
    · have h := h.1 c3
      refine lv_iconst (v := 0) hx hb dX4_hasOption_16 (by decide) ?_
      rw [← hQ]
      exact cRetZ (v := 0) () hx hb hr hlocks hS hP hD (Or.inl rfl) h dX4_hasOption_17
    · have h := h.2 c3
      refine lv_iconst (v := 1) hx hb dX4_hasOption_12 (by decide) ?_
      refine lv_goto (tgt := 17) hx hb dX4_hasOption_13 (by decide) ?_
      rw [← hQ]
      exact cRetZ (v := 1) () hx hb hr hlocks hS hP hD (Or.inr rfl) h dX4_hasOption_17
abbrev vsX4_hasLock : List Cond := Cond.code yX4_hasLock cX4_hasLock 2 (some .boolean) :: WS
abbrev rmX4_hasLock : Room := { frames := 0, cells := 0, slots := 0, locals := 0 }
set_option maxHeartbeats 4000000 in
set_option maxRecDepth 100000 in
theorem k_X4_hasLock (l : Launch) (D : va_G) (C : Nat → ClassId) (sz : Nat) (aR : Nat → Nat)  (rs : Nat → Int32) (ra : Nat → Nat → Int32) (p1 : Int32) {post : Int32 → Prop} (h : P_X4_hasLock rs p1 post) : Met l yX4_hasLock vsX4_hasLock rmX4_hasLock (cPre D C [.ref (aR 0), .int p1] sz (wRail aR C rs ra)) (cQi D (fun (r : Int32) (u : Unit) => post r ) (fun u => wRail aR C rs ra) (va_A (List.flatten (wRail aR C rs ra)) sz)) 0 0 (va_A (List.flatten (wRail aR C rs ra)) sz) := by
  refine cStart (QA := fun A => cQi D (fun (r : Int32) (u : Unit) => post r ) (fun u => wRail aR C rs ra) A) (cc := cX4_hasLock) (maxL := 2) (ret := (some .boolean)) (by decide) (Nat.le_of_ble_eq_true rfl) ?_
  intro p e s m args below meth c A ls hx hb hr hml hown hw hlocks hname hK hN hA hP hD hS hl
  generalize hQ : MQ below _ args s 0 0 A = Q
  have hl : lv_has ls 2 [(0, .ref (aR 0)), (1, .int p1)] := hl
  have hn59 : (Cond.fieldLinkNest "LockRail$Rail" 59 "LockRail$Locks" "count" "I" "LockRail").before args s = true := hN.f 12 rfl
  obtain ⟨H, hH⟩ : ∃ H, H = s.heap := ⟨_, rfl⟩
  obtain ⟨locs, hlo⟩ : ∃ z : List Loc, z = [] := ⟨_, rfl⟩
  have hP : va_P D vwCl (List.flatten (wRail aR C rs ra)) H := by rw [hH]; exact hP
  have hS : va_S A s.heap H locs := by rw [hH, hlo]; exact hS
  rw [show W p l e rmX4_hasLock s m args below meth c s.heap [] 0 0 Q (F0 m 0 ls []) = W p l e rmX4_hasLock s m args below meth c H locs 0 0 Q (F0 m 0 ls []) from by rw [hH, hlo]]
  refine lv_iload_n hx hb dX4_hasLock_0 rfl (lv_at hl 1 rfl) ?_
  refine lv_if_lt (tgt := 19) hx hb dX4_hasLock_1 (by decide) (fun c1 => ?_) (fun c1 => ?_)
  · have h := h.1 c1
    refine lv_iconst (v := 0) hx hb dX4_hasLock_19 (by decide) ?_
    rw [← hQ]
    exact cRetZ (v := 0) () hx hb hr hlocks hS hP hD (Or.inl rfl) h dX4_hasLock_20
  · have h := h.2 c1
    refine lv_iload_n hx hb dX4_hasLock_4 rfl (lv_at hl 1 rfl) ?_
    refine lv_aload_n hx hb dX4_hasLock_5 rfl (lv_at hl 0 rfl) ?_
    refine va_get (D := D) (ci := 4) (v := .ref (aR 4)) (C := RX4) (T := TX4) (N := 16) hx hb hw inW_X4 hown hK hP 0 rfl rfl 4 (by decide) (hw _ mw_1_238) (fun _ h9 => h9) rfl dX4_hasLock_6 ?_
    refine va_getN (D := D) (ci := 2) (v := .int (rs 12)) (C := RX2) (T := TX2) (N := 3) hx hb hw inW_X2 hown hK hP 4 rfl rfl 0 (by decide) hn59 (fun _ h9 => h9) rfl dX4_hasLock_9 ?_
    refine lv_icmp_ge (tgt := 19) hx hb dX4_hasLock_12 (by decide) (fun c2 => ?_) (fun c2 => ?_)
    · have h := h.1 c2
      refine lv_iconst (v := 0) hx hb dX4_hasLock_19 (by decide) ?_
      rw [← hQ]
      exact cRetZ (v := 0) () hx hb hr hlocks hS hP hD (Or.inl rfl) h dX4_hasLock_20
    · have h := h.2 c2
      refine lv_iconst (v := 1) hx hb dX4_hasLock_15 (by decide) ?_
      refine lv_goto (tgt := 20) hx hb dX4_hasLock_16 (by decide) ?_
      rw [← hQ]
      exact cRetZ (v := 1) () hx hb hr hlocks hS hP hD (Or.inr rfl) h dX4_hasLock_20
abbrev vsX6_isSlot : List Cond := Cond.code yX6_isSlot cX6_isSlot 2 (some .boolean) :: WS
abbrev rmX6_isSlot : Room := { frames := 0, cells := 0, slots := 0, locals := 0 }
set_option maxHeartbeats 4000000 in
set_option maxRecDepth 100000 in
theorem k_X6_isSlot (l : Launch) (D : va_G) (C : Nat → ClassId) (sz : Nat) (aS : Nat → Nat)  (sa : Nat → Nat → Int32) (sl : Nat → Nat → Int64) (p1 : Int32) {post : Int32 → Prop} (h : P_X6_isSlot p1 post) : Met l yX6_isSlot vsX6_isSlot rmX6_isSlot (cPre D C [.ref (aS 0), .int p1] sz (wSlots aS C sa sl)) (cQi D (fun (r : Int32) (u : Unit) => post r ) (fun u => wSlots aS C sa sl) (va_A (List.flatten (wSlots aS C sa sl)) sz)) 0 0 (va_A (List.flatten (wSlots aS C sa sl)) sz) := by
  refine cStart (QA := fun A => cQi D (fun (r : Int32) (u : Unit) => post r ) (fun u => wSlots aS C sa sl) A) (cc := cX6_isSlot) (maxL := 2) (ret := (some .boolean)) (by decide) (Nat.le_of_ble_eq_true rfl) ?_
  intro p e s m args below meth c A ls hx hb hr hml hown hw hlocks hname hK hN hA hP hD hS hl
  generalize hQ : MQ below _ args s 0 0 A = Q
  have hl : lv_has ls 2 [(0, .ref (aS 0)), (1, .int p1)] := hl
  obtain ⟨H, hH⟩ : ∃ H, H = s.heap := ⟨_, rfl⟩
  obtain ⟨locs, hlo⟩ : ∃ z : List Loc, z = [] := ⟨_, rfl⟩
  have hP : va_P D vwCl (List.flatten (wSlots aS C sa sl)) H := by rw [hH]; exact hP
  have hS : va_S A s.heap H locs := by rw [hH, hlo]; exact hS
  rw [show W p l e rmX6_isSlot s m args below meth c s.heap [] 0 0 Q (F0 m 0 ls []) = W p l e rmX6_isSlot s m args below meth c H locs 0 0 Q (F0 m 0 ls []) from by rw [hH, hlo]]
  refine lv_iload_n hx hb dX6_isSlot_0 rfl (lv_at hl 1 rfl) ?_
  refine lv_if_lt (tgt := 13) hx hb dX6_isSlot_1 (by decide) (fun c1 => ?_) (fun c1 => ?_)
  · have h := h.1 c1
    refine lv_iconst (v := 0) hx hb dX6_isSlot_13 (by decide) ?_
    rw [← hQ]
    exact cRetZ (v := 0) () hx hb hr hlocks hS hP hD (Or.inl rfl) h dX6_isSlot_14
  · have h := h.2 c1
    refine lv_iload_n hx hb dX6_isSlot_4 rfl (lv_at hl 1 rfl) ?_
    refine lv_iconst (v := 4) hx hb dX6_isSlot_5 (by decide) ?_
    refine lv_icmp_ge (tgt := 13) hx hb dX6_isSlot_6 (by decide) (fun c2 => ?_) (fun c2 => ?_)
    · have h := h.1 c2
      refine lv_iconst (v := 0) hx hb dX6_isSlot_13 (by decide) ?_
      rw [← hQ]
      exact cRetZ (v := 0) () hx hb hr hlocks hS hP hD (Or.inl rfl) h dX6_isSlot_14
    · have h := h.2 c2
      refine lv_iconst (v := 1) hx hb dX6_isSlot_9 (by decide) ?_
      refine lv_goto (tgt := 14) hx hb dX6_isSlot_10 (by decide) ?_
      rw [← hQ]
      exact cRetZ (v := 1) () hx hb hr hlocks hS hP hD (Or.inr rfl) h dX6_isSlot_14
abbrev vsX6_hasRow : List Cond := Cond.code yX6_hasRow cX6_hasRow 2 (some .boolean) :: WS
abbrev rmX6_hasRow : Room := { frames := 0, cells := 0, slots := 0, locals := 0 }
set_option maxHeartbeats 4000000 in
set_option maxRecDepth 100000 in
theorem k_X6_hasRow (l : Launch) (D : va_G) (C : Nat → ClassId) (sz : Nat) (aS : Nat → Nat)  (sa : Nat → Nat → Int32) (sl : Nat → Nat → Int64) (p1 : Int32) {post : Int32 → Prop} (h : P_X6_hasRow sa p1 post) : Met l yX6_hasRow vsX6_hasRow rmX6_hasRow (cPre D C [.ref (aS 0), .int p1] sz (wSlots aS C sa sl)) (cQi D (fun (r : Int32) (u : Unit) => post r ) (fun u => wSlots aS C sa sl) (va_A (List.flatten (wSlots aS C sa sl)) sz)) 0 0 (va_A (List.flatten (wSlots aS C sa sl)) sz) := by
  refine cStart (QA := fun A => cQi D (fun (r : Int32) (u : Unit) => post r ) (fun u => wSlots aS C sa sl) A) (cc := cX6_hasRow) (maxL := 2) (ret := (some .boolean)) (by decide) (Nat.le_of_ble_eq_true rfl) ?_
  intro p e s m args below meth c A ls hx hb hr hml hown hw hlocks hname hK hN hA hP hD hS hl
  generalize hQ : MQ below _ args s 0 0 A = Q
  have hl : lv_has ls 2 [(0, .ref (aS 0)), (1, .int p1)] := hl
  obtain ⟨H, hH⟩ : ∃ H, H = s.heap := ⟨_, rfl⟩
  obtain ⟨locs, hlo⟩ : ∃ z : List Loc, z = [] := ⟨_, rfl⟩
  have hP : va_P D vwCl (List.flatten (wSlots aS C sa sl)) H := by rw [hH]; exact hP
  have hS : va_S A s.heap H locs := by rw [hH, hlo]; exact hS
  rw [show W p l e rmX6_hasRow s m args below meth c s.heap [] 0 0 Q (F0 m 0 ls []) = W p l e rmX6_hasRow s m args below meth c H locs 0 0 Q (F0 m 0 ls []) from by rw [hH, hlo]]
  refine lv_aload_n hx hb dX6_hasRow_0 rfl (lv_at hl 0 rfl) ?_
  refine va_get (D := D) (ci := 6) (v := .ref (aS 3)) (C := RX6) (T := TX6) (N := 3) hx hb hw inW_X6 hown hK hP 0 rfl rfl 2 (by decide) (hw _ mw_2_70) (fun _ h9 => h9) rfl dX6_hasRow_1 ?_
  refine lv_iload_n hx hb dX6_hasRow_4 rfl (lv_at hl 1 rfl) ?_
  refine cIald hx hb hK hP 3 0 rfl rfl p1.toNatClampNeg rfl h.1 dX6_hasRow_5 ?_
  have h := h.2
  refine lv_if_le (tgt := 13) hx hb dX6_hasRow_6 (by decide) (fun c1 => ?_) (fun c1 => ?_)
  · have h := h.1 c1
    refine lv_iconst (v := 0) hx hb dX6_hasRow_13 (by decide) ?_
    rw [← hQ]
    exact cRetZ (v := 0) () hx hb hr hlocks hS hP hD (Or.inl rfl) h dX6_hasRow_14
  · have h := h.2 c1
    refine lv_iconst (v := 1) hx hb dX6_hasRow_9 (by decide) ?_
    refine lv_goto (tgt := 14) hx hb dX6_hasRow_10 (by decide) ?_
    rw [← hQ]
    exact cRetZ (v := 1) () hx hb hr hlocks hS hP hD (Or.inr rfl) h dX6_hasRow_14
abbrev vsX6_numberAt : List Cond := Cond.code yX6_numberAt cX6_numberAt 3 (some .long) :: WS
abbrev rmX6_numberAt : Room := { frames := 0, cells := 0, slots := 0, locals := 0 }
set_option maxHeartbeats 4000000 in
set_option maxRecDepth 100000 in
theorem k_X6_numberAt (l : Launch) (D : va_G) (C : Nat → ClassId) (sz : Nat) (aS : Nat → Nat)  (sa : Nat → Nat → Int32) (sl : Nat → Nat → Int64) (p1 : Int32) (p2 : Int32) {post : Int64 → Prop} (h : P_X6_numberAt sl p1 p2 post) : Met l yX6_numberAt vsX6_numberAt rmX6_numberAt (cPre D C [.ref (aS 0), .int p1, .int p2] sz (wSlots aS C sa sl)) (cQl D (fun (r : Int64) (u : Unit) => post r ) (fun u => wSlots aS C sa sl) (va_A (List.flatten (wSlots aS C sa sl)) sz)) 0 0 (va_A (List.flatten (wSlots aS C sa sl)) sz) := by
  refine cStart (QA := fun A => cQl D (fun (r : Int64) (u : Unit) => post r ) (fun u => wSlots aS C sa sl) A) (cc := cX6_numberAt) (maxL := 3) (ret := (some .long)) (by decide) (Nat.le_of_ble_eq_true rfl) ?_
  intro p e s m args below meth c A ls hx hb hr hml hown hw hlocks hname hK hN hA hP hD hS hl
  generalize hQ : MQ below _ args s 0 0 A = Q
  have hl : lv_has ls 3 [(0, .ref (aS 0)), (1, .int p1), (2, .int p2)] := hl
  obtain ⟨H, hH⟩ : ∃ H, H = s.heap := ⟨_, rfl⟩
  obtain ⟨locs, hlo⟩ : ∃ z : List Loc, z = [] := ⟨_, rfl⟩
  have hP : va_P D vwCl (List.flatten (wSlots aS C sa sl)) H := by rw [hH]; exact hP
  have hS : va_S A s.heap H locs := by rw [hH, hlo]; exact hS
  rw [show W p l e rmX6_numberAt s m args below meth c s.heap [] 0 0 Q (F0 m 0 ls []) = W p l e rmX6_numberAt s m args below meth c H locs 0 0 Q (F0 m 0 ls []) from by rw [hH, hlo]]
  refine lv_aload_n hx hb dX6_numberAt_0 rfl (lv_at hl 0 rfl) ?_
  refine va_get (D := D) (ci := 6) (v := .ref (aS 1)) (C := RX6) (T := TX6) (N := 3) hx hb hw inW_X6 hown hK hP 0 rfl rfl 0 (by decide) (hw _ mw_2_68) (fun _ h9 => h9) rfl dX6_numberAt_1 ?_
  refine lv_iload_n hx hb dX6_numberAt_4 rfl (lv_at hl 1 rfl) ?_
  refine lv_bipush (v := 60) hx hb dX6_numberAt_5 (by decide) ?_
  refine lv_imul hx hb dX6_numberAt_7 ?_
  refine lv_iload_n hx hb dX6_numberAt_8 rfl (lv_at hl 2 rfl) ?_
  refine lv_iadd hx hb dX6_numberAt_9 ?_
  refine cLald hx hb hK hP 1 1 rfl rfl (((p1 * 60) + p2).toNatClampNeg) rfl h.1 dX6_numberAt_10 ?_
  have h := h.2
  rw [← hQ]
  exact cRetL (v := (sl 0 (((p1 * 60) + p2).toNatClampNeg))) () hx hb hr hlocks hS hP hD h dX6_numberAt_11
abbrev vsX6_tellsNights : List Cond := Cond.code yX6_tellsNights cX6_tellsNights 5 (some .boolean) :: WS
abbrev rmX6_tellsNights : Room := { frames := 1, cells := 0, slots := 0, locals := 22 }
set_option maxHeartbeats 4000000 in
set_option maxRecDepth 100000 in
theorem k_X6_tellsNights (l : Launch) (D : va_G) (C : Nat → ClassId) (sz : Nat) (aS : Nat → Nat)  (sa : Nat → Nat → Int32) (sl : Nat → Nat → Int64) (p1 : Int32) (p2 : Int32) (p3 : Int32) {post : Int32 → Prop} (h : P_X6_tellsNights sa sl p1 p2 p3 post) : Met l yX6_tellsNights vsX6_tellsNights rmX6_tellsNights (cPre D C [.ref (aS 0), .int p1, .int p2, .int p3] sz (wSlots aS C sa sl)) (cQi D (fun (r : Int32) (u : Unit) => post r ) (fun u => wSlots aS C sa sl) (va_A (List.flatten (wSlots aS C sa sl)) sz)) 0 0 (va_A (List.flatten (wSlots aS C sa sl)) sz) := by
  refine cStart (QA := fun A => cQi D (fun (r : Int32) (u : Unit) => post r ) (fun u => wSlots aS C sa sl) A) (cc := cX6_tellsNights) (maxL := 5) (ret := (some .boolean)) (by decide) (Nat.le_of_ble_eq_true rfl) ?_
  intro p e s m args below meth c A ls hx hb hr hml hown hw hlocks hname hK hN hA hP hD hS hl
  generalize hQ : MQ below _ args s 0 0 A = Q
  have hl : lv_has ls 5 [(0, .ref (aS 0)), (1, .int p1), (2, .int p2), (3, .int p3)] := hl
  obtain ⟨H, hH⟩ : ∃ H, H = s.heap := ⟨_, rfl⟩
  obtain ⟨locs, hlo⟩ : ∃ z : List Loc, z = [] := ⟨_, rfl⟩
  have hP : va_P D vwCl (List.flatten (wSlots aS C sa sl)) H := by rw [hH]; exact hP
  have hS : va_S A s.heap H locs := by rw [hH, hlo]; exact hS
  rw [show W p l e rmX6_tellsNights s m args below meth c s.heap [] 0 0 Q (F0 m 0 ls []) = W p l e rmX6_tellsNights s m args below meth c H locs 0 0 Q (F0 m 0 ls []) from by rw [hH, hlo]]
  have N15 : ∀  (n15 : Nat) (x4_ : Int32) (H : Heap) (locs : List Loc) (ls : Array Slot), P_X6_tellsNights_15 sa sl p1 p2 p3 post   n15 x4_ → va_P D vwCl (List.flatten (wSlots aS C sa sl)) H → va_D A (List.flatten (wSlots aS C sa sl)) → va_S A s.heap H locs → lv_has ls 5 [(0, .ref (aS 0)), (1, .int p1), (3, .int p3), (4, .int x4_)] → W p l e rmX6_tellsNights s m args below meth c H locs 0 0 Q (F0 m 15 ls []) := by
    intro n15
    induction n15 with
    | zero => intro x4_ H locs ls h hP hD hS hl; exact False.elim h
    | succ n15 ih15 =>
      intro x4_ H locs ls h hP hD hS hl
      refine lv_iload hx hb dX6_tellsNights_15 (lv_at hl 3 rfl) ?_
      refine lv_aload_n hx hb dX6_tellsNights_17 rfl (lv_at hl 0 rfl) ?_
      refine va_get (D := D) (ci := 6) (v := .ref (aS 2)) (C := RX6) (T := TX6) (N := 3) hx hb hw inW_X6 hown hK hP 0 rfl rfl 1 (by decide) (hw _ mw_2_69) (fun _ h9 => h9) rfl dX6_tellsNights_18 ?_
      refine lv_iload_n hx hb dX6_tellsNights_21 rfl (lv_at hl 1 rfl) ?_
      refine cIald hx hb hK hP 2 0 rfl rfl p1.toNatClampNeg rfl h.1 dX6_tellsNights_22 ?_
      have h := h.2
      refine lv_icmp_ge (tgt := 48) hx hb dX6_tellsNights_23 (by decide) (fun c1 => ?_) (fun c1 => ?_)
      · have h := h.1 c1
        refine lv_iconst (v := 1) hx hb dX6_tellsNights_48 (by decide) ?_
        rw [← hQ]
        exact cRetZ (v := 1) () hx hb hr hlocks hS hP hD (Or.inr rfl) h dX6_tellsNights_49
      · have h := h.2 c1
        refine lv_aload_n hx hb dX6_tellsNights_26 rfl (lv_at hl 0 rfl) ?_
        refine lv_iload_n hx hb dX6_tellsNights_27 rfl (lv_at hl 1 rfl) ?_
        refine lv_iload hx hb dX6_tellsNights_28 (lv_at hl 3 rfl) ?_
        refine cGoAL (cRunAV (As := [.int p1, .int x4_]) (rest := []) ⟨hx, hb, hml, hown, hw⟩ hK hN hP hD (k_X6_numberAt l D C _ aS  sa sl p1 x4_ h) (cwV 2 hw (goodV mw_5_193 mw_5_195 mw_s99 mw_1_10 mw_5_196) rfl rfl rfl (by decide +kernel) ⟨Nat.le_of_ble_eq_true rfl, Nat.le_of_ble_eq_true rfl⟩) rfl rfl rfl hl.1 rfl (Nat.le_of_ble_eq_true rfl) dX6_tellsNights_30 ⟨Nat.zero_le _, Nat.zero_le _⟩) hP hD hS hA (fun r2 u H locs h hP hD hS => ?_)
        have hP : va_P D vwCl (List.flatten (wSlots aS C sa sl)) H := hP
        have hD : va_D A (List.flatten (wSlots aS C sa sl)) := hD
        refine lv_iload_n hx hb dX6_tellsNights_33 rfl (lv_at hl 2 rfl) ?_
        refine lv_lshr hx hb dX6_tellsNights_34 rfl ?_
        refine lv_lconst (v := 0) hx hb dX6_tellsNights_35 (by decide) ?_
        refine W.lcmp hx hb dX6_tellsNights_36 ?_
        refine lv_if_eq (tgt := 42) hx hb dX6_tellsNights_37 (by decide) (fun c3 => ?_) (fun c3 => ?_)
        · have c3 : (r2 >>> (p3.toInt64 &&& 63)) = 0 := (lg_cmp_eq _ _).mp c3
          have h := h.1 c3
          refine lv_iinc (v := (x4_ + 1)) (lv' := [(4, .int (x4_ + 1)), (0, .ref (aS 0)), (1, .int p1), (3, .int p3)]) hx hb dX6_tellsNights_42 hl (k := 3) rfl rfl (by decide) rfl (fun ls hl => ?_)
          refine lv_goto (tgt := 15) hx hb dX6_tellsNights_45 (by decide) ?_
          exact ih15 (x4_ + 1) _ _ _ h hP hD hS (lv_sub hl [1, 2, 3, 0] rfl)
        · have c3 : ¬ (r2 >>> (p3.toInt64 &&& 63)) = 0 := fun q => c3 ((lg_cmp_eq _ _).mpr q)
          have h := h.2 c3
          refine lv_iconst (v := 0) hx hb dX6_tellsNights_40 (by decide) ?_
          rw [← hQ]
          exact cRetZ (v := 0) () hx hb hr hlocks hS hP hD (Or.inl rfl) h dX6_tellsNights_41
  refine lv_aload_n hx hb dX6_tellsNights_0 rfl (lv_at hl 0 rfl) ?_
  refine va_get (D := D) (ci := 6) (v := .ref (aS 2)) (C := RX6) (T := TX6) (N := 3) hx hb hw inW_X6 hown hK hP 0 rfl rfl 1 (by decide) (hw _ mw_2_69) (fun _ h9 => h9) rfl dX6_tellsNights_1 ?_
  refine lv_iload_n hx hb dX6_tellsNights_4 rfl (lv_at hl 1 rfl) ?_
  refine cIald hx hb hK hP 2 0 rfl rfl p1.toNatClampNeg rfl h.1 dX6_tellsNights_5 ?_
  have h := h.2
  refine lv_iload_n hx hb dX6_tellsNights_6 rfl (lv_at hl 2 rfl) ?_
  refine lv_icmp_le (tgt := 12) hx hb dX6_tellsNights_7 (by decide) (fun c4 => ?_) (fun c4 => ?_)
  · have h := h.1 c4
    refine lv_iconst (v := 0) hx hb dX6_tellsNights_12 (by decide) ?_
    refine lv_istore (lv' := [(4, .int 0), (0, .ref (aS 0)), (1, .int p1), (2, .int p2), (3, .int p3)]) hx hb dX6_tellsNights_13 hl (by decide) rfl (fun ls hl => ?_)
    obtain ⟨n, h⟩ := h
    exact N15  n 0 _ _ _ h hP hD hS (lv_sub hl [1, 2, 4, 0] rfl)
  · have h := h.2 c4
    refine lv_iconst (v := 0) hx hb dX6_tellsNights_10 (by decide) ?_
    rw [← hQ]
    exact cRetZ (v := 0) () hx hb hr hlocks hS hP hD (Or.inl rfl) h dX6_tellsNights_11
abbrev vsX6_sizeOf : List Cond := Cond.code yX6_sizeOf cX6_sizeOf 2 (some .int) :: WS
abbrev rmX6_sizeOf : Room := { frames := 0, cells := 0, slots := 0, locals := 0 }
set_option maxHeartbeats 4000000 in
set_option maxRecDepth 100000 in
theorem k_X6_sizeOf (l : Launch) (D : va_G) (C : Nat → ClassId) (sz : Nat) (aS : Nat → Nat)  (sa : Nat → Nat → Int32) (sl : Nat → Nat → Int64) (p1 : Int32) {post : Int32 → Prop} (h : P_X6_sizeOf sa p1 post) : Met l yX6_sizeOf vsX6_sizeOf rmX6_sizeOf (cPre D C [.ref (aS 0), .int p1] sz (wSlots aS C sa sl)) (cQi D (fun (r : Int32) (u : Unit) => post r ) (fun u => wSlots aS C sa sl) (va_A (List.flatten (wSlots aS C sa sl)) sz)) 0 0 (va_A (List.flatten (wSlots aS C sa sl)) sz) := by
  refine cStart (QA := fun A => cQi D (fun (r : Int32) (u : Unit) => post r ) (fun u => wSlots aS C sa sl) A) (cc := cX6_sizeOf) (maxL := 2) (ret := (some .int)) (by decide) (Nat.le_of_ble_eq_true rfl) ?_
  intro p e s m args below meth c A ls hx hb hr hml hown hw hlocks hname hK hN hA hP hD hS hl
  generalize hQ : MQ below _ args s 0 0 A = Q
  have hl : lv_has ls 2 [(0, .ref (aS 0)), (1, .int p1)] := hl
  obtain ⟨H, hH⟩ : ∃ H, H = s.heap := ⟨_, rfl⟩
  obtain ⟨locs, hlo⟩ : ∃ z : List Loc, z = [] := ⟨_, rfl⟩
  have hP : va_P D vwCl (List.flatten (wSlots aS C sa sl)) H := by rw [hH]; exact hP
  have hS : va_S A s.heap H locs := by rw [hH, hlo]; exact hS
  rw [show W p l e rmX6_sizeOf s m args below meth c s.heap [] 0 0 Q (F0 m 0 ls []) = W p l e rmX6_sizeOf s m args below meth c H locs 0 0 Q (F0 m 0 ls []) from by rw [hH, hlo]]
  refine lv_aload_n hx hb dX6_sizeOf_0 rfl (lv_at hl 0 rfl) ?_
  refine va_get (D := D) (ci := 6) (v := .ref (aS 2)) (C := RX6) (T := TX6) (N := 3) hx hb hw inW_X6 hown hK hP 0 rfl rfl 1 (by decide) (hw _ mw_2_69) (fun _ h9 => h9) rfl dX6_sizeOf_1 ?_
  refine lv_iload_n hx hb dX6_sizeOf_4 rfl (lv_at hl 1 rfl) ?_
  refine cIald hx hb hK hP 2 0 rfl rfl p1.toNatClampNeg rfl h.1 dX6_sizeOf_5 ?_
  have h := h.2
  rw [← hQ]
  exact cRetI (v := (sa 0 p1.toNatClampNeg)) () hx hb hr hlocks hS hP hD h dX6_sizeOf_6
abbrev vsX4_worthTaken : List Cond := Cond.code yX4_worthTaken cX4_worthTaken 5 (some .long) :: WS
abbrev rmX4_worthTaken : Room := { frames := 0, cells := 0, slots := 0, locals := 0 }
set_option maxHeartbeats 4000000 in
set_option maxRecDepth 100000 in
theorem k_X4_worthTaken (l : Launch) (D : va_G) (C : Nat → ClassId) (sz : Nat) (aR : Nat → Nat) (e0 : Nat) (e1 : Nat) (e2 : Nat)  (rs : Nat → Int32) (ra : Nat → Nat → Int32) (e_isThere : Int32) (e_taken : Nat → Int32) (e_took : Nat → Int32)  {post : Int64 → Prop} (h : P_X4_worthTaken rs ra e_taken post) : Met l yX4_worthTaken vsX4_worthTaken rmX4_worthTaken (cPre D C [.ref (aR 0), .ref e0] sz (wRail aR C rs ra ++ ([cYear e0 e1 e2 C e_isThere e_taken e_took]))) (cQl D (fun (r : Int64) (u : Unit) => post r ) (fun u => wRail aR C rs ra ++ ([cYear e0 e1 e2 C e_isThere e_taken e_took])) (va_A (List.flatten (wRail aR C rs ra ++ ([cYear e0 e1 e2 C e_isThere e_taken e_took]))) sz)) 0 0 (va_A (List.flatten (wRail aR C rs ra ++ ([cYear e0 e1 e2 C e_isThere e_taken e_took]))) sz) := by
  refine cStart (QA := fun A => cQl D (fun (r : Int64) (u : Unit) => post r ) (fun u => wRail aR C rs ra ++ ([cYear e0 e1 e2 C e_isThere e_taken e_took])) A) (cc := cX4_worthTaken) (maxL := 5) (ret := (some .long)) (by decide) (Nat.le_of_ble_eq_true rfl) ?_
  intro p e s m args below meth c A ls hx hb hr hml hown hw hlocks hname hK hN hA hP hD hS hl
  generalize hQ : MQ below _ args s 0 0 A = Q
  have hl : lv_has ls 5 [(0, .ref (aR 0)), (1, .ref e0)] := hl
  have hn60 : (Cond.fieldLinkNest "LockRail$Rail" 60 "LockRail$Bikes" "count" "I" "LockRail").before args s = true := hN.f 17 rfl
  have hn159 : (Cond.fieldLinkNest "LockRail$Rail" 159 "LockRail$Year" "taken" "[I" "LockRail").before args s = true := hN.f 43 rfl
  have hn162 : (Cond.fieldLinkNest "LockRail$Rail" 162 "LockRail$Bikes" "worth" "[I" "LockRail").before args s = true := hN.f 22 rfl
  obtain ⟨H, hH⟩ : ∃ H, H = s.heap := ⟨_, rfl⟩
  obtain ⟨locs, hlo⟩ : ∃ z : List Loc, z = [] := ⟨_, rfl⟩
  have hP : va_P D vwCl (List.flatten (wRail aR C rs ra ++ ([cYear e0 e1 e2 C e_isThere e_taken e_took]))) H := by rw [hH]; exact hP
  have hS : va_S A s.heap H locs := by rw [hH, hlo]; exact hS
  rw [show W p l e rmX4_worthTaken s m args below meth c s.heap [] 0 0 Q (F0 m 0 ls []) = W p l e rmX4_worthTaken s m args below meth c H locs 0 0 Q (F0 m 0 ls []) from by rw [hH, hlo]]
  have N5 : ∀  (n5 : Nat) (x2_ : Int64) (x4_ : Int32) (H : Heap) (locs : List Loc) (ls : Array Slot), P_X4_worthTaken_5 rs ra e_taken post   n5 x2_ x4_ → va_P D vwCl (List.flatten (wRail aR C rs ra ++ ([cYear e0 e1 e2 C e_isThere e_taken e_took]))) H → va_D A (List.flatten (wRail aR C rs ra ++ ([cYear e0 e1 e2 C e_isThere e_taken e_took]))) → va_S A s.heap H locs → lv_has ls 5 [(0, .ref (aR 0)), (1, .ref e0), (2, .long x2_), (4, .int x4_)] → W p l e rmX4_worthTaken s m args below meth c H locs 0 0 Q (F0 m 5 ls []) := by
    intro n5
    induction n5 with
    | zero => intro x2_ x4_ H locs ls h hP hD hS hl; exact False.elim h
    | succ n5 ih5 =>
      intro x2_ x4_ H locs ls h hP hD hS hl
      refine lv_iload hx hb dX4_worthTaken_5 (lv_at hl 3 rfl) ?_
      refine lv_aload_n hx hb dX4_worthTaken_7 rfl (lv_at hl 0 rfl) ?_
      refine va_get (D := D) (ci := 4) (v := .ref (aR 7)) (C := RX4) (T := TX4) (N := 16) hx hb hw inW_X4 hown hK hP 0 rfl rfl 5 (by decide) (hw _ mw_2_1) (fun _ h9 => h9) rfl dX4_worthTaken_8 ?_
      refine va_getN (D := D) (ci := 0) (v := .int (rs 13)) (C := RX0) (T := TX0) (N := 6) hx hb hw inW_X0 hown hK hP 7 rfl rfl 0 (by decide) hn60 (fun _ h9 => h9) rfl dX4_worthTaken_11 ?_
      refine lv_icmp_ge (tgt := 46) hx hb dX4_worthTaken_14 (by decide) (fun c1 => ?_) (fun c1 => ?_)
      · have h := h.1 c1
        refine lv_lload_n hx hb dX4_worthTaken_46 rfl (lv_at hl 2 rfl) ?_
        rw [← hQ]
        exact cRetL (v := x2_) () hx hb hr hlocks hS hP hD h dX4_worthTaken_47
      · have h := h.2 c1
        refine lv_lload_n hx hb dX4_worthTaken_17 rfl (lv_at hl 2 rfl) ?_
        refine lv_aload_n hx hb dX4_worthTaken_18 rfl (lv_at hl 1 rfl) ?_
        refine va_getN (D := D) (ci := 10) (v := .ref e1) (C := RX10) (T := TX10) (N := 3) hx hb hw inW_X10 hown hK hP 22 rfl rfl 1 (by decide) hn159 (fun _ h9 => h9) rfl dX4_worthTaken_19 ?_
        refine lv_iload hx hb dX4_worthTaken_22 (lv_at hl 3 rfl) ?_
        refine cIald hx hb hK hP 23 0 rfl rfl x4_.toNatClampNeg rfl h.1 dX4_worthTaken_24 ?_
        have h := h.2
        refine lv_i2l hx hb dX4_worthTaken_25 rfl ?_
        refine lv_aload_n hx hb dX4_worthTaken_26 rfl (lv_at hl 0 rfl) ?_
        refine va_get (D := D) (ci := 4) (v := .ref (aR 7)) (C := RX4) (T := TX4) (N := 16) hx hb hw inW_X4 hown hK hP 0 rfl rfl 5 (by decide) (hw _ mw_2_1) (fun _ h9 => h9) rfl dX4_worthTaken_27 ?_
        refine va_getN (D := D) (ci := 0) (v := .ref (aR 8)) (C := RX0) (T := TX0) (N := 6) hx hb hw inW_X0 hown hK hP 7 rfl rfl 1 (by decide) hn162 (fun _ h9 => h9) rfl dX4_worthTaken_30 ?_
        refine lv_iload hx hb dX4_worthTaken_33 (lv_at hl 3 rfl) ?_
        refine cIald hx hb hK hP 8 0 rfl rfl x4_.toNatClampNeg rfl h.1 dX4_worthTaken_35 ?_
        have h := h.2
        refine lv_i2l hx hb dX4_worthTaken_36 rfl ?_
        refine lv_lmul hx hb dX4_worthTaken_37 ?_
        refine lv_ladd hx hb dX4_worthTaken_38 ?_
        refine lv_topl (fun x2 ex2 => ?_)
        have h := h x2 ex2
        refine lv_lstore_n (lv' := [(2, .long x2), (0, .ref (aR 0)), (1, .ref e0), (4, .int x4_)]) hx hb dX4_worthTaken_39 rfl hl (by decide) rfl (fun ls hl => ?_)
        refine lv_iinc (v := (x4_ + 1)) (lv' := [(4, .int (x4_ + 1)), (2, .long x2), (0, .ref (aR 0)), (1, .ref e0)]) hx hb dX4_worthTaken_40 hl (k := 3) rfl rfl (by decide) rfl (fun ls hl => ?_)
        refine lv_goto (tgt := 5) hx hb dX4_worthTaken_43 (by decide) ?_
        exact ih5 x2 (x4_ + 1) _ _ _ h hP hD hS (lv_sub hl [2, 3, 1, 0] rfl)
  refine lv_lconst (v := 0) hx hb dX4_worthTaken_0 (by decide) ?_
  refine lv_lstore_n (lv' := [(2, .long 0), (0, .ref (aR 0)), (1, .ref e0)]) hx hb dX4_worthTaken_1 rfl hl (by decide) rfl (fun ls hl => ?_)
  refine lv_iconst (v := 0) hx hb dX4_worthTaken_2 (by decide) ?_
  refine lv_istore (lv' := [(4, .int 0), (2, .long 0), (0, .ref (aR 0)), (1, .ref e0)]) hx hb dX4_worthTaken_3 hl (by decide) rfl (fun ls hl => ?_)
  obtain ⟨n, h⟩ := h
  exact N5  n 0 0 _ _ _ h hP hD hS (lv_sub hl [2, 3, 1, 0] rfl)
abbrev vsX6_rows : List Cond := Cond.code yX6_rows cX6_rows 3 (some .int) :: WS
abbrev rmX6_rows : Room := { frames := 1, cells := 0, slots := 0, locals := 21 }
set_option maxHeartbeats 4000000 in
set_option maxRecDepth 100000 in
theorem k_X6_rows (l : Launch) (D : va_G) (C : Nat → ClassId) (sz : Nat) (aS : Nat → Nat)  (sa : Nat → Nat → Int32) (sl : Nat → Nat → Int64)  {post : Int32 → Prop} (h : P_X6_rows sa post) : Met l yX6_rows vsX6_rows rmX6_rows (cPre D C [.ref (aS 0)] sz (wSlots aS C sa sl)) (cQi D (fun (r : Int32) (u : Unit) => post r ) (fun u => wSlots aS C sa sl) (va_A (List.flatten (wSlots aS C sa sl)) sz)) 0 0 (va_A (List.flatten (wSlots aS C sa sl)) sz) := by
  refine cStart (QA := fun A => cQi D (fun (r : Int32) (u : Unit) => post r ) (fun u => wSlots aS C sa sl) A) (cc := cX6_rows) (maxL := 3) (ret := (some .int)) (by decide) (Nat.le_of_ble_eq_true rfl) ?_
  intro p e s m args below meth c A ls hx hb hr hml hown hw hlocks hname hK hN hA hP hD hS hl
  generalize hQ : MQ below _ args s 0 0 A = Q
  have hl : lv_has ls 3 [(0, .ref (aS 0))] := hl
  obtain ⟨H, hH⟩ : ∃ H, H = s.heap := ⟨_, rfl⟩
  obtain ⟨locs, hlo⟩ : ∃ z : List Loc, z = [] := ⟨_, rfl⟩
  have hP : va_P D vwCl (List.flatten (wSlots aS C sa sl)) H := by rw [hH]; exact hP
  have hS : va_S A s.heap H locs := by rw [hH, hlo]; exact hS
  rw [show W p l e rmX6_rows s m args below meth c s.heap [] 0 0 Q (F0 m 0 ls []) = W p l e rmX6_rows s m args below meth c H locs 0 0 Q (F0 m 0 ls []) from by rw [hH, hlo]]
  have N4 : ∀  (n4 : Nat) (x1_ : Int32) (x2_ : Int32) (H : Heap) (locs : List Loc) (ls : Array Slot), P_X6_rows_4 sa post   n4 x1_ x2_ → va_P D vwCl (List.flatten (wSlots aS C sa sl)) H → va_D A (List.flatten (wSlots aS C sa sl)) → va_S A s.heap H locs → lv_has ls 3 [(0, .ref (aS 0)), (1, .int x1_), (2, .int x2_)] → W p l e rmX6_rows s m args below meth c H locs 0 0 Q (F0 m 4 ls []) := by
    intro n4
    induction n4 with
    | zero => intro x1_ x2_ H locs ls h hP hD hS hl; exact False.elim h
    | succ n4 ih4 =>
      intro x1_ x2_ H locs ls h hP hD hS hl
      refine lv_iload_n hx hb dX6_rows_4 rfl (lv_at hl 2 rfl) ?_
      refine lv_iconst (v := 4) hx hb dX6_rows_5 (by decide) ?_
      refine lv_icmp_ge (tgt := 26) hx hb dX6_rows_6 (by decide) (fun c1 => ?_) (fun c1 => ?_)
      · have h := h.1 c1
        refine lv_iload_n hx hb dX6_rows_26 rfl (lv_at hl 1 rfl) ?_
        rw [← hQ]
        exact cRetI (v := x1_) () hx hb hr hlocks hS hP hD h dX6_rows_27
      · have h := h.2 c1
        refine lv_aload_n hx hb dX6_rows_9 rfl (lv_at hl 0 rfl) ?_
        refine lv_iload_n hx hb dX6_rows_10 rfl (lv_at hl 2 rfl) ?_
        refine cGoAI (cRunAV (As := [.int x2_]) (rest := []) ⟨hx, hb, hml, hown, hw⟩ hK hN hP hD (k_X6_hasRow l D C _ aS  sa sl x2_ h) (cwV 1 hw (goodV mw_5_231 mw_5_187 mw_s97 mw_1_10 mw_5_188) rfl rfl rfl (by decide +kernel) ⟨Nat.le_of_ble_eq_true rfl, Nat.le_of_ble_eq_true rfl⟩) rfl rfl rfl hl.1 rfl (Nat.le_of_ble_eq_true rfl) dX6_rows_11 ⟨Nat.zero_le _, Nat.zero_le _⟩) hP hD hS hA (fun r2 u H locs h hP hD hS => ?_)
        have hP : va_P D vwCl (List.flatten (wSlots aS C sa sl)) H := hP
        have hD : va_D A (List.flatten (wSlots aS C sa sl)) := hD
        refine lv_if_eq (tgt := 20) hx hb dX6_rows_14 (by decide) (fun c3 => ?_) (fun c3 => ?_)
        · have h := h.1 c3
          refine lv_iinc (v := (x2_ + 1)) (lv' := [(2, .int (x2_ + 1)), (0, .ref (aS 0)), (1, .int x1_)]) hx hb dX6_rows_20 hl (k := 2) rfl rfl (by decide) rfl (fun ls hl => ?_)
          refine lv_goto (tgt := 4) hx hb dX6_rows_23 (by decide) ?_
          exact ih4 x1_ (x2_ + 1) _ _ _ h hP hD hS (lv_sub hl [1, 2, 0] rfl)
        · have h := h.2 c3
          refine lv_iinc (v := (x1_ + 1)) (lv' := [(1, .int (x1_ + 1)), (0, .ref (aS 0)), (2, .int x2_)]) hx hb dX6_rows_17 hl (k := 1) rfl rfl (by decide) rfl (fun ls hl => ?_)
          refine lv_iinc (v := (x2_ + 1)) (lv' := [(2, .int (x2_ + 1)), (1, .int (x1_ + 1)), (0, .ref (aS 0))]) hx hb dX6_rows_20 hl (k := 2) rfl rfl (by decide) rfl (fun ls hl => ?_)
          refine lv_goto (tgt := 4) hx hb dX6_rows_23 (by decide) ?_
          exact ih4 (x1_ + 1) (x2_ + 1) _ _ _ h hP hD hS (lv_sub hl [2, 1, 0] rfl)
  refine lv_iconst (v := 0) hx hb dX6_rows_0 (by decide) ?_
  refine lv_istore_n (lv' := [(1, .int 0), (0, .ref (aS 0))]) hx hb dX6_rows_1 rfl hl (by decide) rfl (fun ls hl => ?_)
  refine lv_iconst (v := 0) hx hb dX6_rows_2 (by decide) ?_
  refine lv_istore_n (lv' := [(2, .int 0), (1, .int 0), (0, .ref (aS 0))]) hx hb dX6_rows_3 rfl hl (by decide) rfl (fun ls hl => ?_)
  obtain ⟨n, h⟩ := h
  exact N4  n 0 0 _ _ _ h hP hD hS (lv_sub hl [2, 1, 0] rfl)
abbrev vsX6_make : List Cond := Cond.code yX6_make cX6_make 5 none :: WS
abbrev rmX6_make : Room := { frames := 0, cells := 0, slots := 0, locals := 0 }
set_option maxHeartbeats 4000000 in
set_option maxRecDepth 100000 in
theorem k_X6_make (l : Launch) (D : va_G) (C : Nat → ClassId) (sz : Nat) (aS : Nat → Nat)  (sa : Nat → Nat → Int32) (sl : Nat → Nat → Int64) (p1 : Int32) (p2 : Int32) (p3 : Int32) {post : (Nat → Nat → Int32) → (Nat → Nat → Int64) → Prop} (h : P_X6_make sa sl p1 p2 p3 post) : Met l yX6_make vsX6_make rmX6_make (cPre D C [.ref (aS 0), .int p1, .int p2, .int p3] sz (wSlots aS C sa sl)) (cQv D (fun (u : (Nat → Nat → Int32) × (Nat → Nat → Int64)) => post u.1 u.2) (fun u => wSlots aS C u.1 u.2) (va_A (List.flatten (wSlots aS C sa sl)) sz)) 0 0 (va_A (List.flatten (wSlots aS C sa sl)) sz) := by
  refine cStart (QA := fun A => cQv D (fun (u : (Nat → Nat → Int32) × (Nat → Nat → Int64)) => post u.1 u.2) (fun u => wSlots aS C u.1 u.2) A) (cc := cX6_make) (maxL := 5) (ret := none) (by decide) (Nat.le_of_ble_eq_true rfl) ?_
  intro p e s m args below meth c A ls hx hb hr hml hown hw hlocks hname hK hN hA hP hD hS hl
  generalize hQ : MQ below _ args s 0 0 A = Q
  have hl : lv_has ls 5 [(0, .ref (aS 0)), (1, .int p1), (2, .int p2), (3, .int p3)] := hl
  obtain ⟨H, hH⟩ : ∃ H, H = s.heap := ⟨_, rfl⟩
  obtain ⟨locs, hlo⟩ : ∃ z : List Loc, z = [] := ⟨_, rfl⟩
  have hP : va_P D vwCl (List.flatten (wSlots aS C sa sl)) H := by rw [hH]; exact hP
  have hS : va_S A s.heap H locs := by rw [hH, hlo]; exact hS
  rw [show W p l e rmX6_make s m args below meth c s.heap [] 0 0 Q (F0 m 0 ls []) = W p l e rmX6_make s m args below meth c H locs 0 0 Q (F0 m 0 ls []) from by rw [hH, hlo]]
  have N19 : ∀ (sa : Nat → Nat → Int32) (n19 : Nat) (x4_ : Int32) (sl : Nat → Nat → Int64) (H : Heap) (locs : List Loc) (ls : Array Slot), P_X6_make_19 p1 p2 p3 post  sa n19 x4_ sl → va_P D vwCl (List.flatten (wSlots aS C sa sl)) H → va_D A (List.flatten (wSlots aS C sa sl)) → va_S A s.heap H locs → lv_has ls 5 [(0, .ref (aS 0)), (1, .int p1), (3, .int p3), (4, .int x4_)] → W p l e rmX6_make s m args below meth c H locs 0 0 Q (F0 m 19 ls []) := by
    intro sa
    intro n19
    induction n19 with
    | zero => intro x4_ sl H locs ls h hP hD hS hl; exact False.elim h
    | succ n19 ih19 =>
      intro x4_ sl H locs ls h hP hD hS hl
      refine lv_iload hx hb dX6_make_19 (lv_at hl 3 rfl) ?_
      refine lv_iload_n hx hb dX6_make_21 rfl (lv_at hl 2 rfl) ?_
      refine lv_icmp_ge (tgt := 44) hx hb dX6_make_22 (by decide) (fun c1 => ?_) (fun c1 => ?_)
      · have h := h.1 c1
        rw [← hQ]
        exact cRetV (sa, sl) hx hb hr hlocks hS hP hD h dX6_make_44
      · have h := h.2 c1
        refine lv_aload_n hx hb dX6_make_25 rfl (lv_at hl 0 rfl) ?_
        refine va_get (D := D) (ci := 6) (v := .ref (aS 1)) (C := RX6) (T := TX6) (N := 3) hx hb hw inW_X6 hown hK hP 0 rfl rfl 0 (by decide) (hw _ mw_2_68) (fun _ h9 => h9) rfl dX6_make_26 ?_
        refine lv_iload_n hx hb dX6_make_29 rfl (lv_at hl 1 rfl) ?_
        refine lv_bipush (v := 60) hx hb dX6_make_30 (by decide) ?_
        refine lv_imul hx hb dX6_make_32 ?_
        refine lv_iload hx hb dX6_make_33 (lv_at hl 3 rfl) ?_
        refine lv_iadd hx hb dX6_make_35 ?_
        refine lv_lconst (v := 0) hx hb dX6_make_36 (by decide) ?_
        refine cLast hx hb hK hP hD hS 1 1 rfl rfl (((p1 * 60) + x4_).toNatClampNeg) rfl h.1 dX6_make_37 (fun H locs hP hD hS => ?_)
        have h := h.2
        refine lv_iinc (v := (x4_ + 1)) (lv' := [(4, .int (x4_ + 1)), (0, .ref (aS 0)), (1, .int p1), (3, .int p3)]) hx hb dX6_make_38 hl (k := 3) rfl rfl (by decide) rfl (fun ls hl => ?_)
        refine lv_goto (tgt := 19) hx hb dX6_make_41 (by decide) ?_
        have hP : va_P D vwCl (List.flatten (wSlots aS C sa (va_up sl 0 (vp_updL (sl 0) (((p1 * 60) + x4_).toNatClampNeg) 0)))) H := hP
        have hD : va_D A (List.flatten (wSlots aS C sa (va_up sl 0 (vp_updL (sl 0) (((p1 * 60) + x4_).toNatClampNeg) 0)))) := hD
        exact ih19 (x4_ + 1) (va_up sl 0 (vp_updL (sl 0) (((p1 * 60) + x4_).toNatClampNeg) 0)) _ _ _ h hP hD hS (lv_sub hl [1, 2, 3, 0] rfl)
  refine lv_aload_n hx hb dX6_make_0 rfl (lv_at hl 0 rfl) ?_
  refine va_get (D := D) (ci := 6) (v := .ref (aS 3)) (C := RX6) (T := TX6) (N := 3) hx hb hw inW_X6 hown hK hP 0 rfl rfl 2 (by decide) (hw _ mw_2_70) (fun _ h9 => h9) rfl dX6_make_1 ?_
  refine lv_iload_n hx hb dX6_make_4 rfl (lv_at hl 1 rfl) ?_
  refine lv_iload_n hx hb dX6_make_5 rfl (lv_at hl 2 rfl) ?_
  refine lv_iconst (v := 1) hx hb dX6_make_6 (by decide) ?_
  refine lv_iadd hx hb dX6_make_7 ?_
  refine cIast hx hb hK hP hD hS 3 0 rfl rfl p1.toNatClampNeg rfl h.1 dX6_make_8 (fun H locs hP hD hS => ?_)
  have h := h.2
  refine lv_aload_n hx hb dX6_make_9 rfl (lv_at hl 0 rfl) ?_
  refine va_get (D := D) (ci := 6) (v := .ref (aS 2)) (C := RX6) (T := TX6) (N := 3) hx hb hw inW_X6 hown hK hP 0 rfl rfl 1 (by decide) (hw _ mw_2_69) (fun _ h9 => h9) rfl dX6_make_10 ?_
  refine lv_iload_n hx hb dX6_make_13 rfl (lv_at hl 1 rfl) ?_
  refine lv_iload_n hx hb dX6_make_14 rfl (lv_at hl 3 rfl) ?_
  refine cIast hx hb hK hP hD hS 2 0 rfl rfl p1.toNatClampNeg rfl h.1 dX6_make_15 (fun H locs hP hD hS => ?_)
  have h := h.2
  refine lv_iconst (v := 0) hx hb dX6_make_16 (by decide) ?_
  refine lv_istore (lv' := [(4, .int 0), (0, .ref (aS 0)), (1, .int p1), (2, .int p2), (3, .int p3)]) hx hb dX6_make_17 hl (by decide) rfl (fun ls hl => ?_)
  have hP : va_P D vwCl (List.flatten (wSlots aS C (va_up (va_up sa 0 (upd (sa 0) p1.toNatClampNeg p3)) 1 (upd (sa 1) p1.toNatClampNeg (p2 + 1))) sl)) H := hP
  have hD : va_D A (List.flatten (wSlots aS C (va_up (va_up sa 0 (upd (sa 0) p1.toNatClampNeg p3)) 1 (upd (sa 1) p1.toNatClampNeg (p2 + 1))) sl)) := hD
  obtain ⟨n, h⟩ := h
  exact N19 (va_up (va_up sa 0 (upd (sa 0) p1.toNatClampNeg p3)) 1 (upd (sa 1) p1.toNatClampNeg (p2 + 1))) n 0 sl _ _ _ h hP hD hS (lv_sub hl [1, 2, 4, 0] rfl)
abbrev vsX6_cut : List Cond := Cond.code yX6_cut cX6_cut 3 (some .long) :: WS
abbrev rmX6_cut : Room := { frames := 0, cells := 0, slots := 0, locals := 0 }
set_option maxHeartbeats 4000000 in
set_option maxRecDepth 100000 in
theorem k_X6_cut (l : Launch) (D : va_G) (C : Nat → ClassId) (sz : Nat)    (p1 : Int64) (p2 : Int32) {post : Int64 → Prop} (h : P_X6_cut p1 p2 post) : Met l yX6_cut vsX6_cut rmX6_cut (cPre D C [.long p1, .int p2] sz (([] : List va_W))) (cQl D (fun (r : Int64) (u : Unit) => post r ) (fun u => ([] : List va_W)) (va_A (List.flatten (([] : List va_W))) sz)) 0 0 (va_A (List.flatten (([] : List va_W))) sz) := by
  refine cStart (QA := fun A => cQl D (fun (r : Int64) (u : Unit) => post r ) (fun u => ([] : List va_W)) A) (cc := cX6_cut) (maxL := 3) (ret := (some .long)) (by decide) (Nat.le_of_ble_eq_true rfl) ?_
  intro p e s m args below meth c A ls hx hb hr hml hown hw hlocks hname hK hN hA hP hD hS hl
  generalize hQ : MQ below _ args s 0 0 A = Q
  have hl : lv_has ls 3 [(0, .long p1), (2, .int p2)] := hl
  obtain ⟨H, hH⟩ : ∃ H, H = s.heap := ⟨_, rfl⟩
  obtain ⟨locs, hlo⟩ : ∃ z : List Loc, z = [] := ⟨_, rfl⟩
  have hP : va_P D vwCl (List.flatten (([] : List va_W))) H := by rw [hH]; exact hP
  have hS : va_S A s.heap H locs := by rw [hH, hlo]; exact hS
  rw [show W p l e rmX6_cut s m args below meth c s.heap [] 0 0 Q (F0 m 0 ls []) = W p l e rmX6_cut s m args below meth c H locs 0 0 Q (F0 m 0 ls []) from by rw [hH, hlo]]
  refine lv_iload_n hx hb dX6_cut_0 rfl (lv_at hl 1 rfl) ?_
  by_cases c1_0 : p2 = 0
  · refine lv_tableIn (tgt := 28) hx hb dX6_cut_1 (by rw [c1_0] <;> decide) (by rw [c1_0] <;> decide) (by rw [c1_0] <;> rfl) (by decide) ?_
    have h := h.1 c1_0
    refine lv_lload_n hx hb dX6_cut_28 rfl (lv_at hl 0 rfl) ?_
    refine lv_l2i hx hb dX6_cut_29 rfl ?_
    refine lv_i2b hx hb dX6_cut_30 rfl ?_
    refine lv_i2l hx hb dX6_cut_31 rfl ?_
    rw [← hQ]
    exact cRetL (v := p1.toInt32.toInt8.toInt32.toInt64) () hx hb hr hlocks hS hP hD h dX6_cut_32
  by_cases c1_1 : p2 = 1
  · refine lv_tableIn (tgt := 33) hx hb dX6_cut_1 (by rw [c1_1] <;> decide) (by rw [c1_1] <;> decide) (by rw [c1_1] <;> rfl) (by decide) ?_
    have h := h.2.1 c1_1
    refine lv_lload_n hx hb dX6_cut_33 rfl (lv_at hl 0 rfl) ?_
    refine lv_l2i hx hb dX6_cut_34 rfl ?_
    refine lv_i2s hx hb dX6_cut_35 rfl ?_
    refine lv_i2l hx hb dX6_cut_36 rfl ?_
    rw [← hQ]
    exact cRetL (v := p1.toInt32.toInt16.toInt32.toInt64) () hx hb hr hlocks hS hP hD h dX6_cut_37
  by_cases c1_2 : p2 = 2
  · refine lv_tableIn (tgt := 38) hx hb dX6_cut_1 (by rw [c1_2] <;> decide) (by rw [c1_2] <;> decide) (by rw [c1_2] <;> rfl) (by decide) ?_
    have h := h.2.2.1 c1_2
    refine lv_lload_n hx hb dX6_cut_38 rfl (lv_at hl 0 rfl) ?_
    refine lv_l2i hx hb dX6_cut_39 rfl ?_
    refine lv_i2l hx hb dX6_cut_40 rfl ?_
    rw [← hQ]
    exact cRetL (v := p1.toInt32.toInt64) () hx hb hr hlocks hS hP hD h dX6_cut_41
  refine lv_tableOut (tgt := 42) hx hb dX6_cut_1 (sw_out3 c1_0 c1_1 c1_2) (by decide) ?_
  have h := h.2.2.2 c1_0 c1_1 c1_2
  refine lv_lload_n hx hb dX6_cut_42 rfl (lv_at hl 0 rfl) ?_
  rw [← hQ]
  exact cRetL (v := p1) () hx hb hr hlocks hS hP hD h dX6_cut_43
abbrev vsX6_put : List Cond := Cond.code yX6_put cX6_put 5 none :: WS
abbrev rmX6_put : Room := { frames := 1, cells := 0, slots := 0, locals := 22 }
set_option maxHeartbeats 4000000 in
set_option maxRecDepth 100000 in
theorem k_X6_put (l : Launch) (D : va_G) (C : Nat → ClassId) (sz : Nat) (aS : Nat → Nat)  (sa : Nat → Nat → Int32) (sl : Nat → Nat → Int64) (p1 : Int32) (p2 : Int32) (p3 : Int64) {post : (Nat → Nat → Int64) → Prop} (h : P_X6_put sa sl p1 p2 p3 post) : Met l yX6_put vsX6_put rmX6_put (cPre D C [.ref (aS 0), .int p1, .int p2, .long p3] sz (wSlots aS C sa sl)) (cQv D (fun (u : (Nat → Nat → Int64)) => post u) (fun u => wSlots aS C sa u) (va_A (List.flatten (wSlots aS C sa sl)) sz)) 0 0 (va_A (List.flatten (wSlots aS C sa sl)) sz) := by
  refine cStart (QA := fun A => cQv D (fun (u : (Nat → Nat → Int64)) => post u) (fun u => wSlots aS C sa u) A) (cc := cX6_put) (maxL := 5) (ret := none) (by decide) (Nat.le_of_ble_eq_true rfl) ?_
  intro p e s m args below meth c A ls hx hb hr hml hown hw hlocks hname hK hN hA hP hD hS hl
  generalize hQ : MQ below _ args s 0 0 A = Q
  have hl : lv_has ls 5 [(0, .ref (aS 0)), (1, .int p1), (2, .int p2), (3, .long p3)] := hl
  obtain ⟨H, hH⟩ : ∃ H, H = s.heap := ⟨_, rfl⟩
  obtain ⟨locs, hlo⟩ : ∃ z : List Loc, z = [] := ⟨_, rfl⟩
  have hP : va_P D vwCl (List.flatten (wSlots aS C sa sl)) H := by rw [hH]; exact hP
  have hS : va_S A s.heap H locs := by rw [hH, hlo]; exact hS
  rw [show W p l e rmX6_put s m args below meth c s.heap [] 0 0 Q (F0 m 0 ls []) = W p l e rmX6_put s m args below meth c H locs 0 0 Q (F0 m 0 ls []) from by rw [hH, hlo]]
  refine lv_aload_n hx hb dX6_put_0 rfl (lv_at hl 0 rfl) ?_
  refine va_get (D := D) (ci := 6) (v := .ref (aS 1)) (C := RX6) (T := TX6) (N := 3) hx hb hw inW_X6 hown hK hP 0 rfl rfl 0 (by decide) (hw _ mw_2_68) (fun _ h9 => h9) rfl dX6_put_1 ?_
  refine lv_iload_n hx hb dX6_put_4 rfl (lv_at hl 1 rfl) ?_
  refine lv_bipush (v := 60) hx hb dX6_put_5 (by decide) ?_
  refine lv_imul hx hb dX6_put_7 ?_
  refine lv_iload_n hx hb dX6_put_8 rfl (lv_at hl 2 rfl) ?_
  refine lv_iadd hx hb dX6_put_9 ?_
  refine lv_lload_n hx hb dX6_put_10 rfl (lv_at hl 3 rfl) ?_
  refine lv_aload_n hx hb dX6_put_11 rfl (lv_at hl 0 rfl) ?_
  refine va_get (D := D) (ci := 6) (v := .ref (aS 3)) (C := RX6) (T := TX6) (N := 3) hx hb hw inW_X6 hown hK hP 0 rfl rfl 2 (by decide) (hw _ mw_2_70) (fun _ h9 => h9) rfl dX6_put_12 ?_
  refine lv_iload_n hx hb dX6_put_15 rfl (lv_at hl 1 rfl) ?_
  refine cIald hx hb hK hP 3 0 rfl rfl p1.toNatClampNeg rfl h.1 dX6_put_16 ?_
  have h := h.2
  refine lv_iconst (v := 1) hx hb dX6_put_17 (by decide) ?_
  refine lv_isub hx hb dX6_put_18 ?_
  refine cGoEL (cRunES (As := [.long p3, .int ((sa 1 p1.toNatClampNeg) - 1)]) (rest := [.int ((p1 * 60) + p2), .ref (aS 1)]) ⟨hx, hb, hml, hown, hw⟩ hK hN hP hD (k_X6_cut l D C _    p3 ((sa 1 p1.toNatClampNeg) - 1) h) (va_cwS 2 hw (goodS mw_6_16 mw_6_17 mw_1_10 mw_6_18) rfl rfl rfl (by decide +kernel) ⟨Nat.le_of_ble_eq_true rfl, Nat.le_of_ble_eq_true rfl⟩) rfl hl.1 rfl (Nat.le_of_ble_eq_true rfl) dX6_put_19 ⟨Nat.zero_le _, Nat.zero_le _⟩) hP hD hS hA (fun r1 u H locs h hP hD hS => ?_)
  have hP : va_P D vwCl (List.flatten (wSlots aS C sa sl)) H := hP
  have hD : va_D A (List.flatten (wSlots aS C sa sl)) := hD
  refine cLast hx hb hK hP hD hS 1 1 rfl rfl (((p1 * 60) + p2).toNatClampNeg) rfl h.1 dX6_put_22 (fun H locs hP hD hS => ?_)
  have h := h.2
  have hP : va_P D vwCl (List.flatten (wSlots aS C sa (va_up sl 0 (vp_updL (sl 0) (((p1 * 60) + p2).toNatClampNeg) r1)))) H := hP
  have hD : va_D A (List.flatten (wSlots aS C sa (va_up sl 0 (vp_updL (sl 0) (((p1 * 60) + p2).toNatClampNeg) r1)))) := hD
  rw [← hQ]
  exact cRetV ((va_up sl 0 (vp_updL (sl 0) (((p1 * 60) + p2).toNatClampNeg) r1))) hx hb hr hlocks hS hP hD h dX6_put_23
abbrev vsX6_areAlike : List Cond := Cond.code yX6_areAlike cX6_areAlike 3 (some .boolean) :: WS
abbrev rmX6_areAlike : Room := { frames := 0, cells := 0, slots := 0, locals := 0 }
set_option maxHeartbeats 4000000 in
set_option maxRecDepth 100000 in
theorem k_X6_areAlike (l : Launch) (D : va_G) (C : Nat → ClassId) (sz : Nat) (aS : Nat → Nat)  (sa : Nat → Nat → Int32) (sl : Nat → Nat → Int64) (p1 : Int32) (p2 : Int32) {post : Int32 → Prop} (h : P_X6_areAlike sa p1 p2 post) : Met l yX6_areAlike vsX6_areAlike rmX6_areAlike (cPre D C [.ref (aS 0), .int p1, .int p2] sz (wSlots aS C sa sl)) (cQi D (fun (r : Int32) (u : Unit) => post r ) (fun u => wSlots aS C sa sl) (va_A (List.flatten (wSlots aS C sa sl)) sz)) 0 0 (va_A (List.flatten (wSlots aS C sa sl)) sz) := by
  refine cStart (QA := fun A => cQi D (fun (r : Int32) (u : Unit) => post r ) (fun u => wSlots aS C sa sl) A) (cc := cX6_areAlike) (maxL := 3) (ret := (some .boolean)) (by decide) (Nat.le_of_ble_eq_true rfl) ?_
  intro p e s m args below meth c A ls hx hb hr hml hown hw hlocks hname hK hN hA hP hD hS hl
  generalize hQ : MQ below _ args s 0 0 A = Q
  have hl : lv_has ls 3 [(0, .ref (aS 0)), (1, .int p1), (2, .int p2)] := hl
  obtain ⟨H, hH⟩ : ∃ H, H = s.heap := ⟨_, rfl⟩
  obtain ⟨locs, hlo⟩ : ∃ z : List Loc, z = [] := ⟨_, rfl⟩
  have hP : va_P D vwCl (List.flatten (wSlots aS C sa sl)) H := by rw [hH]; exact hP
  have hS : va_S A s.heap H locs := by rw [hH, hlo]; exact hS
  rw [show W p l e rmX6_areAlike s m args below meth c s.heap [] 0 0 Q (F0 m 0 ls []) = W p l e rmX6_areAlike s m args below meth c H locs 0 0 Q (F0 m 0 ls []) from by rw [hH, hlo]]
  refine lv_aload_n hx hb dX6_areAlike_0 rfl (lv_at hl 0 rfl) ?_
  refine va_get (D := D) (ci := 6) (v := .ref (aS 3)) (C := RX6) (T := TX6) (N := 3) hx hb hw inW_X6 hown hK hP 0 rfl rfl 2 (by decide) (hw _ mw_2_70) (fun _ h9 => h9) rfl dX6_areAlike_1 ?_
  refine lv_iload_n hx hb dX6_areAlike_4 rfl (lv_at hl 1 rfl) ?_
  refine cIald hx hb hK hP 3 0 rfl rfl p1.toNatClampNeg rfl h.1 dX6_areAlike_5 ?_
  have h := h.2
  refine lv_aload_n hx hb dX6_areAlike_6 rfl (lv_at hl 0 rfl) ?_
  refine va_get (D := D) (ci := 6) (v := .ref (aS 3)) (C := RX6) (T := TX6) (N := 3) hx hb hw inW_X6 hown hK hP 0 rfl rfl 2 (by decide) (hw _ mw_2_70) (fun _ h9 => h9) rfl dX6_areAlike_7 ?_
  refine lv_iload_n hx hb dX6_areAlike_10 rfl (lv_at hl 2 rfl) ?_
  refine cIald hx hb hK hP 3 0 rfl rfl p2.toNatClampNeg rfl h.1 dX6_areAlike_11 ?_
  have h := h.2
  refine lv_icmp_ne (tgt := 19) hx hb dX6_areAlike_12 (by decide) (fun c1 => ?_) (fun c1 => ?_)
  · have h := h.1 c1
    refine lv_iconst (v := 0) hx hb dX6_areAlike_19 (by decide) ?_
    rw [← hQ]
    exact cRetZ (v := 0) () hx hb hr hlocks hS hP hD (Or.inl rfl) h dX6_areAlike_20
  · have h := h.2 c1
    refine lv_iconst (v := 1) hx hb dX6_areAlike_15 (by decide) ?_
    refine lv_goto (tgt := 20) hx hb dX6_areAlike_16 (by decide) ?_
    rw [← hQ]
    exact cRetZ (v := 1) () hx hb hr hlocks hS hP hD (Or.inr rfl) h dX6_areAlike_20
abbrev vsX6_hasAll : List Cond := Cond.code yX6_hasAll cX6_hasAll 4 (some .boolean) :: WS
abbrev rmX6_hasAll : Room := { frames := 0, cells := 0, slots := 0, locals := 0 }
set_option maxHeartbeats 4000000 in
set_option maxRecDepth 100000 in
theorem k_X6_hasAll (l : Launch) (D : va_G) (C : Nat → ClassId) (sz : Nat) (aS : Nat → Nat)  (sa : Nat → Nat → Int32) (sl : Nat → Nat → Int64) (p1 : Int32) (p2 : Int32) (p3 : Int32) {post : Int32 → Prop} (h : P_X6_hasAll sa p1 p2 p3 post) : Met l yX6_hasAll vsX6_hasAll rmX6_hasAll (cPre D C [.ref (aS 0), .int p1, .int p2, .int p3] sz (wSlots aS C sa sl)) (cQi D (fun (r : Int32) (u : Unit) => post r ) (fun u => wSlots aS C sa sl) (va_A (List.flatten (wSlots aS C sa sl)) sz)) 0 0 (va_A (List.flatten (wSlots aS C sa sl)) sz) := by
  refine cStart (QA := fun A => cQi D (fun (r : Int32) (u : Unit) => post r ) (fun u => wSlots aS C sa sl) A) (cc := cX6_hasAll) (maxL := 4) (ret := (some .boolean)) (by decide) (Nat.le_of_ble_eq_true rfl) ?_
  intro p e s m args below meth c A ls hx hb hr hml hown hw hlocks hname hK hN hA hP hD hS hl
  generalize hQ : MQ below _ args s 0 0 A = Q
  have hl : lv_has ls 4 [(0, .ref (aS 0)), (1, .int p1), (2, .int p2), (3, .int p3)] := hl
  obtain ⟨H, hH⟩ : ∃ H, H = s.heap := ⟨_, rfl⟩
  obtain ⟨locs, hlo⟩ : ∃ z : List Loc, z = [] := ⟨_, rfl⟩
  have hP : va_P D vwCl (List.flatten (wSlots aS C sa sl)) H := by rw [hH]; exact hP
  have hS : va_S A s.heap H locs := by rw [hH, hlo]; exact hS
  rw [show W p l e rmX6_hasAll s m args below meth c s.heap [] 0 0 Q (F0 m 0 ls []) = W p l e rmX6_hasAll s m args below meth c H locs 0 0 Q (F0 m 0 ls []) from by rw [hH, hlo]]
  refine lv_iload_n hx hb dX6_hasAll_0 rfl (lv_at hl 2 rfl) ?_
  refine lv_if_lt (tgt := 28) hx hb dX6_hasAll_1 (by decide) (fun c1 => ?_) (fun c1 => ?_)
  · have h := h.1 c1
    refine lv_iconst (v := 0) hx hb dX6_hasAll_28 (by decide) ?_
    rw [← hQ]
    exact cRetZ (v := 0) () hx hb hr hlocks hS hP hD (Or.inl rfl) h dX6_hasAll_29
  · have h := h.2 c1
    refine lv_iload_n hx hb dX6_hasAll_4 rfl (lv_at hl 3 rfl) ?_
    refine lv_if_lt (tgt := 28) hx hb dX6_hasAll_5 (by decide) (fun c2 => ?_) (fun c2 => ?_)
    · have h := h.1 c2
      refine lv_iconst (v := 0) hx hb dX6_hasAll_28 (by decide) ?_
      rw [← hQ]
      exact cRetZ (v := 0) () hx hb hr hlocks hS hP hD (Or.inl rfl) h dX6_hasAll_29
    · have h := h.2 c2
      refine lv_iload_n hx hb dX6_hasAll_8 rfl (lv_at hl 2 rfl) ?_
      refine lv_i2l hx hb dX6_hasAll_9 rfl ?_
      refine lv_iload_n hx hb dX6_hasAll_10 rfl (lv_at hl 3 rfl) ?_
      refine lv_i2l hx hb dX6_hasAll_11 rfl ?_
      refine lv_ladd hx hb dX6_hasAll_12 ?_
      refine lv_aload_n hx hb dX6_hasAll_13 rfl (lv_at hl 0 rfl) ?_
      refine va_get (D := D) (ci := 6) (v := .ref (aS 2)) (C := RX6) (T := TX6) (N := 3) hx hb hw inW_X6 hown hK hP 0 rfl rfl 1 (by decide) (hw _ mw_2_69) (fun _ h9 => h9) rfl dX6_hasAll_14 ?_
      refine lv_iload_n hx hb dX6_hasAll_17 rfl (lv_at hl 1 rfl) ?_
      refine cIald hx hb hK hP 2 0 rfl rfl p1.toNatClampNeg rfl h.1 dX6_hasAll_18 ?_
      have h := h.2
      refine lv_i2l hx hb dX6_hasAll_19 rfl ?_
      refine W.lcmp hx hb dX6_hasAll_20 ?_
      refine lv_if_gt (tgt := 28) hx hb dX6_hasAll_21 (by decide) (fun c3 => ?_) (fun c3 => ?_)
      · have c3 : ((sa 0 p1.toNatClampNeg).toInt64) < (p2.toInt64 + p3.toInt64) := (lg_cmp_gt _ _).mp c3
        have h := h.1 c3
        refine lv_iconst (v := 0) hx hb dX6_hasAll_28 (by decide) ?_
        rw [← hQ]
        exact cRetZ (v := 0) () hx hb hr hlocks hS hP hD (Or.inl rfl) h dX6_hasAll_29
      · have c3 : ¬ ((sa 0 p1.toNatClampNeg).toInt64) < (p2.toInt64 + p3.toInt64) := fun q => c3 ((lg_cmp_gt _ _).mpr q)
        have h := h.2 c3
        refine lv_iconst (v := 1) hx hb dX6_hasAll_24 (by decide) ?_
        refine lv_goto (tgt := 29) hx hb dX6_hasAll_25 (by decide) ?_
        rw [← hQ]
        exact cRetZ (v := 1) () hx hb hr hlocks hS hP hD (Or.inr rfl) h dX6_hasAll_29
abbrev vsX6_copy : List Cond := Cond.code yX6_copy cX6_copy 6 none :: WS
abbrev rmX6_copy : Room := { frames := 1, cells := 0, slots := 0, locals := 40 }
set_option maxHeartbeats 4000000 in
set_option maxRecDepth 100000 in
theorem k_X6_copy (l : Launch) (D : va_G) (C : Nat → ClassId) (sz : Nat) (aS : Nat → Nat)  (sa : Nat → Nat → Int32) (sl : Nat → Nat → Int64) (p1 : Int32) (p2 : Int32) (p3 : Int32) (p4 : Int32) (p5 : Int32) {post : (Nat → Nat → Int64) → Prop} (h : P_X6_copy sl p1 p2 p3 p4 p5 post) : Met l yX6_copy vsX6_copy rmX6_copy (cPre D C [.ref (aS 0), .int p1, .int p2, .int p3, .int p4, .int p5] sz (wSlots aS C sa sl)) (cQv D (fun (u : (Nat → Nat → Int64)) => post u) (fun u => wSlots aS C sa u) (va_A (List.flatten (wSlots aS C sa sl)) sz)) 0 0 (va_A (List.flatten (wSlots aS C sa sl)) sz) := by
  refine cStart (QA := fun A => cQv D (fun (u : (Nat → Nat → Int64)) => post u) (fun u => wSlots aS C sa u) A) (cc := cX6_copy) (maxL := 6) (ret := none) (by decide) (Nat.le_of_ble_eq_true rfl) ?_
  intro p e s m args below meth c A ls hx hb hr hml hown hw hlocks hname hK hN hA hP hD hS hl
  generalize hQ : MQ below _ args s 0 0 A = Q
  have hl : lv_has ls 6 [(0, .ref (aS 0)), (1, .int p1), (2, .int p2), (3, .int p3), (4, .int p4), (5, .int p5)] := hl
  obtain ⟨H, hH⟩ : ∃ H, H = s.heap := ⟨_, rfl⟩
  obtain ⟨locs, hlo⟩ : ∃ z : List Loc, z = [] := ⟨_, rfl⟩
  have hP : va_P D vwCl (List.flatten (wSlots aS C sa sl)) H := by rw [hH]; exact hP
  have hS : va_S A s.heap H locs := by rw [hH, hlo]; exact hS
  rw [show W p l e rmX6_copy s m args below meth c s.heap [] 0 0 Q (F0 m 0 ls []) = W p l e rmX6_copy s m args below meth c H locs 0 0 Q (F0 m 0 ls []) from by rw [hH, hlo]]
  refine lv_aload_n hx hb dX6_copy_0 rfl (lv_at hl 0 rfl) ?_
  refine va_get (D := D) (ci := 6) (v := .ref (aS 1)) (C := RX6) (T := TX6) (N := 3) hx hb hw inW_X6 hown hK hP 0 rfl rfl 0 (by decide) (hw _ mw_2_68) (fun _ h9 => h9) rfl dX6_copy_1 ?_
  refine lv_iload_n hx hb dX6_copy_4 rfl (lv_at hl 1 rfl) ?_
  refine lv_bipush (v := 60) hx hb dX6_copy_5 (by decide) ?_
  refine lv_imul hx hb dX6_copy_7 ?_
  refine lv_iload_n hx hb dX6_copy_8 rfl (lv_at hl 2 rfl) ?_
  refine lv_iadd hx hb dX6_copy_9 ?_
  refine lv_aload_n hx hb dX6_copy_10 rfl (lv_at hl 0 rfl) ?_
  refine va_get (D := D) (ci := 6) (v := .ref (aS 1)) (C := RX6) (T := TX6) (N := 3) hx hb hw inW_X6 hown hK hP 0 rfl rfl 0 (by decide) (hw _ mw_2_68) (fun _ h9 => h9) rfl dX6_copy_11 ?_
  refine lv_iload_n hx hb dX6_copy_14 rfl (lv_at hl 3 rfl) ?_
  refine lv_bipush (v := 60) hx hb dX6_copy_15 (by decide) ?_
  refine lv_imul hx hb dX6_copy_17 ?_
  refine lv_iload hx hb dX6_copy_18 (lv_at hl 4 rfl) ?_
  refine lv_iadd hx hb dX6_copy_20 ?_
  refine lv_iload hx hb dX6_copy_21 (lv_at hl 5 rfl) ?_
  refine cCopyL hx hb (hml.trans hl.1.symm) hown (hw _ mw_6_35) (hw _ mw_3_133) (hw _ mw_3_132) (hw _ mw_1_19) hK hP hD hS 1 1 1 rfl rfl rfl _ _ _ rfl rfl rfl h.1.1 h.1.2.1 h.1.2.2.1 h.1.2.2.2.1 h.1.2.2.2.2 (Nat.le_of_ble_eq_true rfl) (Nat.le_of_ble_eq_true rfl) dX6_copy_23 (fun H locs hP hD hS => ?_)
  have h := h.2
  have hP : va_P D vwCl (List.flatten (wSlots aS C sa (va_up sl 0 (va_cpy (sl 0) (sl 0) ((p1 * 60) + p2).toNatClampNeg ((p3 * 60) + p4).toNatClampNeg p5.toNatClampNeg)))) H := hP
  have hD : va_D A (List.flatten (wSlots aS C sa (va_up sl 0 (va_cpy (sl 0) (sl 0) ((p1 * 60) + p2).toNatClampNeg ((p3 * 60) + p4).toNatClampNeg p5.toNatClampNeg)))) := hD
  rw [← hQ]
  exact cRetV ((va_up sl 0 (va_cpy (sl 0) (sl 0) ((p1 * 60) + p2).toNatClampNeg ((p3 * 60) + p4).toNatClampNeg p5.toNatClampNeg))) hx hb hr hlocks hS hP hD h dX6_copy_26
