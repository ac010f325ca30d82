abbrev vsX12_lampLine : List Cond := Cond.code yX12_lampLine cX12_lampLine 2 none :: WS
abbrev rmX12_lampLine : Room := { frames := 5, cells := 0, slots := 0, locals := 112 }
set_option maxHeartbeats 4000000 in
set_option maxRecDepth 100000 in
theorem k_X12_lampLine (l : Launch) (D : va_G) (C : Nat → ClassId) (sz : Nat) (aM : Nat → Nat)  (ms : Nat → Int32) (mw : Nat → Int64) (ma : Nat → Nat → Int32) (ml : Nat → Nat → Int64)  {post : (Nat → Int32) → (Nat → Int64) → (Nat → Nat → Int32) → Prop} (h : P_X12_lampLine ms mw ma post) : Met l yX12_lampLine vsX12_lampLine rmX12_lampLine (cPre D C [.ref (aM 0)] sz (wM aM C ms mw ma ml)) (cQv D (fun (u : (Nat → Int32) × (Nat → Int64) × (Nat → Nat → Int32)) => post u.1 u.2.1 u.2.2) (fun u => wM aM C u.1 u.2.1 u.2.2 ml) (va_A (List.flatten (wM aM C ms mw ma ml)) sz)) 0 0 (va_A (List.flatten (wM aM C ms mw ma ml)) sz) := by
  refine cStart (QA := fun A => cQv D (fun (u : (Nat → Int32) × (Nat → Int64) × (Nat → Nat → Int32)) => post u.1 u.2.1 u.2.2) (fun u => wM aM C u.1 u.2.1 u.2.2 ml) A) (cc := cX12_lampLine) (maxL := 2) (ret := none) (by decide) (Nat.le_of_ble_eq_true rfl) ?_
  intro p e s m args below meth c A ls hx hb hr hml hown hw hlocks hname hK hN hA hP hD hS hl
  generalize hQ : MQ below _ args s 0 0 A = Q
  have hl : lv_has ls 2 [(0, .ref (aM 0))] := hl
  obtain ⟨H, hH⟩ : ∃ H, H = s.heap := ⟨_, rfl⟩
  obtain ⟨locs, hlo⟩ : ∃ z : List Loc, z = [] := ⟨_, rfl⟩
  have hP : va_P D vwCl (List.flatten (wM aM C ms mw ma ml)) H := by rw [hH]; exact hP
  have hS : va_S A s.heap H locs := by rw [hH, hlo]; exact hS
  rw [show W p l e rmX12_lampLine s m args below meth c s.heap [] 0 0 Q (F0 m 0 ls []) = W p l e rmX12_lampLine s m args below meth c H locs 0 0 Q (F0 m 0 ls []) from by rw [hH, hlo]]
  unfold P_X12_lampLine at h
  refine lv_iconst (v := 2) hx hb dX12_lampLine_0 (by decide) ?_
  refine lv_bipush (v := 16) hx hb dX12_lampLine_1 (by decide) ?_
  refine lv_aload_n hx hb dX12_lampLine_3 rfl (lv_at hl 0 rfl) ?_
  refine va_get (D := D) (ci := 12) (v := .ref (aM 9)) (C := RX12) (T := TX12) (N := 51) hx hb hw inW_X12 hown hK hP 0 rfl rfl 19 (by decide) (hw _ mw_6_62) (fun _ h9 => h9) rfl dX12_lampLine_4 ?_
  refine lv_iconst (v := 4) hx hb dX12_lampLine_7 (by decide) ?_
  refine cIald hx hb hK hP 9 0 rfl rfl 4 (by decide +kernel) (cIn (by decide +kernel)) dX12_lampLine_8 ?_
  refine lv_iadd hx hb dX12_lampLine_9 ?_
  refine lv_imul hx hb dX12_lampLine_10 ?_
  refine lv_topi (fun x1 ex1 => ?_)
  have h := h x1 ex1
  refine lv_istore_n (lv' := [(1, .int x1), (0, .ref (aM 0))]) hx hb dX12_lampLine_11 rfl hl (by decide) rfl (fun ls hl => ?_)
  refine lv_aload_n hx hb dX12_lampLine_12 rfl (lv_at hl 1 rfl) ?_
  refine va_get (D := D) (ci := 12) (v := .ref (aM 10)) (C := RX12) (T := TX12) (N := 51) hx hb hw inW_X12 hown hK hP 0 rfl rfl 20 (by decide) (hw _ mw_6_63) (fun _ h9 => h9) rfl dX12_lampLine_13 ?_
  refine lv_iload_n hx hb dX12_lampLine_16 rfl (lv_at hl 0 rfl) ?_
  refine lv_aload_n hx hb dX12_lampLine_17 rfl (lv_at hl 1 rfl) ?_
  refine lv_ldc2 (v := 47) hx hb hown (hw _ mw_7_82) dX12_lampLine_18 ?_
  refine lv_iconst (v := 0) hx hb dX12_lampLine_21 (by decide) ?_
  refine lv_aload_n hx hb dX12_lampLine_22 rfl (lv_at hl 1 rfl) ?_
  refine va_get (D := D) (ci := 12) (v := .ref (aM 7)) (C := RX12) (T := TX12) (N := 51) hx hb hw inW_X12 hown hK hP 0 rfl rfl 17 (by decide) (hw _ mw_6_60) (fun _ h9 => h9) rfl dX12_lampLine_23 ?_
  refine lv_iconst (v := 4) hx hb dX12_lampLine_26 (by decide) ?_
  refine cIald hx hb hK hP 7 0 rfl rfl 4 (by decide +kernel) (cIn (by decide +kernel)) dX12_lampLine_27 ?_
  refine lv_iconst (v := 1) hx hb dX12_lampLine_28 (by decide) ?_
  refine lv_isub hx hb dX12_lampLine_29 ?_
  refine cGoAI (cRunAV (As := [.long 47, .int 0, .int ((ma 4 4) - 1)]) (rest := [.int x1, .ref (aM 10)]) ⟨hx, hb, hml, hown, hw⟩ hK hN hP hD (k_X12_number_ l D C _ aM  ms mw ma ml 47 0 ((ma 4 4) - 1) h) (cwV 3 hw (goodV mw_7_46 mw_7_48 mw_s119 mw_1_13 mw_7_49) rfl rfl rfl (by decide +kernel) ⟨Nat.le_of_ble_eq_true rfl, Nat.le_of_ble_eq_true rfl⟩) rfl rfl rfl hl.1 rfl (Nat.le_of_ble_eq_true rfl) dX12_lampLine_30 ⟨Nat.zero_le _, Nat.zero_le _⟩) hP hD hS hA (fun r4 u H locs h hP hD hS => ?_)
  obtain ⟨ms_2, mw_3⟩ := u
  have hP : va_P D vwCl (List.flatten (wM aM C ms_2 mw_3 ma ml)) H := hP
  have hD : va_D A (List.flatten (wM aM C ms_2 mw_3 ma ml)) := hD
  try dsimp only at h
  obtain ⟨kk_5, hkk_5⟩ : ∃ z : Nat, x1.toNatClampNeg = z := ⟨_, rfl⟩
  rw [hkk_5] at h
  refine cIast hx hb hK hP hD hS 10 0 rfl rfl kk_5 hkk_5 h.1 dX12_lampLine_33 (fun H locs hP hD hS => ?_)
  have h := h.2
  refine lv_aload_n hx hb dX12_lampLine_34 rfl (lv_at hl 1 rfl) ?_
  refine va_get (D := D) (ci := 12) (v := .ref (aM 10)) (C := RX12) (T := TX12) (N := 51) hx hb hw inW_X12 hown hK hP 0 rfl rfl 20 (by decide) (hw _ mw_6_63) (fun _ h9 => h9) rfl dX12_lampLine_35 ?_
  refine lv_iload_n hx hb dX12_lampLine_38 rfl (lv_at hl 0 rfl) ?_
  refine lv_iconst (v := 1) hx hb dX12_lampLine_39 (by decide) ?_
  refine lv_iadd hx hb dX12_lampLine_40 ?_
  refine lv_aload_n hx hb dX12_lampLine_41 rfl (lv_at hl 1 rfl) ?_
  refine lv_ldc2 (v := 38446238) hx hb hown (hw _ mw_7_83) dX12_lampLine_42 ?_
  refine lv_iconst (v := 0) hx hb dX12_lampLine_45 (by decide) ?_
  refine lv_bipush (v := 99) hx hb dX12_lampLine_46 (by decide) ?_
  have hP : va_P D vwCl (List.flatten (wM aM C ms_2 mw_3 (va_up ma 7 (upd (ma 7) kk_5 r4)) ml)) H := hP
  have hD : va_D A (List.flatten (wM aM C ms_2 mw_3 (va_up ma 7 (upd (ma 7) kk_5 r4)) ml)) := hD
  refine cGoAI (cRunAV (As := [.long 38446238, .int 0, .int 99]) (rest := [.int (x1 + 1), .ref (aM 10)]) ⟨hx, hb, hml, hown, hw⟩ hK hN hP hD (k_X12_number_ l D C _ aM  ms_2 mw_3 (va_up ma 7 (upd (ma 7) kk_5 r4)) ml 38446238 0 99 h) (cwV 3 hw (goodV mw_7_46 mw_7_48 mw_s119 mw_1_13 mw_7_49) rfl rfl rfl (by decide +kernel) ⟨Nat.le_of_ble_eq_true rfl, Nat.le_of_ble_eq_true rfl⟩) rfl rfl rfl hl.1 rfl (Nat.le_of_ble_eq_true rfl) dX12_lampLine_48 ⟨Nat.zero_le _, Nat.zero_le _⟩) hP hD hS hA (fun r8 u H locs h hP hD hS => ?_)
  obtain ⟨ms_6, mw_7⟩ := u
  have hP : va_P D vwCl (List.flatten (wM aM C ms_6 mw_7 (va_up ma 7 (upd (ma 7) kk_5 r4)) ml)) H := hP
  have hD : va_D A (List.flatten (wM aM C ms_6 mw_7 (va_up ma 7 (upd (ma 7) kk_5 r4)) ml)) := hD
  try dsimp only at h
  obtain ⟨kk_9, hkk_9⟩ : ∃ z : Nat, (x1 + 1).toNatClampNeg = z := ⟨_, rfl⟩
  rw [hkk_9] at h
  refine cIast hx hb hK hP hD hS 10 0 rfl rfl kk_9 hkk_9 h.1 dX12_lampLine_51 (fun H locs hP hD hS => ?_)
  have h := h.2
  refine lv_aload_n hx hb dX12_lampLine_52 rfl (lv_at hl 1 rfl) ?_
  refine va_get (D := D) (ci := 12) (v := .ref (aM 9)) (C := RX12) (T := TX12) (N := 51) hx hb hw inW_X12 hown hK hP 0 rfl rfl 19 (by decide) (hw _ mw_6_62) (fun _ h9 => h9) rfl dX12_lampLine_53 ?_
  refine lv_iconst (v := 4) hx hb dX12_lampLine_56 (by decide) ?_
  refine lv_dup2_11 hx hb dX12_lampLine_57 rfl rfl ?_
  refine cIald hx hb hK hP 9 0 rfl rfl 4 (by decide +kernel) (cIn (by decide +kernel)) dX12_lampLine_58 ?_
  refine lv_iconst (v := 1) hx hb dX12_lampLine_59 (by decide) ?_
  refine lv_iadd hx hb dX12_lampLine_60 ?_
  refine cIast hx hb hK hP hD hS 9 0 rfl rfl 4 (by decide +kernel) (cIn (by decide +kernel)) dX12_lampLine_61 (fun H locs hP hD hS => ?_)
  have hP : va_P D vwCl (List.flatten (wM aM C ms_6 mw_7 (va_up (va_up ma 6 (upd (ma 6) 4 ((ma 6 4) + 1))) 7 (upd (upd (ma 7) kk_5 r4) kk_9 r8)) ml)) H := hP
  have hD : va_D A (List.flatten (wM aM C ms_6 mw_7 (va_up (va_up ma 6 (upd (ma 6) 4 ((ma 6 4) + 1))) 7 (upd (upd (ma 7) kk_5 r4) kk_9 r8)) ml)) := hD
  rw [← hQ]
  exact cRetV (ms_6, mw_7, (va_up (va_up ma 6 (upd (ma 6) 4 ((ma 6 4) + 1))) 7 (upd (upd (ma 7) kk_5 r4) kk_9 r8))) hx hb hr hlocks hS hP hD h dX12_lampLine_62
abbrev vsX12_lockLine : List Cond := Cond.code yX12_lockLine cX12_lockLine 2 none :: WS
abbrev rmX12_lockLine : Room := { frames := 5, cells := 0, slots := 0, locals := 112 }
set_option maxHeartbeats 4000000 in
set_option maxRecDepth 100000 in
theorem k_X12_lockLine (l : Launch) (D : va_G) (C : Nat → ClassId) (sz : Nat) (aM : Nat → Nat)  (ms : Nat → Int32) (mw : Nat → Int64) (ma : Nat → Nat → Int32) (ml : Nat → Nat → Int64)  {post : (Nat → Int32) → (Nat → Int64) → (Nat → Nat → Int32) → Prop} (h : P_X12_lockLine ms mw ma post) : Met l yX12_lockLine vsX12_lockLine rmX12_lockLine (cPre D C [.ref (aM 0)] sz (wM aM C ms mw ma ml)) (cQv D (fun (u : (Nat → Int32) × (Nat → Int64) × (Nat → Nat → Int32)) => post u.1 u.2.1 u.2.2) (fun u => wM aM C u.1 u.2.1 u.2.2 ml) (va_A (List.flatten (wM aM C ms mw ma ml)) sz)) 0 0 (va_A (List.flatten (wM aM C ms mw ma ml)) sz) := by
  refine cStart (QA := fun A => cQv D (fun (u : (Nat → Int32) × (Nat → Int64) × (Nat → Nat → Int32)) => post u.1 u.2.1 u.2.2) (fun u => wM aM C u.1 u.2.1 u.2.2 ml) A) (cc := cX12_lockLine) (maxL := 2) (ret := none) (by decide) (Nat.le_of_ble_eq_true rfl) ?_
  intro p e s m args below meth c A ls hx hb hr hml hown hw hlocks hname hK hN hA hP hD hS hl
  generalize hQ : MQ below _ args s 0 0 A = Q
  have hl : lv_has ls 2 [(0, .ref (aM 0))] := hl
  obtain ⟨H, hH⟩ : ∃ H, H = s.heap := ⟨_, rfl⟩
  obtain ⟨locs, hlo⟩ : ∃ z : List Loc, z = [] := ⟨_, rfl⟩
  have hP : va_P D vwCl (List.flatten (wM aM C ms mw ma ml)) H := by rw [hH]; exact hP
  have hS : va_S A s.heap H locs := by rw [hH, hlo]; exact hS
  rw [show W p l e rmX12_lockLine s m args below meth c s.heap [] 0 0 Q (F0 m 0 ls []) = W p l e rmX12_lockLine s m args below meth c H locs 0 0 Q (F0 m 0 ls []) from by rw [hH, hlo]]
  unfold P_X12_lockLine at h
  refine lv_iconst (v := 4) hx hb dX12_lockLine_0 (by decide) ?_
  refine lv_bipush (v := 20) hx hb dX12_lockLine_1 (by decide) ?_
  refine lv_aload_n hx hb dX12_lockLine_3 rfl (lv_at hl 0 rfl) ?_
  refine va_get (D := D) (ci := 12) (v := .ref (aM 11)) (C := RX12) (T := TX12) (N := 51) hx hb hw inW_X12 hown hK hP 0 rfl rfl 21 (by decide) (hw _ mw_6_64) (fun _ h9 => h9) rfl dX12_lockLine_4 ?_
  refine lv_iconst (v := 4) hx hb dX12_lockLine_7 (by decide) ?_
  refine cIald hx hb hK hP 11 0 rfl rfl 4 (by decide +kernel) (cIn (by decide +kernel)) dX12_lockLine_8 ?_
  refine lv_iadd hx hb dX12_lockLine_9 ?_
  refine lv_imul hx hb dX12_lockLine_10 ?_
  refine lv_topi (fun x1 ex1 => ?_)
  have h := h x1 ex1
  refine lv_istore_n (lv' := [(1, .int x1), (0, .ref (aM 0))]) hx hb dX12_lockLine_11 rfl hl (by decide) rfl (fun ls hl => ?_)
  refine lv_aload_n hx hb dX12_lockLine_12 rfl (lv_at hl 1 rfl) ?_
  refine va_get (D := D) (ci := 12) (v := .ref (aM 12)) (C := RX12) (T := TX12) (N := 51) hx hb hw inW_X12 hown hK hP 0 rfl rfl 22 (by decide) (hw _ mw_6_65) (fun _ h9 => h9) rfl dX12_lockLine_13 ?_
  refine lv_iload_n hx hb dX12_lockLine_16 rfl (lv_at hl 0 rfl) ?_
  refine lv_aload_n hx hb dX12_lockLine_17 rfl (lv_at hl 1 rfl) ?_
  refine lv_ldc2 (v := 8863997) hx hb hown (hw _ mw_7_65) dX12_lockLine_18 ?_
  refine lv_iconst (v := 0) hx hb dX12_lockLine_21 (by decide) ?_
  refine lv_sipush (v := 999) hx hb dX12_lockLine_22 (by decide) ?_
  refine cGoAI (cRunAV (As := [.long 8863997, .int 0, .int 999]) (rest := [.int x1, .ref (aM 12)]) ⟨hx, hb, hml, hown, hw⟩ hK hN hP hD (k_X12_number_ l D C _ aM  ms mw ma ml 8863997 0 999 h) (cwV 3 hw (goodV mw_7_46 mw_7_48 mw_s119 mw_1_13 mw_7_49) rfl rfl rfl (by decide +kernel) ⟨Nat.le_of_ble_eq_true rfl, Nat.le_of_ble_eq_true rfl⟩) rfl rfl rfl hl.1 rfl (Nat.le_of_ble_eq_true rfl) dX12_lockLine_25 ⟨Nat.zero_le _, Nat.zero_le _⟩) hP hD hS hA (fun r4 u H locs h hP hD hS => ?_)
  obtain ⟨ms_2, mw_3⟩ := u
  have hP : va_P D vwCl (List.flatten (wM aM C ms_2 mw_3 ma ml)) H := hP
  have hD : va_D A (List.flatten (wM aM C ms_2 mw_3 ma ml)) := hD
  try dsimp only at h
  obtain ⟨kk_5, hkk_5⟩ : ∃ z : Nat, x1.toNatClampNeg = z := ⟨_, rfl⟩
  rw [hkk_5] at h
  refine cIast hx hb hK hP hD hS 12 0 rfl rfl kk_5 hkk_5 h.1 dX12_lockLine_28 (fun H locs hP hD hS => ?_)
  have h := h.2
  refine lv_aload_n hx hb dX12_lockLine_29 rfl (lv_at hl 1 rfl) ?_
  refine va_get (D := D) (ci := 12) (v := .ref (aM 12)) (C := RX12) (T := TX12) (N := 51) hx hb hw inW_X12 hown hK hP 0 rfl rfl 22 (by decide) (hw _ mw_6_65) (fun _ h9 => h9) rfl dX12_lockLine_30 ?_
  refine lv_iload_n hx hb dX12_lockLine_33 rfl (lv_at hl 0 rfl) ?_
  refine lv_iconst (v := 1) hx hb dX12_lockLine_34 (by decide) ?_
  refine lv_iadd hx hb dX12_lockLine_35 ?_
  refine lv_aload_n hx hb dX12_lockLine_36 rfl (lv_at hl 1 rfl) ?_
  refine lv_ldc2 (v := 74917) hx hb hown (hw _ mw_7_88) dX12_lockLine_37 ?_
  refine lv_iconst (v := 1) hx hb dX12_lockLine_40 (by decide) ?_
  refine lv_sipush (v := 999) hx hb dX12_lockLine_41 (by decide) ?_
  have hP : va_P D vwCl (List.flatten (wM aM C ms_2 mw_3 (va_up ma 9 (upd (ma 9) kk_5 r4)) ml)) H := hP
  have hD : va_D A (List.flatten (wM aM C ms_2 mw_3 (va_up ma 9 (upd (ma 9) kk_5 r4)) ml)) := hD
  refine cGoAI (cRunAV (As := [.long 74917, .int 1, .int 999]) (rest := [.int (x1 + 1), .ref (aM 12)]) ⟨hx, hb, hml, hown, hw⟩ hK hN hP hD (k_X12_number_ l D C _ aM  ms_2 mw_3 (va_up ma 9 (upd (ma 9) kk_5 r4)) ml 74917 1 999 h) (cwV 3 hw (goodV mw_7_46 mw_7_48 mw_s119 mw_1_13 mw_7_49) rfl rfl rfl (by decide +kernel) ⟨Nat.le_of_ble_eq_true rfl, Nat.le_of_ble_eq_true rfl⟩) rfl rfl rfl hl.1 rfl (Nat.le_of_ble_eq_true rfl) dX12_lockLine_44 ⟨Nat.zero_le _, Nat.zero_le _⟩) hP hD hS hA (fun r8 u H locs h hP hD hS => ?_)
  obtain ⟨ms_6, mw_7⟩ := u
  have hP : va_P D vwCl (List.flatten (wM aM C ms_6 mw_7 (va_up ma 9 (upd (ma 9) kk_5 r4)) ml)) H := hP
  have hD : va_D A (List.flatten (wM aM C ms_6 mw_7 (va_up ma 9 (upd (ma 9) kk_5 r4)) ml)) := hD
  try dsimp only at h
  obtain ⟨kk_9, hkk_9⟩ : ∃ z : Nat, (x1 + 1).toNatClampNeg = z := ⟨_, rfl⟩
  rw [hkk_9] at h
  refine cIast hx hb hK hP hD hS 12 0 rfl rfl kk_9 hkk_9 h.1 dX12_lockLine_47 (fun H locs hP hD hS => ?_)
  have h := h.2
  refine lv_aload_n hx hb dX12_lockLine_48 rfl (lv_at hl 1 rfl) ?_
  refine va_get (D := D) (ci := 12) (v := .ref (aM 12)) (C := RX12) (T := TX12) (N := 51) hx hb hw inW_X12 hown hK hP 0 rfl rfl 22 (by decide) (hw _ mw_6_65) (fun _ h9 => h9) rfl dX12_lockLine_49 ?_
  refine lv_iload_n hx hb dX12_lockLine_52 rfl (lv_at hl 0 rfl) ?_
  refine lv_iconst (v := 2) hx hb dX12_lockLine_53 (by decide) ?_
  refine lv_iadd hx hb dX12_lockLine_54 ?_
  refine lv_aload_n hx hb dX12_lockLine_55 rfl (lv_at hl 1 rfl) ?_
  refine lv_iconst (v := 1) hx hb dX12_lockLine_56 (by decide) ?_
  refine lv_sipush (v := 999) hx hb dX12_lockLine_57 (by decide) ?_
  have hP : va_P D vwCl (List.flatten (wM aM C ms_6 mw_7 (va_up ma 9 (upd (upd (ma 9) kk_5 r4) kk_9 r8)) ml)) H := hP
  have hD : va_D A (List.flatten (wM aM C ms_6 mw_7 (va_up ma 9 (upd (upd (ma 9) kk_5 r4) kk_9 r8)) ml)) := hD
  refine cGoAI (cRunAV (As := [.int 1, .int 999]) (rest := [.int (x1 + 2), .ref (aM 12)]) ⟨hx, hb, hml, hown, hw⟩ hK hN hP hD (k_X12_number l D C _ aM  ms_6 mw_7 (va_up ma 9 (upd (upd (ma 9) kk_5 r4) kk_9 r8)) ml 1 999 h) (cwV 2 hw (goodV mw_7_50 mw_7_52 mw_s120 mw_1_13 mw_7_53) rfl rfl rfl (by decide +kernel) ⟨Nat.le_of_ble_eq_true rfl, Nat.le_of_ble_eq_true rfl⟩) rfl rfl rfl hl.1 rfl (Nat.le_of_ble_eq_true rfl) dX12_lockLine_60 ⟨Nat.zero_le _, Nat.zero_le _⟩) hP hD hS hA (fun r12 u H locs h hP hD hS => ?_)
  obtain ⟨ms_10, mw_11⟩ := u
  have hP : va_P D vwCl (List.flatten (wM aM C ms_10 mw_11 (va_up ma 9 (upd (upd (ma 9) kk_5 r4) kk_9 r8)) ml)) H := hP
  have hD : va_D A (List.flatten (wM aM C ms_10 mw_11 (va_up ma 9 (upd (upd (ma 9) kk_5 r4) kk_9 r8)) ml)) := hD
  try dsimp only at h
  obtain ⟨kk_13, hkk_13⟩ : ∃ z : Nat, (x1 + 2).toNatClampNeg = z := ⟨_, rfl⟩
  rw [hkk_13] at h
  refine cIast hx hb hK hP hD hS 12 0 rfl rfl kk_13 hkk_13 h.1 dX12_lockLine_63 (fun H locs hP hD hS => ?_)
  have h := h.2
  refine lv_aload_n hx hb dX12_lockLine_64 rfl (lv_at hl 1 rfl) ?_
  refine va_get (D := D) (ci := 12) (v := .ref (aM 12)) (C := RX12) (T := TX12) (N := 51) hx hb hw inW_X12 hown hK hP 0 rfl rfl 22 (by decide) (hw _ mw_6_65) (fun _ h9 => h9) rfl dX12_lockLine_65 ?_
  refine lv_iload_n hx hb dX12_lockLine_68 rfl (lv_at hl 0 rfl) ?_
  refine lv_iconst (v := 3) hx hb dX12_lockLine_69 (by decide) ?_
  refine lv_iadd hx hb dX12_lockLine_70 ?_
  refine lv_aload_n hx hb dX12_lockLine_71 rfl (lv_at hl 1 rfl) ?_
  refine lv_iconst (v := 1) hx hb dX12_lockLine_72 (by decide) ?_
  refine lv_sipush (v := 999) hx hb dX12_lockLine_73 (by decide) ?_
  have hP : va_P D vwCl (List.flatten (wM aM C ms_10 mw_11 (va_up ma 9 (upd (upd (upd (ma 9) kk_5 r4) kk_9 r8) kk_13 r12)) ml)) H := hP
  have hD : va_D A (List.flatten (wM aM C ms_10 mw_11 (va_up ma 9 (upd (upd (upd (ma 9) kk_5 r4) kk_9 r8) kk_13 r12)) ml)) := hD
  refine cGoAI (cRunAV (As := [.int 1, .int 999]) (rest := [.int (x1 + 3), .ref (aM 12)]) ⟨hx, hb, hml, hown, hw⟩ hK hN hP hD (k_X12_number l D C _ aM  ms_10 mw_11 (va_up ma 9 (upd (upd (upd (ma 9) kk_5 r4) kk_9 r8) kk_13 r12)) ml 1 999 h) (cwV 2 hw (goodV mw_7_50 mw_7_52 mw_s120 mw_1_13 mw_7_53) rfl rfl rfl (by decide +kernel) ⟨Nat.le_of_ble_eq_true rfl, Nat.le_of_ble_eq_true rfl⟩) rfl rfl rfl hl.1 rfl (Nat.le_of_ble_eq_true rfl) dX12_lockLine_76 ⟨Nat.zero_le _, Nat.zero_le _⟩) hP hD hS hA (fun r16 u H locs h hP hD hS => ?_)
  obtain ⟨ms_14, mw_15⟩ := u
  have hP : va_P D vwCl (List.flatten (wM aM C ms_14 mw_15 (va_up ma 9 (upd (upd (upd (ma 9) kk_5 r4) kk_9 r8) kk_13 r12)) ml)) H := hP
  have hD : va_D A (List.flatten (wM aM C ms_14 mw_15 (va_up ma 9 (upd (upd (upd (ma 9) kk_5 r4) kk_9 r8) kk_13 r12)) ml)) := hD
  try dsimp only at h
  obtain ⟨kk_17, hkk_17⟩ : ∃ z : Nat, (x1 + 3).toNatClampNeg = z := ⟨_, rfl⟩
  rw [hkk_17] at h
  refine cIast hx hb hK hP hD hS 12 0 rfl rfl kk_17 hkk_17 h.1 dX12_lockLine_79 (fun H locs hP hD hS => ?_)
  have h := h.2
  refine lv_aload_n hx hb dX12_lockLine_80 rfl (lv_at hl 1 rfl) ?_
  refine va_get (D := D) (ci := 12) (v := .ref (aM 11)) (C := RX12) (T := TX12) (N := 51) hx hb hw inW_X12 hown hK hP 0 rfl rfl 21 (by decide) (hw _ mw_6_64) (fun _ h9 => h9) rfl dX12_lockLine_81 ?_
  refine lv_iconst (v := 4) hx hb dX12_lockLine_84 (by decide) ?_
  refine lv_dup2_11 hx hb dX12_lockLine_85 rfl rfl ?_
  refine cIald hx hb hK hP 11 0 rfl rfl 4 (by decide +kernel) (cIn (by decide +kernel)) dX12_lockLine_86 ?_
  refine lv_iconst (v := 1) hx hb dX12_lockLine_87 (by decide) ?_
  refine lv_iadd hx hb dX12_lockLine_88 ?_
  refine cIast hx hb hK hP hD hS 11 0 rfl rfl 4 (by decide +kernel) (cIn (by decide +kernel)) dX12_lockLine_89 (fun H locs hP hD hS => ?_)
  have hP : va_P D vwCl (List.flatten (wM aM C ms_14 mw_15 (va_up (va_up ma 8 (upd (ma 8) 4 ((ma 8 4) + 1))) 9 (upd (upd (upd (upd (ma 9) kk_5 r4) kk_9 r8) kk_13 r12) kk_17 r16)) ml)) H := hP
  have hD : va_D A (List.flatten (wM aM C ms_14 mw_15 (va_up (va_up ma 8 (upd (ma 8) 4 ((ma 8 4) + 1))) 9 (upd (upd (upd (upd (ma 9) kk_5 r4) kk_9 r8) kk_13 r12) kk_17 r16)) ml)) := hD
  rw [← hQ]
  exact cRetV (ms_14, mw_15, (va_up (va_up ma 8 (upd (ma 8) 4 ((ma 8 4) + 1))) 9 (upd (upd (upd (upd (ma 9) kk_5 r4) kk_9 r8) kk_13 r12) kk_17 r16))) hx hb hr hlocks hS hP hD h dX12_lockLine_90
abbrev vsX12_bikeLine : List Cond := Cond.code yX12_bikeLine cX12_bikeLine 4 none :: WS
abbrev rmX12_bikeLine : Room := { frames := 5, cells := 0, slots := 0, locals := 112 }
set_option maxHeartbeats 4000000 in
set_option maxRecDepth 100000 in
theorem k_X12_bikeLine (l : Launch) (D : va_G) (C : Nat → ClassId) (sz : Nat) (aM : Nat → Nat)  (ms : Nat → Int32) (mw : Nat → Int64) (ma : Nat → Nat → Int32) (ml : Nat → Nat → Int64)  {post : (Nat → Int32) → (Nat → Int64) → (Nat → Nat → Int32) → Prop} (h : P_X12_bikeLine ms mw ma post) : Met l yX12_bikeLine vsX12_bikeLine rmX12_bikeLine (cPre D C [.ref (aM 0)] sz (wM aM C ms mw ma ml)) (cQv D (fun (u : (Nat → Int32) × (Nat → Int64) × (Nat → Nat → Int32)) => post u.1 u.2.1 u.2.2) (fun u => wM aM C u.1 u.2.1 u.2.2 ml) (va_A (List.flatten (wM aM C ms mw ma ml)) sz)) 0 0 (va_A (List.flatten (wM aM C ms mw ma ml)) sz) := by
  refine cStart (QA := fun A => cQv D (fun (u : (Nat → Int32) × (Nat → Int64) × (Nat → Nat → Int32)) => post u.1 u.2.1 u.2.2) (fun u => wM aM C u.1 u.2.1 u.2.2 ml) A) (cc := cX12_bikeLine) (maxL := 4) (ret := none) (by decide) (Nat.le_of_ble_eq_true rfl) ?_
  intro p e s m args below meth c A ls hx hb hr hml hown hw hlocks hname hK hN hA hP hD hS hl
  generalize hQ : MQ below _ args s 0 0 A = Q
  have hl : lv_has ls 4 [(0, .ref (aM 0))] := hl
  obtain ⟨H, hH⟩ : ∃ H, H = s.heap := ⟨_, rfl⟩
  obtain ⟨locs, hlo⟩ : ∃ z : List Loc, z = [] := ⟨_, rfl⟩
  have hP : va_P D vwCl (List.flatten (wM aM C ms mw ma ml)) H := by rw [hH]; exact hP
  have hS : va_S A s.heap H locs := by rw [hH, hlo]; exact hS
  rw [show W p l e rmX12_bikeLine s m args below meth c s.heap [] 0 0 Q (F0 m 0 ls []) = W p l e rmX12_bikeLine s m args below meth c H locs 0 0 Q (F0 m 0 ls []) from by rw [hH, hlo]]
  have N184 : ∀ (x1_ : Int32) (k0_ : Int32) (k1_ : Int32) (ms : Nat → Int32) (mw : Nat → Int64) (ma : Nat → Nat → Int32) (H : Heap) (locs : List Loc) (ls : Array Slot), P_X12_bikeLine_184  post  x1_ k0_ k1_ ms mw ma → va_P D vwCl (List.flatten (wM aM C ms mw ma ml)) H → va_D A (List.flatten (wM aM C ms mw ma ml)) → va_S A s.heap H locs → lv_has ls 4 [(0, .ref (aM 0)), (1, .int x1_)] → W p l e rmX12_bikeLine s m args below meth c H locs 0 0 Q (F0 m 184 ls [.int k0_, .int k1_, .ref (aM 14)]) := by
    intro x1_ k0_ k1_ ms mw ma H locs ls h hP hD hS hl
    unfold P_X12_bikeLine_184 at h
    try dsimp only at h
    obtain ⟨kk_1, hkk_1⟩ : ∃ z : Nat, k1_.toNatClampNeg = z := ⟨_, rfl⟩
    rw [hkk_1] at h
    refine cIast hx hb hK hP hD hS 14 0 rfl rfl kk_1 hkk_1 h.1 dX12_bikeLine_184 (fun H locs hP hD hS => ?_)
    have h := h.2
    refine lv_aload_n hx hb dX12_bikeLine_185 rfl (lv_at hl 0 rfl) ?_
    refine va_get (D := D) (ci := 12) (v := .ref (aM 14)) (C := RX12) (T := TX12) (N := 51) hx hb hw inW_X12 hown hK hP 0 rfl rfl 24 (by decide) (hw _ mw_6_67) (fun _ h9 => h9) rfl dX12_bikeLine_186 ?_
    refine lv_iload_n hx hb dX12_bikeLine_189 rfl (lv_at hl 1 rfl) ?_
    refine lv_iconst (v := 4) hx hb dX12_bikeLine_190 (by decide) ?_
    refine lv_iadd hx hb dX12_bikeLine_191 ?_
    refine lv_aload_n hx hb dX12_bikeLine_192 rfl (lv_at hl 0 rfl) ?_
    refine lv_ldc2 (v := 187429684) hx hb hown (hw _ mw_7_95) dX12_bikeLine_193 ?_
    have hP : va_P D vwCl (List.flatten (wM aM C ms mw (va_up ma 11 (upd (ma 11) kk_1 k0_)) ml)) H := hP
    have hD : va_D A (List.flatten (wM aM C ms mw (va_up ma 11 (upd (ma 11) kk_1 k0_)) ml)) := hD
    refine cGoAI (cRunAV (As := [.long 187429684]) (rest := [.int (x1_ + 4), .ref (aM 14)]) ⟨hx, hb, hml, hown, hw⟩ hK hN hP hD (k_X12_takes l D C _ aM  ms mw (va_up ma 11 (upd (ma 11) kk_1 k0_)) ml 187429684 h) (cwV 1 hw (goodV mw_7_33 mw_7_35 mw_s116 mw_1_13 mw_7_36) rfl rfl rfl (by decide +kernel) ⟨Nat.le_of_ble_eq_true rfl, Nat.le_of_ble_eq_true rfl⟩) rfl rfl rfl hl.1 rfl (Nat.le_of_ble_eq_true rfl) dX12_bikeLine_196 ⟨Nat.zero_le _, Nat.zero_le _⟩) hP hD hS hA (fun r4 u H locs h hP hD hS => ?_)
    obtain ⟨ms_2, mw_3⟩ := u
    have hP : va_P D vwCl (List.flatten (wM aM C ms_2 mw_3 (va_up ma 11 (upd (ma 11) kk_1 k0_)) ml)) H := hP
    have hD : va_D A (List.flatten (wM aM C ms_2 mw_3 (va_up ma 11 (upd (ma 11) kk_1 k0_)) ml)) := hD
    refine lv_if_eq (tgt := 206) hx hb dX12_bikeLine_199 (by decide) (fun c5 => ?_) (fun c5 => ?_)
    · have h := h.1 c5
      refine lv_iconst (v := 0) hx hb dX12_bikeLine_206 (by decide) ?_
      try dsimp only at h
      obtain ⟨kk_6, hkk_6⟩ : ∃ z : Nat, (x1_ + 4).toNatClampNeg = z := ⟨_, rfl⟩
      rw [hkk_6] at h
      refine cIast hx hb hK hP hD hS 14 0 rfl rfl kk_6 hkk_6 h.1 dX12_bikeLine_207 (fun H locs hP hD hS => ?_)
      have h := h.2
      refine lv_aload_n hx hb dX12_bikeLine_208 rfl (lv_at hl 0 rfl) ?_
      refine va_get (D := D) (ci := 12) (v := .ref (aM 13)) (C := RX12) (T := TX12) (N := 51) hx hb hw inW_X12 hown hK hP 0 rfl rfl 23 (by decide) (hw _ mw_6_66) (fun _ h9 => h9) rfl dX12_bikeLine_209 ?_
      refine lv_iconst (v := 4) hx hb dX12_bikeLine_212 (by decide) ?_
      refine lv_dup2_11 hx hb dX12_bikeLine_213 rfl rfl ?_
      refine cIald hx hb hK hP 13 0 rfl rfl 4 (by decide +kernel) (cIn (by decide +kernel)) dX12_bikeLine_214 ?_
      refine lv_iconst (v := 1) hx hb dX12_bikeLine_215 (by decide) ?_
      refine lv_iadd hx hb dX12_bikeLine_216 ?_
      refine cIast hx hb hK hP hD hS 13 0 rfl rfl 4 (by decide +kernel) (cIn (by decide +kernel)) dX12_bikeLine_217 (fun H locs hP hD hS => ?_)
      have hP : va_P D vwCl (List.flatten (wM aM C ms_2 mw_3 (va_up (va_up ma 10 (upd (ma 10) 4 ((ma 10 4) + 1))) 11 (upd (upd (ma 11) kk_1 k0_) kk_6 0)) ml)) H := hP
      have hD : va_D A (List.flatten (wM aM C ms_2 mw_3 (va_up (va_up ma 10 (upd (ma 10) 4 ((ma 10 4) + 1))) 11 (upd (upd (ma 11) kk_1 k0_) kk_6 0)) ml)) := hD
      rw [← hQ]
      exact cRetV (ms_2, mw_3, (va_up (va_up ma 10 (upd (ma 10) 4 ((ma 10 4) + 1))) 11 (upd (upd (ma 11) kk_1 k0_) kk_6 0))) hx hb hr hlocks hS hP hD h dX12_bikeLine_218
    · have h := h.2 c5
      refine lv_iconst (v := 1) hx hb dX12_bikeLine_202 (by decide) ?_
      refine lv_goto (tgt := 207) hx hb dX12_bikeLine_203 (by decide) ?_
      try dsimp only at h
      obtain ⟨kk_7, hkk_7⟩ : ∃ z : Nat, (x1_ + 4).toNatClampNeg = z := ⟨_, rfl⟩
      rw [hkk_7] at h
      refine cIast hx hb hK hP hD hS 14 0 rfl rfl kk_7 hkk_7 h.1 dX12_bikeLine_207 (fun H locs hP hD hS => ?_)
      have h := h.2
      refine lv_aload_n hx hb dX12_bikeLine_208 rfl (lv_at hl 0 rfl) ?_
      refine va_get (D := D) (ci := 12) (v := .ref (aM 13)) (C := RX12) (T := TX12) (N := 51) hx hb hw inW_X12 hown hK hP 0 rfl rfl 23 (by decide) (hw _ mw_6_66) (fun _ h9 => h9) rfl dX12_bikeLine_209 ?_
      refine lv_iconst (v := 4) hx hb dX12_bikeLine_212 (by decide) ?_
      refine lv_dup2_11 hx hb dX12_bikeLine_213 rfl rfl ?_
      refine cIald hx hb hK hP 13 0 rfl rfl 4 (by decide +kernel) (cIn (by decide +kernel)) dX12_bikeLine_214 ?_
      refine lv_iconst (v := 1) hx hb dX12_bikeLine_215 (by decide) ?_
      refine lv_iadd hx hb dX12_bikeLine_216 ?_
      refine cIast hx hb hK hP hD hS 13 0 rfl rfl 4 (by decide +kernel) (cIn (by decide +kernel)) dX12_bikeLine_217 (fun H locs hP hD hS => ?_)
      have hP : va_P D vwCl (List.flatten (wM aM C ms_2 mw_3 (va_up (va_up ma 10 (upd (ma 10) 4 ((ma 10 4) + 1))) 11 (upd (upd (ma 11) kk_1 k0_) kk_7 1)) ml)) H := hP
      have hD : va_D A (List.flatten (wM aM C ms_2 mw_3 (va_up (va_up ma 10 (upd (ma 10) 4 ((ma 10 4) + 1))) 11 (upd (upd (ma 11) kk_1 k0_) kk_7 1)) ml)) := hD
      rw [← hQ]
      exact cRetV (ms_2, mw_3, (va_up (va_up ma 10 (upd (ma 10) 4 ((ma 10 4) + 1))) 11 (upd (upd (ma 11) kk_1 k0_) kk_7 1))) hx hb hr hlocks hS hP hD h dX12_bikeLine_218
  have N129 : ∀ (x1_ : Int32) (ms : Nat → Int32) (mw : Nat → Int64) (ma : Nat → Nat → Int32) (H : Heap) (locs : List Loc) (ls : Array Slot), P_X12_bikeLine_129  post  x1_ ms mw ma → va_P D vwCl (List.flatten (wM aM C ms mw ma ml)) H → va_D A (List.flatten (wM aM C ms mw ma ml)) → va_S A s.heap H locs → lv_has ls 4 [(0, .ref (aM 0)), (1, .int x1_)] → W p l e rmX12_bikeLine s m args below meth c H locs 0 0 Q (F0 m 129 ls []) := by
    intro x1_ ms mw ma H locs ls h hP hD hS hl
    unfold P_X12_bikeLine_129 at h
    refine lv_aload_n hx hb dX12_bikeLine_129 rfl (lv_at hl 0 rfl) ?_
    refine va_get (D := D) (ci := 12) (v := .ref (aM 14)) (C := RX12) (T := TX12) (N := 51) hx hb hw inW_X12 hown hK hP 0 rfl rfl 24 (by decide) (hw _ mw_6_67) (fun _ h9 => h9) rfl dX12_bikeLine_130 ?_
    refine lv_iload_n hx hb dX12_bikeLine_133 rfl (lv_at hl 1 rfl) ?_
    refine lv_iconst (v := 2) hx hb dX12_bikeLine_134 (by decide) ?_
    refine lv_iadd hx hb dX12_bikeLine_135 ?_
    refine lv_aload_n hx hb dX12_bikeLine_136 rfl (lv_at hl 0 rfl) ?_
    refine lv_iconst (v := 0) hx hb dX12_bikeLine_137 (by decide) ?_
    refine lv_aload_n hx hb dX12_bikeLine_138 rfl (lv_at hl 0 rfl) ?_
    refine va_get (D := D) (ci := 12) (v := .ref (aM 7)) (C := RX12) (T := TX12) (N := 51) hx hb hw inW_X12 hown hK hP 0 rfl rfl 17 (by decide) (hw _ mw_6_60) (fun _ h9 => h9) rfl dX12_bikeLine_139 ?_
    refine lv_iconst (v := 4) hx hb dX12_bikeLine_142 (by decide) ?_
    refine cIald hx hb hK hP 7 0 rfl rfl 4 (by decide +kernel) (cIn (by decide +kernel)) dX12_bikeLine_143 ?_
    refine lv_iconst (v := 1) hx hb dX12_bikeLine_144 (by decide) ?_
    refine lv_isub hx hb dX12_bikeLine_145 ?_
    refine cGoAI (cRunAV (As := [.int 0, .int ((ma 4 4) - 1)]) (rest := [.int (x1_ + 2), .ref (aM 14)]) ⟨hx, hb, hml, hown, hw⟩ hK hN hP hD (k_X12_number l D C _ aM  ms mw ma ml 0 ((ma 4 4) - 1) h) (cwV 2 hw (goodV mw_7_50 mw_7_52 mw_s120 mw_1_13 mw_7_53) rfl rfl rfl (by decide +kernel) ⟨Nat.le_of_ble_eq_true rfl, Nat.le_of_ble_eq_true rfl⟩) rfl rfl rfl hl.1 rfl (Nat.le_of_ble_eq_true rfl) dX12_bikeLine_146 ⟨Nat.zero_le _, Nat.zero_le _⟩) hP hD hS hA (fun r10 u H locs h hP hD hS => ?_)
    obtain ⟨ms_8, mw_9⟩ := u
    have hP : va_P D vwCl (List.flatten (wM aM C ms_8 mw_9 ma ml)) H := hP
    have hD : va_D A (List.flatten (wM aM C ms_8 mw_9 ma ml)) := hD
    try dsimp only at h
    obtain ⟨kk_11, hkk_11⟩ : ∃ z : Nat, (x1_ + 2).toNatClampNeg = z := ⟨_, rfl⟩
    rw [hkk_11] at h
    refine cIast hx hb hK hP hD hS 14 0 rfl rfl kk_11 hkk_11 h.1 dX12_bikeLine_149 (fun H locs hP hD hS => ?_)
    have h := h.2
    refine lv_aload_n hx hb dX12_bikeLine_150 rfl (lv_at hl 0 rfl) ?_
    refine va_get (D := D) (ci := 12) (v := .ref (aM 14)) (C := RX12) (T := TX12) (N := 51) hx hb hw inW_X12 hown hK hP 0 rfl rfl 24 (by decide) (hw _ mw_6_67) (fun _ h9 => h9) rfl dX12_bikeLine_151 ?_
    refine lv_iload_n hx hb dX12_bikeLine_154 rfl (lv_at hl 1 rfl) ?_
    refine lv_iconst (v := 3) hx hb dX12_bikeLine_155 (by decide) ?_
    refine lv_iadd hx hb dX12_bikeLine_156 ?_
    refine lv_aload_n hx hb dX12_bikeLine_157 rfl (lv_at hl 0 rfl) ?_
    refine lv_ldc2 (v := 247223) hx hb hown (hw _ mw_7_71) dX12_bikeLine_158 ?_
    have hP : va_P D vwCl (List.flatten (wM aM C ms_8 mw_9 (va_up ma 11 (upd (ma 11) kk_11 r10)) ml)) H := hP
    have hD : va_D A (List.flatten (wM aM C ms_8 mw_9 (va_up ma 11 (upd (ma 11) kk_11 r10)) ml)) := hD
    refine cGoAI (cRunAV (As := [.long 247223]) (rest := [.int (x1_ + 3), .ref (aM 14)]) ⟨hx, hb, hml, hown, hw⟩ hK hN hP hD (k_X12_takes l D C _ aM  ms_8 mw_9 (va_up ma 11 (upd (ma 11) kk_11 r10)) ml 247223 h) (cwV 1 hw (goodV mw_7_33 mw_7_35 mw_s116 mw_1_13 mw_7_36) rfl rfl rfl (by decide +kernel) ⟨Nat.le_of_ble_eq_true rfl, Nat.le_of_ble_eq_true rfl⟩) rfl rfl rfl hl.1 rfl (Nat.le_of_ble_eq_true rfl) dX12_bikeLine_161 ⟨Nat.zero_le _, Nat.zero_le _⟩) hP hD hS hA (fun r14 u H locs h hP hD hS => ?_)
    obtain ⟨ms_12, mw_13⟩ := u
    have hP : va_P D vwCl (List.flatten (wM aM C ms_12 mw_13 (va_up ma 11 (upd (ma 11) kk_11 r10)) ml)) H := hP
    have hD : va_D A (List.flatten (wM aM C ms_12 mw_13 (va_up ma 11 (upd (ma 11) kk_11 r10)) ml)) := hD
    refine lv_if_eq (tgt := 183) hx hb dX12_bikeLine_164 (by decide) (fun c15 => ?_) (fun c15 => ?_)
    · have h := h.1 c15
      refine lv_iconst (v := (-1)) hx hb dX12_bikeLine_183 (by decide) ?_
      exact N184 x1_ (-1) (x1_ + 3) ms_12 mw_13 (va_up ma 11 (upd (ma 11) kk_11 r10)) _ _ _ h hP hD hS (lv_sub hl [0, 1] rfl)
    · have h := h.2 c15
      refine lv_aload_n hx hb dX12_bikeLine_167 rfl (lv_at hl 0 rfl) ?_
      refine lv_iconst (v := 0) hx hb dX12_bikeLine_168 (by decide) ?_
      refine lv_aload_n hx hb dX12_bikeLine_169 rfl (lv_at hl 0 rfl) ?_
      refine va_get (D := D) (ci := 12) (v := .ref (aM 11)) (C := RX12) (T := TX12) (N := 51) hx hb hw inW_X12 hown hK hP 0 rfl rfl 21 (by decide) (hw _ mw_6_64) (fun _ h9 => h9) rfl dX12_bikeLine_170 ?_
      refine lv_iconst (v := 4) hx hb dX12_bikeLine_173 (by decide) ?_
      refine cIald hx hb hK hP 11 0 rfl rfl 4 (by decide +kernel) (cIn (by decide +kernel)) dX12_bikeLine_174 ?_
      refine lv_iconst (v := 1) hx hb dX12_bikeLine_175 (by decide) ?_
      refine lv_isub hx hb dX12_bikeLine_176 ?_
      refine cGoAI (cRunAV (As := [.int 0, .int ((ma 8 4) - 1)]) (rest := [.int (x1_ + 3), .ref (aM 14)]) ⟨hx, hb, hml, hown, hw⟩ hK hN hP hD (k_X12_number l D C _ aM  ms_12 mw_13 (va_up ma 11 (upd (ma 11) kk_11 r10)) ml 0 ((ma 8 4) - 1) h) (cwV 2 hw (goodV mw_7_50 mw_7_52 mw_s120 mw_1_13 mw_7_53) rfl rfl rfl (by decide +kernel) ⟨Nat.le_of_ble_eq_true rfl, Nat.le_of_ble_eq_true rfl⟩) rfl rfl rfl hl.1 rfl (Nat.le_of_ble_eq_true rfl) dX12_bikeLine_177 ⟨Nat.zero_le _, Nat.zero_le _⟩) hP hD hS hA (fun r18 u H locs h hP hD hS => ?_)
      obtain ⟨ms_16, mw_17⟩ := u
      have hP : va_P D vwCl (List.flatten (wM aM C ms_16 mw_17 (va_up ma 11 (upd (ma 11) kk_11 r10)) ml)) H := hP
      have hD : va_D A (List.flatten (wM aM C ms_16 mw_17 (va_up ma 11 (upd (ma 11) kk_11 r10)) ml)) := hD
      refine lv_goto (tgt := 184) hx hb dX12_bikeLine_180 (by decide) ?_
      exact N184 x1_ r18 (x1_ + 3) ms_16 mw_17 (va_up ma 11 (upd (ma 11) kk_11 r10)) _ _ _ h hP hD hS (lv_sub hl [0, 1] rfl)
  have N105 : ∀ (x1_ : Int32) (x2_ : Int32) (ms : Nat → Int32) (mw : Nat → Int64) (ma : Nat → Nat → Int32) (H : Heap) (locs : List Loc) (ls : Array Slot), P_X12_bikeLine_105  post  x1_ x2_ ms mw ma → va_P D vwCl (List.flatten (wM aM C ms mw ma ml)) H → va_D A (List.flatten (wM aM C ms mw ma ml)) → va_S A s.heap H locs → lv_has ls 4 [(0, .ref (aM 0)), (1, .int x1_), (2, .int x2_)] → W p l e rmX12_bikeLine s m args below meth c H locs 0 0 Q (F0 m 105 ls []) := by
    intro x1_ x2_ ms mw ma H locs ls h hP hD hS hl
    unfold P_X12_bikeLine_105 at h
    refine lv_aload_n hx hb dX12_bikeLine_105 rfl (lv_at hl 0 rfl) ?_
    refine va_get (D := D) (ci := 12) (v := .int (ms 6)) (C := RX12) (T := TX12) (N := 51) hx hb hw inW_X12 hown hK hP 0 rfl rfl 12 (by decide) (hw _ mw_6_55) (fun _ h9 => h9) rfl dX12_bikeLine_106 ?_
    refine lv_if_ne (tgt := 129) hx hb dX12_bikeLine_109 (by decide) (fun c19 => ?_) (fun c19 => ?_)
    · have h := h.1 c19
      exact N129 x1_ ms mw ma _ _ _ h hP hD hS (lv_sub hl [0, 1] rfl)
    · have h := h.2 c19
      refine lv_aload_n hx hb dX12_bikeLine_112 rfl (lv_at hl 0 rfl) ?_
      refine va_get (D := D) (ci := 12) (v := .int (ms 3)) (C := RX12) (T := TX12) (N := 51) hx hb hw inW_X12 hown hK hP 0 rfl rfl 8 (by decide) (hw _ mw_6_51) (fun _ h9 => h9) rfl dX12_bikeLine_113 ?_
      refine lv_iconst (v := 2) hx hb dX12_bikeLine_116 (by decide) ?_
      refine lv_icmp_ne (tgt := 129) hx hb dX12_bikeLine_117 (by decide) (fun c20 => ?_) (fun c20 => ?_)
      · have h := h.1 c20
        exact N129 x1_ ms mw ma _ _ _ h hP hD hS (lv_sub hl [0, 1] rfl)
      · have h := h.2 c20
        refine lv_iload_n hx hb dX12_bikeLine_120 rfl (lv_at hl 2 rfl) ?_
        refine lv_if_eq (tgt := 129) hx hb dX12_bikeLine_121 (by decide) (fun c21 => ?_) (fun c21 => ?_)
        · have h := h.1 c21
          exact N129 x1_ ms mw ma _ _ _ h hP hD hS (lv_sub hl [0, 1] rfl)
        · have h := h.2 c21
          refine lv_aload_n hx hb dX12_bikeLine_124 rfl (lv_at hl 0 rfl) ?_
          refine lv_iconst (v := 2) hx hb dX12_bikeLine_125 (by decide) ?_
          refine cGoAV (cRunAV (As := [.int 2]) (rest := []) ⟨hx, hb, hml, hown, hw⟩ hK hN hP hD (k_X12_fails l D C _ aM  ms mw ma ml 2 h) (cwV 1 hw (goodV mw_7_41 mw_7_43 mw_s118 mw_1_13 mw_7_44) rfl rfl rfl (by decide +kernel) ⟨Nat.le_of_ble_eq_true rfl, Nat.le_of_ble_eq_true rfl⟩) rfl rfl rfl hl.1 rfl (Nat.le_of_ble_eq_true rfl) dX12_bikeLine_126 ⟨Nat.zero_le _, Nat.zero_le _⟩) hP hD hS hA (fun ms_22 H locs h hP hD hS => ?_)
          have hP : va_P D vwCl (List.flatten (wM aM C ms_22 mw ma ml)) H := hP
          have hD : va_D A (List.flatten (wM aM C ms_22 mw ma ml)) := hD
          exact N129 x1_ ms_22 mw ma _ _ _ h hP hD hS (lv_sub hl [0, 1] rfl)
  have N59 : ∀ (x1_ : Int32) (ms : Nat → Int32) (mw : Nat → Int64) (ma : Nat → Nat → Int32) (n59 : Nat) (x2_ : Int32) (x3_ : Int32) (H : Heap) (locs : List Loc) (ls : Array Slot), P_X12_bikeLine_59  post (fun (x1_ : Int32) (x2_ : Int32) (ms : Nat → Int32) (mw : Nat → Int64) (ma : Nat → Nat → Int32) => P_X12_bikeLine_105  post  x1_ x2_ ms mw ma) x1_ ms mw ma n59 x2_ x3_ → va_P D vwCl (List.flatten (wM aM C ms mw ma ml)) H → va_D A (List.flatten (wM aM C ms mw ma ml)) → va_S A s.heap H locs → lv_has ls 4 [(0, .ref (aM 0)), (1, .int x1_), (2, .int x2_), (3, .int x3_)] → W p l e rmX12_bikeLine s m args below meth c H locs 0 0 Q (F0 m 59 ls []) := by
    intro x1_ ms mw ma
    intro n59
    induction n59 with
    | zero => intro x2_ x3_ H locs ls h hP hD hS hl; exact False.elim h
    | succ n59 ih59 =>
      intro x2_ x3_ H locs ls h hP hD hS hl
      have h : P_X12_bikeLine_59_b  post (fun (x1_ : Int32) (x2_ : Int32) (ms : Nat → Int32) (mw : Nat → Int64) (ma : Nat → Nat → Int32) => P_X12_bikeLine_105  post  x1_ x2_ ms mw ma) x1_ ms mw ma (P_X12_bikeLine_59  post (fun (x1_ : Int32) (x2_ : Int32) (ms : Nat → Int32) (mw : Nat → Int64) (ma : Nat → Nat → Int32) => P_X12_bikeLine_105  post  x1_ x2_ ms mw ma) x1_ ms mw ma n59) x2_ x3_ := h
      unfold P_X12_bikeLine_59_b at h
      refine lv_iload_n hx hb dX12_bikeLine_59 rfl (lv_at hl 3 rfl) ?_
      refine lv_aload_n hx hb dX12_bikeLine_60 rfl (lv_at hl 0 rfl) ?_
      refine va_get (D := D) (ci := 12) (v := .ref (aM 13)) (C := RX12) (T := TX12) (N := 51) hx hb hw inW_X12 hown hK hP 0 rfl rfl 23 (by decide) (hw _ mw_6_66) (fun _ h9 => h9) rfl dX12_bikeLine_61 ?_
      refine lv_iconst (v := 4) hx hb dX12_bikeLine_64 (by decide) ?_
      refine cIald hx hb hK hP 13 0 rfl rfl 4 (by decide +kernel) (cIn (by decide +kernel)) dX12_bikeLine_65 ?_
      refine lv_icmp_ge (tgt := 105) hx hb dX12_bikeLine_66 (by decide) (fun c23 => ?_) (fun c23 => ?_)
      · have h := h.1 c23
        exact N105 x1_ x2_ ms mw ma _ _ _ h hP hD hS (lv_sub hl [0, 1, 2] rfl)
      · have h := h.2 c23
        refine lv_iload_n hx hb dX12_bikeLine_69 rfl (lv_at hl 2 rfl) ?_
        refine lv_if_ne (tgt := 93) hx hb dX12_bikeLine_70 (by decide) (fun c24 => ?_) (fun c24 => ?_)
        · have h := h.1 c24
          refine lv_iconst (v := 1) hx hb dX12_bikeLine_93 (by decide) ?_
          refine lv_goto (tgt := 98) hx hb dX12_bikeLine_94 (by decide) ?_
          refine lv_istore_n (lv' := [(2, .int 1), (0, .ref (aM 0)), (1, .int x1_), (3, .int x3_)]) hx hb dX12_bikeLine_98 rfl hl (by decide) rfl (fun ls hl => ?_)
          refine lv_iinc (v := (x3_ + 1)) (lv' := [(3, .int (x3_ + 1)), (2, .int 1), (0, .ref (aM 0)), (1, .int x1_)]) hx hb dX12_bikeLine_99 hl (k := 3) rfl rfl (by decide) rfl (fun ls hl => ?_)
          refine lv_goto (tgt := 59) hx hb dX12_bikeLine_102 (by decide) ?_
          exact ih59 1 (x3_ + 1) _ _ _ h hP hD hS (lv_sub hl [2, 3, 1, 0] rfl)
        · have h := h.2 c24
          refine lv_aload_n hx hb dX12_bikeLine_73 rfl (lv_at hl 0 rfl) ?_
          refine va_get (D := D) (ci := 12) (v := .ref (aM 14)) (C := RX12) (T := TX12) (N := 51) hx hb hw inW_X12 hown hK hP 0 rfl rfl 24 (by decide) (hw _ mw_6_67) (fun _ h9 => h9) rfl dX12_bikeLine_74 ?_
          refine lv_iconst (v := 5) hx hb dX12_bikeLine_77 (by decide) ?_
          refine lv_bipush (v := 40) hx hb dX12_bikeLine_78 (by decide) ?_
          refine lv_iload_n hx hb dX12_bikeLine_80 rfl (lv_at hl 3 rfl) ?_
          refine lv_iadd hx hb dX12_bikeLine_81 ?_
          refine lv_imul hx hb dX12_bikeLine_82 ?_
          refine lv_iconst (v := 2) hx hb dX12_bikeLine_83 (by decide) ?_
          refine lv_iadd hx hb dX12_bikeLine_84 ?_
          try dsimp only at h
          obtain ⟨kk_25, hkk_25⟩ : ∃ z : Nat, ((5 * (40 + x3_)) + 2).toNatClampNeg = z := ⟨_, rfl⟩
          rw [hkk_25] at h
          refine cIald hx hb hK hP 14 0 rfl rfl kk_25 hkk_25 h.1 dX12_bikeLine_85 ?_
          have h := h.2
          refine lv_aload_n hx hb dX12_bikeLine_86 rfl (lv_at hl 0 rfl) ?_
          refine va_get (D := D) (ci := 12) (v := .int (ms 5)) (C := RX12) (T := TX12) (N := 51) hx hb hw inW_X12 hown hK hP 0 rfl rfl 10 (by decide) (hw _ mw_6_53) (fun _ h9 => h9) rfl dX12_bikeLine_87 ?_
          refine lv_icmp_ne (tgt := 97) hx hb dX12_bikeLine_90 (by decide) (fun c26 => ?_) (fun c26 => ?_)
          · have h := h.1 c26
            refine lv_iconst (v := 0) hx hb dX12_bikeLine_97 (by decide) ?_
            refine lv_istore_n (lv' := [(2, .int 0), (0, .ref (aM 0)), (1, .int x1_), (3, .int x3_)]) hx hb dX12_bikeLine_98 rfl hl (by decide) rfl (fun ls hl => ?_)
            refine lv_iinc (v := (x3_ + 1)) (lv' := [(3, .int (x3_ + 1)), (2, .int 0), (0, .ref (aM 0)), (1, .int x1_)]) hx hb dX12_bikeLine_99 hl (k := 3) rfl rfl (by decide) rfl (fun ls hl => ?_)
            refine lv_goto (tgt := 59) hx hb dX12_bikeLine_102 (by decide) ?_
            exact ih59 0 (x3_ + 1) _ _ _ h hP hD hS (lv_sub hl [2, 3, 1, 0] rfl)
          · have h := h.2 c26
            refine lv_iconst (v := 1) hx hb dX12_bikeLine_93 (by decide) ?_
            refine lv_goto (tgt := 98) hx hb dX12_bikeLine_94 (by decide) ?_
            refine lv_istore_n (lv' := [(2, .int 1), (0, .ref (aM 0)), (1, .int x1_), (3, .int x3_)]) hx hb dX12_bikeLine_98 rfl hl (by decide) rfl (fun ls hl => ?_)
            refine lv_iinc (v := (x3_ + 1)) (lv' := [(3, .int (x3_ + 1)), (2, .int 1), (0, .ref (aM 0)), (1, .int x1_)]) hx hb dX12_bikeLine_99 hl (k := 3) rfl rfl (by decide) rfl (fun ls hl => ?_)
            refine lv_goto (tgt := 59) hx hb dX12_bikeLine_102 (by decide) ?_
            exact ih59 1 (x3_ + 1) _ _ _ h hP hD hS (lv_sub hl [2, 3, 1, 0] rfl)
  unfold P_X12_bikeLine at h
  refine lv_iconst (v := 5) hx hb dX12_bikeLine_0 (by decide) ?_
  refine lv_bipush (v := 40) hx hb dX12_bikeLine_1 (by decide) ?_
  refine lv_aload_n hx hb dX12_bikeLine_3 rfl (lv_at hl 0 rfl) ?_
  refine va_get (D := D) (ci := 12) (v := .ref (aM 13)) (C := RX12) (T := TX12) (N := 51) hx hb hw inW_X12 hown hK hP 0 rfl rfl 23 (by decide) (hw _ mw_6_66) (fun _ h9 => h9) rfl dX12_bikeLine_4 ?_
  refine lv_iconst (v := 4) hx hb dX12_bikeLine_7 (by decide) ?_
  refine cIald hx hb hK hP 13 0 rfl rfl 4 (by decide +kernel) (cIn (by decide +kernel)) dX12_bikeLine_8 ?_
  refine lv_iadd hx hb dX12_bikeLine_9 ?_
  refine lv_imul hx hb dX12_bikeLine_10 ?_
  refine lv_topi (fun x27 ex27 => ?_)
  have h := h x27 ex27
  refine lv_istore_n (lv' := [(1, .int x27), (0, .ref (aM 0))]) hx hb dX12_bikeLine_11 rfl hl (by decide) rfl (fun ls hl => ?_)
  refine lv_aload_n hx hb dX12_bikeLine_12 rfl (lv_at hl 1 rfl) ?_
  refine va_get (D := D) (ci := 12) (v := .ref (aM 14)) (C := RX12) (T := TX12) (N := 51) hx hb hw inW_X12 hown hK hP 0 rfl rfl 24 (by decide) (hw _ mw_6_67) (fun _ h9 => h9) rfl dX12_bikeLine_13 ?_
  refine lv_iload_n hx hb dX12_bikeLine_16 rfl (lv_at hl 0 rfl) ?_
  refine lv_aload_n hx hb dX12_bikeLine_17 rfl (lv_at hl 1 rfl) ?_
  refine lv_ldc2 (v := 12532058) hx hb hown (hw _ mw_7_93) dX12_bikeLine_18 ?_
  refine lv_iconst (v := 0) hx hb dX12_bikeLine_21 (by decide) ?_
  refine lv_sipush (v := 9999) hx hb dX12_bikeLine_22 (by decide) ?_
  refine cGoAI (cRunAV (As := [.long 12532058, .int 0, .int 9999]) (rest := [.int x27, .ref (aM 14)]) ⟨hx, hb, hml, hown, hw⟩ hK hN hP hD (k_X12_number_ l D C _ aM  ms mw ma ml 12532058 0 9999 h) (cwV 3 hw (goodV mw_7_46 mw_7_48 mw_s119 mw_1_13 mw_7_49) rfl rfl rfl (by decide +kernel) ⟨Nat.le_of_ble_eq_true rfl, Nat.le_of_ble_eq_true rfl⟩) rfl rfl rfl hl.1 rfl (Nat.le_of_ble_eq_true rfl) dX12_bikeLine_25 ⟨Nat.zero_le _, Nat.zero_le _⟩) hP hD hS hA (fun r30 u H locs h hP hD hS => ?_)
  obtain ⟨ms_28, mw_29⟩ := u
  have hP : va_P D vwCl (List.flatten (wM aM C ms_28 mw_29 ma ml)) H := hP
  have hD : va_D A (List.flatten (wM aM C ms_28 mw_29 ma ml)) := hD
  try dsimp only at h
  obtain ⟨kk_31, hkk_31⟩ : ∃ z : Nat, x27.toNatClampNeg = z := ⟨_, rfl⟩
  rw [hkk_31] at h
  refine cIast hx hb hK hP hD hS 14 0 rfl rfl kk_31 hkk_31 h.1 dX12_bikeLine_28 (fun H locs hP hD hS => ?_)
  have h := h.2
  refine lv_aload_n hx hb dX12_bikeLine_29 rfl (lv_at hl 1 rfl) ?_
  refine va_get (D := D) (ci := 12) (v := .ref (aM 14)) (C := RX12) (T := TX12) (N := 51) hx hb hw inW_X12 hown hK hP 0 rfl rfl 24 (by decide) (hw _ mw_6_67) (fun _ h9 => h9) rfl dX12_bikeLine_30 ?_
  refine lv_iload_n hx hb dX12_bikeLine_33 rfl (lv_at hl 0 rfl) ?_
  refine lv_iconst (v := 1) hx hb dX12_bikeLine_34 (by decide) ?_
  refine lv_iadd hx hb dX12_bikeLine_35 ?_
  refine lv_aload_n hx hb dX12_bikeLine_36 rfl (lv_at hl 1 rfl) ?_
  refine lv_ldc2 (v := 10199809) hx hb hown (hw _ mw_7_94) dX12_bikeLine_37 ?_
  refine lv_iconst (v := 0) hx hb dX12_bikeLine_40 (by decide) ?_
  refine lv_sipush (v := 9999) hx hb dX12_bikeLine_41 (by decide) ?_
  have hP : va_P D vwCl (List.flatten (wM aM C ms_28 mw_29 (va_up ma 11 (upd (ma 11) kk_31 r30)) ml)) H := hP
  have hD : va_D A (List.flatten (wM aM C ms_28 mw_29 (va_up ma 11 (upd (ma 11) kk_31 r30)) ml)) := hD
  refine cGoAI (cRunAV (As := [.long 10199809, .int 0, .int 9999]) (rest := [.int (x27 + 1), .ref (aM 14)]) ⟨hx, hb, hml, hown, hw⟩ hK hN hP hD (k_X12_number_ l D C _ aM  ms_28 mw_29 (va_up ma 11 (upd (ma 11) kk_31 r30)) ml 10199809 0 9999 h) (cwV 3 hw (goodV mw_7_46 mw_7_48 mw_s119 mw_1_13 mw_7_49) rfl rfl rfl (by decide +kernel) ⟨Nat.le_of_ble_eq_true rfl, Nat.le_of_ble_eq_true rfl⟩) rfl rfl rfl hl.1 rfl (Nat.le_of_ble_eq_true rfl) dX12_bikeLine_44 ⟨Nat.zero_le _, Nat.zero_le _⟩) hP hD hS hA (fun r34 u H locs h hP hD hS => ?_)
  obtain ⟨ms_32, mw_33⟩ := u
  have hP : va_P D vwCl (List.flatten (wM aM C ms_32 mw_33 (va_up ma 11 (upd (ma 11) kk_31 r30)) ml)) H := hP
  have hD : va_D A (List.flatten (wM aM C ms_32 mw_33 (va_up ma 11 (upd (ma 11) kk_31 r30)) ml)) := hD
  try dsimp only at h
  obtain ⟨kk_35, hkk_35⟩ : ∃ z : Nat, (x27 + 1).toNatClampNeg = z := ⟨_, rfl⟩
  rw [hkk_35] at h
  refine cIast hx hb hK hP hD hS 14 0 rfl rfl kk_35 hkk_35 h.1 dX12_bikeLine_47 (fun H locs hP hD hS => ?_)
  have h := h.2
  refine lv_aload_n hx hb dX12_bikeLine_48 rfl (lv_at hl 1 rfl) ?_
  refine lv_ldc2 (v := 47) hx hb hown (hw _ mw_7_82) dX12_bikeLine_49 ?_
  have hP : va_P D vwCl (List.flatten (wM aM C ms_32 mw_33 (va_up ma 11 (upd (upd (ma 11) kk_31 r30) kk_35 r34)) ml)) H := hP
  have hD : va_D A (List.flatten (wM aM C ms_32 mw_33 (va_up ma 11 (upd (upd (ma 11) kk_31 r30) kk_35 r34)) ml)) := hD
  refine cGoAV (cRunAV (As := [.long 47]) (rest := []) ⟨hx, hb, hml, hown, hw⟩ hK hN hP hD (k_X12_asks l D C _ aM  ms_32 mw_33 (va_up ma 11 (upd (upd (ma 11) kk_31 r30) kk_35 r34)) ml 47 h) (cwV 1 hw (goodV mw_7_29 mw_7_31 mw_s115 mw_1_13 mw_7_32) rfl rfl rfl (by decide +kernel) ⟨Nat.le_of_ble_eq_true rfl, Nat.le_of_ble_eq_true rfl⟩) rfl rfl rfl hl.1 rfl (Nat.le_of_ble_eq_true rfl) dX12_bikeLine_52 ⟨Nat.zero_le _, Nat.zero_le _⟩) hP hD hS hA (fun u H locs h hP hD hS => ?_)
  obtain ⟨ms_36, mw_37⟩ := u
  have hP : va_P D vwCl (List.flatten (wM aM C ms_36 mw_37 (va_up ma 11 (upd (upd (ma 11) kk_31 r30) kk_35 r34)) ml)) H := hP
  have hD : va_D A (List.flatten (wM aM C ms_36 mw_37 (va_up ma 11 (upd (upd (ma 11) kk_31 r30) kk_35 r34)) ml)) := hD
  refine lv_iconst (v := 0) hx hb dX12_bikeLine_55 (by decide) ?_
  refine lv_istore_n (lv' := [(2, .int 0), (1, .int x27), (0, .ref (aM 0))]) hx hb dX12_bikeLine_56 rfl hl (by decide) rfl (fun ls hl => ?_)
  refine lv_iconst (v := 0) hx hb dX12_bikeLine_57 (by decide) ?_
  refine lv_istore_n (lv' := [(3, .int 0), (2, .int 0), (1, .int x27), (0, .ref (aM 0))]) hx hb dX12_bikeLine_58 rfl hl (by decide) rfl (fun ls hl => ?_)
  obtain ⟨n, h⟩ := h
  exact N59 x27 ms_36 mw_37 (va_up ma 11 (upd (upd (ma 11) kk_31 r30) kk_35 r34)) n 0 0 _ _ _ h hP hD hS (lv_sub hl [3, 2, 1, 0] rfl)
abbrev vsX12_thiefLine : List Cond := Cond.code yX12_thiefLine cX12_thiefLine 3 none :: WS
abbrev rmX12_thiefLine : Room := { frames := 5, cells := 0, slots := 0, locals := 112 }
set_option maxHeartbeats 4000000 in
set_option maxRecDepth 100000 in
theorem k_X12_thiefLine (l : Launch) (D : va_G) (C : Nat → ClassId) (sz : Nat) (aM : Nat → Nat)  (ms : Nat → Int32) (mw : Nat → Int64) (ma : Nat → Nat → Int32) (ml : Nat → Nat → Int64)  {post : (Nat → Int32) → (Nat → Int64) → (Nat → Nat → Int32) → Prop} (h : P_X12_thiefLine ms mw ma post) : Met l yX12_thiefLine vsX12_thiefLine rmX12_thiefLine (cPre D C [.ref (aM 0)] sz (wM aM C ms mw ma ml)) (cQv D (fun (u : (Nat → Int32) × (Nat → Int64) × (Nat → Nat → Int32)) => post u.1 u.2.1 u.2.2) (fun u => wM aM C u.1 u.2.1 u.2.2 ml) (va_A (List.flatten (wM aM C ms mw ma ml)) sz)) 0 0 (va_A (List.flatten (wM aM C ms mw ma ml)) sz) := by
  refine cStart (QA := fun A => cQv D (fun (u : (Nat → Int32) × (Nat → Int64) × (Nat → Nat → Int32)) => post u.1 u.2.1 u.2.2) (fun u => wM aM C u.1 u.2.1 u.2.2 ml) A) (cc := cX12_thiefLine) (maxL := 3) (ret := none) (by decide) (Nat.le_of_ble_eq_true rfl) ?_
  intro p e s m args below meth c A ls hx hb hr hml hown hw hlocks hname hK hN hA hP hD hS hl
  generalize hQ : MQ below _ args s 0 0 A = Q
  have hl : lv_has ls 3 [(0, .ref (aM 0))] := hl
  obtain ⟨H, hH⟩ : ∃ H, H = s.heap := ⟨_, rfl⟩
  obtain ⟨locs, hlo⟩ : ∃ z : List Loc, z = [] := ⟨_, rfl⟩
  have hP : va_P D vwCl (List.flatten (wM aM C ms mw ma ml)) H := by rw [hH]; exact hP
  have hS : va_S A s.heap H locs := by rw [hH, hlo]; exact hS
  rw [show W p l e rmX12_thiefLine s m args below meth c s.heap [] 0 0 Q (F0 m 0 ls []) = W p l e rmX12_thiefLine s m args below meth c H locs 0 0 Q (F0 m 0 ls []) from by rw [hH, hlo]]
  have N128 : ∀ (x1_ : Int32) (x2_ : Int32) (ms : Nat → Int32) (mw : Nat → Int64) (ma : Nat → Nat → Int32) (H : Heap) (locs : List Loc) (ls : Array Slot), P_X12_thiefLine_128  post  x1_ x2_ ms mw ma → va_P D vwCl (List.flatten (wM aM C ms mw ma ml)) H → va_D A (List.flatten (wM aM C ms mw ma ml)) → va_S A s.heap H locs → lv_has ls 3 [(0, .ref (aM 0)), (1, .int x1_), (2, .int x2_)] → W p l e rmX12_thiefLine s m args below meth c H locs 0 0 Q (F0 m 128 ls []) := by
    intro x1_ x2_ ms mw ma H locs ls h hP hD hS hl
    unfold P_X12_thiefLine_128 at h
    refine lv_aload_n hx hb dX12_thiefLine_128 rfl (lv_at hl 0 rfl) ?_
    refine va_get (D := D) (ci := 12) (v := .ref (aM 16)) (C := RX12) (T := TX12) (N := 51) hx hb hw inW_X12 hown hK hP 0 rfl rfl 26 (by decide) (hw _ mw_6_69) (fun _ h9 => h9) rfl dX12_thiefLine_129 ?_
    refine lv_iload_n hx hb dX12_thiefLine_132 rfl (lv_at hl 1 rfl) ?_
    refine lv_iconst (v := 3) hx hb dX12_thiefLine_133 (by decide) ?_
    refine lv_iadd hx hb dX12_thiefLine_134 ?_
    refine lv_iload_n hx hb dX12_thiefLine_135 rfl (lv_at hl 2 rfl) ?_
    try dsimp only at h
    obtain ⟨kk_1, hkk_1⟩ : ∃ z : Nat, (x1_ + 3).toNatClampNeg = z := ⟨_, rfl⟩
    rw [hkk_1] at h
    refine cIast hx hb hK hP hD hS 16 0 rfl rfl kk_1 hkk_1 h.1 dX12_thiefLine_136 (fun H locs hP hD hS => ?_)
    have h := h.2
    refine lv_aload_n hx hb dX12_thiefLine_137 rfl (lv_at hl 0 rfl) ?_
    refine va_get (D := D) (ci := 12) (v := .ref (aM 16)) (C := RX12) (T := TX12) (N := 51) hx hb hw inW_X12 hown hK hP 0 rfl rfl 26 (by decide) (hw _ mw_6_69) (fun _ h9 => h9) rfl dX12_thiefLine_138 ?_
    refine lv_iload_n hx hb dX12_thiefLine_141 rfl (lv_at hl 1 rfl) ?_
    refine lv_iconst (v := 4) hx hb dX12_thiefLine_142 (by decide) ?_
    refine lv_iadd hx hb dX12_thiefLine_143 ?_
    refine lv_iload_n hx hb dX12_thiefLine_144 rfl (lv_at hl 2 rfl) ?_
    refine lv_iconst (v := 2) hx hb dX12_thiefLine_145 (by decide) ?_
    refine lv_icmp_ne (tgt := 165) hx hb dX12_thiefLine_146 (by decide) (fun c2 => ?_) (fun c2 => ?_)
    · have h := h.1 c2
      refine lv_iconst (v := (-1)) hx hb dX12_thiefLine_165 (by decide) ?_
      try dsimp only at h
      obtain ⟨kk_3, hkk_3⟩ : ∃ z : Nat, (x1_ + 4).toNatClampNeg = z := ⟨_, rfl⟩
      rw [hkk_3] at h
      refine cIast hx hb hK hP hD hS 16 0 rfl rfl kk_3 hkk_3 h.1 dX12_thiefLine_166 (fun H locs hP hD hS => ?_)
      have h := h.2
      refine lv_aload_n hx hb dX12_thiefLine_167 rfl (lv_at hl 0 rfl) ?_
      refine va_get (D := D) (ci := 12) (v := .ref (aM 15)) (C := RX12) (T := TX12) (N := 51) hx hb hw inW_X12 hown hK hP 0 rfl rfl 25 (by decide) (hw _ mw_6_68) (fun _ h9 => h9) rfl dX12_thiefLine_168 ?_
      refine lv_iconst (v := 4) hx hb dX12_thiefLine_171 (by decide) ?_
      refine lv_dup2_11 hx hb dX12_thiefLine_172 rfl rfl ?_
      refine cIald hx hb hK hP 15 0 rfl rfl 4 (by decide +kernel) (cIn (by decide +kernel)) dX12_thiefLine_173 ?_
      refine lv_iconst (v := 1) hx hb dX12_thiefLine_174 (by decide) ?_
      refine lv_iadd hx hb dX12_thiefLine_175 ?_
      refine cIast hx hb hK hP hD hS 15 0 rfl rfl 4 (by decide +kernel) (cIn (by decide +kernel)) dX12_thiefLine_176 (fun H locs hP hD hS => ?_)
      have hP : va_P D vwCl (List.flatten (wM aM C ms mw (va_up (va_up ma 12 (upd (ma 12) 4 ((ma 12 4) + 1))) 13 (upd (upd (ma 13) kk_1 x2_) kk_3 (-1))) ml)) H := hP
      have hD : va_D A (List.flatten (wM aM C ms mw (va_up (va_up ma 12 (upd (ma 12) 4 ((ma 12 4) + 1))) 13 (upd (upd (ma 13) kk_1 x2_) kk_3 (-1))) ml)) := hD
      rw [← hQ]
      exact cRetV (ms, mw, (va_up (va_up ma 12 (upd (ma 12) 4 ((ma 12 4) + 1))) 13 (upd (upd (ma 13) kk_1 x2_) kk_3 (-1)))) hx hb hr hlocks hS hP hD h dX12_thiefLine_177
    · have h := h.2 c2
      refine lv_aload_n hx hb dX12_thiefLine_149 rfl (lv_at hl 0 rfl) ?_
      refine lv_iconst (v := 0) hx hb dX12_thiefLine_150 (by decide) ?_
      refine lv_aload_n hx hb dX12_thiefLine_151 rfl (lv_at hl 0 rfl) ?_
      refine va_get (D := D) (ci := 12) (v := .ref (aM 13)) (C := RX12) (T := TX12) (N := 51) hx hb hw inW_X12 hown hK hP 0 rfl rfl 23 (by decide) (hw _ mw_6_66) (fun _ h9 => h9) rfl dX12_thiefLine_152 ?_
      refine lv_iconst (v := 4) hx hb dX12_thiefLine_155 (by decide) ?_
      refine cIald hx hb hK hP 13 0 rfl rfl 4 (by decide +kernel) (cIn (by decide +kernel)) dX12_thiefLine_156 ?_
      refine lv_iconst (v := 1) hx hb dX12_thiefLine_157 (by decide) ?_
      refine lv_isub hx hb dX12_thiefLine_158 ?_
      have hP : va_P D vwCl (List.flatten (wM aM C ms mw (va_up ma 13 (upd (ma 13) kk_1 x2_)) ml)) H := hP
      have hD : va_D A (List.flatten (wM aM C ms mw (va_up ma 13 (upd (ma 13) kk_1 x2_)) ml)) := hD
      refine cGoAI (cRunAV (As := [.int 0, .int ((ma 10 4) - 1)]) (rest := [.int (x1_ + 4), .ref (aM 16)]) ⟨hx, hb, hml, hown, hw⟩ hK hN hP hD (k_X12_number l D C _ aM  ms mw (va_up ma 13 (upd (ma 13) kk_1 x2_)) ml 0 ((ma 10 4) - 1) h) (cwV 2 hw (goodV mw_7_50 mw_7_52 mw_s120 mw_1_13 mw_7_53) rfl rfl rfl (by decide +kernel) ⟨Nat.le_of_ble_eq_true rfl, Nat.le_of_ble_eq_true rfl⟩) rfl rfl rfl hl.1 rfl (Nat.le_of_ble_eq_true rfl) dX12_thiefLine_159 ⟨Nat.zero_le _, Nat.zero_le _⟩) hP hD hS hA (fun r6 u H locs h hP hD hS => ?_)
      obtain ⟨ms_4, mw_5⟩ := u
      have hP : va_P D vwCl (List.flatten (wM aM C ms_4 mw_5 (va_up ma 13 (upd (ma 13) kk_1 x2_)) ml)) H := hP
      have hD : va_D A (List.flatten (wM aM C ms_4 mw_5 (va_up ma 13 (upd (ma 13) kk_1 x2_)) ml)) := hD
      refine lv_goto (tgt := 166) hx hb dX12_thiefLine_162 (by decide) ?_
      try dsimp only at h
      obtain ⟨kk_7, hkk_7⟩ : ∃ z : Nat, (x1_ + 4).toNatClampNeg = z := ⟨_, rfl⟩
      rw [hkk_7] at h
      refine cIast hx hb hK hP hD hS 16 0 rfl rfl kk_7 hkk_7 h.1 dX12_thiefLine_166 (fun H locs hP hD hS => ?_)
      have h := h.2
      refine lv_aload_n hx hb dX12_thiefLine_167 rfl (lv_at hl 0 rfl) ?_
      refine va_get (D := D) (ci := 12) (v := .ref (aM 15)) (C := RX12) (T := TX12) (N := 51) hx hb hw inW_X12 hown hK hP 0 rfl rfl 25 (by decide) (hw _ mw_6_68) (fun _ h9 => h9) rfl dX12_thiefLine_168 ?_
      refine lv_iconst (v := 4) hx hb dX12_thiefLine_171 (by decide) ?_
      refine lv_dup2_11 hx hb dX12_thiefLine_172 rfl rfl ?_
      refine cIald hx hb hK hP 15 0 rfl rfl 4 (by decide +kernel) (cIn (by decide +kernel)) dX12_thiefLine_173 ?_
      refine lv_iconst (v := 1) hx hb dX12_thiefLine_174 (by decide) ?_
      refine lv_iadd hx hb dX12_thiefLine_175 ?_
      refine cIast hx hb hK hP hD hS 15 0 rfl rfl 4 (by decide +kernel) (cIn (by decide +kernel)) dX12_thiefLine_176 (fun H locs hP hD hS => ?_)
      have hP : va_P D vwCl (List.flatten (wM aM C ms_4 mw_5 (va_up (va_up ma 12 (upd (ma 12) 4 ((ma 12 4) + 1))) 13 (upd (upd (ma 13) kk_1 x2_) kk_7 r6)) ml)) H := hP
      have hD : va_D A (List.flatten (wM aM C ms_4 mw_5 (va_up (va_up ma 12 (upd (ma 12) 4 ((ma 12 4) + 1))) 13 (upd (upd (ma 13) kk_1 x2_) kk_7 r6)) ml)) := hD
      rw [← hQ]
      exact cRetV (ms_4, mw_5, (va_up (va_up ma 12 (upd (ma 12) 4 ((ma 12 4) + 1))) 13 (upd (upd (ma 13) kk_1 x2_) kk_7 r6))) hx hb hr hlocks hS hP hD h dX12_thiefLine_177
  have N117 : ∀ (x1_ : Int32) (x2_ : Int32) (ms : Nat → Int32) (mw : Nat → Int64) (ma : Nat → Nat → Int32) (H : Heap) (locs : List Loc) (ls : Array Slot), P_X12_thiefLine_117  post  x1_ x2_ ms mw ma → va_P D vwCl (List.flatten (wM aM C ms mw ma ml)) H → va_D A (List.flatten (wM aM C ms mw ma ml)) → va_S A s.heap H locs → lv_has ls 3 [(0, .ref (aM 0)), (1, .int x1_), (2, .int x2_)] → W p l e rmX12_thiefLine s m args below meth c H locs 0 0 Q (F0 m 117 ls []) := by
    intro x1_ x2_ ms mw ma H locs ls h hP hD hS hl
    unfold P_X12_thiefLine_117 at h
    refine lv_aload_n hx hb dX12_thiefLine_117 rfl (lv_at hl 0 rfl) ?_
    refine va_get (D := D) (ci := 12) (v := .int (ms 6)) (C := RX12) (T := TX12) (N := 51) hx hb hw inW_X12 hown hK hP 0 rfl rfl 12 (by decide) (hw _ mw_6_55) (fun _ h9 => h9) rfl dX12_thiefLine_118 ?_
    refine lv_if_ne (tgt := 128) hx hb dX12_thiefLine_121 (by decide) (fun c8 => ?_) (fun c8 => ?_)
    · have h := h.1 c8
      exact N128 x1_ x2_ ms mw ma _ _ _ h hP hD hS (lv_sub hl [0, 1, 2] rfl)
    · have h := h.2 c8
      refine lv_aload_n hx hb dX12_thiefLine_124 rfl (lv_at hl 0 rfl) ?_
      refine cGoAV (cRunAV (As := []) (rest := []) ⟨hx, hb, hml, hown, hw⟩ hK hN hP hD (k_X12_next l D C _ aM  ms mw ma ml  h) (cwV 0 hw (goodV mw_7_7 mw_7_9 mw_s111 mw_1_13 mw_7_10) rfl rfl rfl (by decide +kernel) ⟨Nat.le_of_ble_eq_true rfl, Nat.le_of_ble_eq_true rfl⟩) rfl rfl rfl hl.1 rfl (Nat.le_of_ble_eq_true rfl) dX12_thiefLine_125 ⟨Nat.zero_le _, Nat.zero_le _⟩) hP hD hS hA (fun u H locs h hP hD hS => ?_)
      obtain ⟨ms_9, mw_10⟩ := u
      have hP : va_P D vwCl (List.flatten (wM aM C ms_9 mw_10 ma ml)) H := hP
      have hD : va_D A (List.flatten (wM aM C ms_9 mw_10 ma ml)) := hD
      exact N128 x1_ x2_ ms_9 mw_10 ma _ _ _ h hP hD hS (lv_sub hl [0, 1, 2] rfl)
  have N106 : ∀ (x1_ : Int32) (k0_ : Int32) (ms : Nat → Int32) (mw : Nat → Int64) (ma : Nat → Nat → Int32) (H : Heap) (locs : List Loc) (ls : Array Slot), P_X12_thiefLine_106  post  x1_ k0_ ms mw ma → va_P D vwCl (List.flatten (wM aM C ms mw ma ml)) H → va_D A (List.flatten (wM aM C ms mw ma ml)) → va_S A s.heap H locs → lv_has ls 3 [(0, .ref (aM 0)), (1, .int x1_)] → W p l e rmX12_thiefLine s m args below meth c H locs 0 0 Q (F0 m 106 ls [.int k0_]) := by
    intro x1_ k0_ ms mw ma H locs ls h hP hD hS hl
    unfold P_X12_thiefLine_106 at h
    refine lv_istore_n (lv' := [(2, .int k0_), (0, .ref (aM 0)), (1, .int x1_)]) hx hb dX12_thiefLine_106 rfl hl (by decide) rfl (fun ls hl => ?_)
    refine lv_iload_n hx hb dX12_thiefLine_107 rfl (lv_at hl 0 rfl) ?_
    refine lv_iconst (v := (-1)) hx hb dX12_thiefLine_108 (by decide) ?_
    refine lv_icmp_ne (tgt := 117) hx hb dX12_thiefLine_109 (by decide) (fun c11 => ?_) (fun c11 => ?_)
    · have h := h.1 c11
      exact N117 x1_ k0_ ms mw ma _ _ _ h hP hD hS (lv_sub hl [1, 2, 0] rfl)
    · have h := h.2 c11
      refine lv_aload_n hx hb dX12_thiefLine_112 rfl (lv_at hl 1 rfl) ?_
      refine lv_iconst (v := 1) hx hb dX12_thiefLine_113 (by decide) ?_
      refine cGoAV (cRunAV (As := [.int 1]) (rest := []) ⟨hx, hb, hml, hown, hw⟩ hK hN hP hD (k_X12_fails l D C _ aM  ms mw ma ml 1 h) (cwV 1 hw (goodV mw_7_41 mw_7_43 mw_s118 mw_1_13 mw_7_44) rfl rfl rfl (by decide +kernel) ⟨Nat.le_of_ble_eq_true rfl, Nat.le_of_ble_eq_true rfl⟩) rfl rfl rfl hl.1 rfl (Nat.le_of_ble_eq_true rfl) dX12_thiefLine_114 ⟨Nat.zero_le _, Nat.zero_le _⟩) hP hD hS hA (fun ms_12 H locs h hP hD hS => ?_)
      have hP : va_P D vwCl (List.flatten (wM aM C ms_12 mw ma ml)) H := hP
      have hD : va_D A (List.flatten (wM aM C ms_12 mw ma ml)) := hD
      exact N117 x1_ k0_ ms_12 mw ma _ _ _ h hP hD hS (lv_sub hl [1, 2, 0] rfl)
  unfold P_X12_thiefLine at h
  refine lv_iconst (v := 5) hx hb dX12_thiefLine_0 (by decide) ?_
  refine lv_bipush (v := 24) hx hb dX12_thiefLine_1 (by decide) ?_
  refine lv_aload_n hx hb dX12_thiefLine_3 rfl (lv_at hl 0 rfl) ?_
  refine va_get (D := D) (ci := 12) (v := .ref (aM 15)) (C := RX12) (T := TX12) (N := 51) hx hb hw inW_X12 hown hK hP 0 rfl rfl 25 (by decide) (hw _ mw_6_68) (fun _ h9 => h9) rfl dX12_thiefLine_4 ?_
  refine lv_iconst (v := 4) hx hb dX12_thiefLine_7 (by decide) ?_
  refine cIald hx hb hK hP 15 0 rfl rfl 4 (by decide +kernel) (cIn (by decide +kernel)) dX12_thiefLine_8 ?_
  refine lv_iadd hx hb dX12_thiefLine_9 ?_
  refine lv_imul hx hb dX12_thiefLine_10 ?_
  refine lv_topi (fun x13 ex13 => ?_)
  have h := h x13 ex13
  refine lv_istore_n (lv' := [(1, .int x13), (0, .ref (aM 0))]) hx hb dX12_thiefLine_11 rfl hl (by decide) rfl (fun ls hl => ?_)
  refine lv_aload_n hx hb dX12_thiefLine_12 rfl (lv_at hl 1 rfl) ?_
  refine va_get (D := D) (ci := 12) (v := .ref (aM 16)) (C := RX12) (T := TX12) (N := 51) hx hb hw inW_X12 hown hK hP 0 rfl rfl 26 (by decide) (hw _ mw_6_69) (fun _ h9 => h9) rfl dX12_thiefLine_13 ?_
  refine lv_iload_n hx hb dX12_thiefLine_16 rfl (lv_at hl 0 rfl) ?_
  refine lv_aload_n hx hb dX12_thiefLine_17 rfl (lv_at hl 1 rfl) ?_
  refine lv_ldc2 (v := 405012) hx hb hown (hw _ mw_7_100) dX12_thiefLine_18 ?_
  refine lv_iconst (v := 0) hx hb dX12_thiefLine_21 (by decide) ?_
  refine lv_iconst (v := 2) hx hb dX12_thiefLine_22 (by decide) ?_
  refine cGoAI (cRunAV (As := [.long 405012, .int 0, .int 2]) (rest := [.int x13, .ref (aM 16)]) ⟨hx, hb, hml, hown, hw⟩ hK hN hP hD (k_X12_number_ l D C _ aM  ms mw ma ml 405012 0 2 h) (cwV 3 hw (goodV mw_7_46 mw_7_48 mw_s119 mw_1_13 mw_7_49) rfl rfl rfl (by decide +kernel) ⟨Nat.le_of_ble_eq_true rfl, Nat.le_of_ble_eq_true rfl⟩) rfl rfl rfl hl.1 rfl (Nat.le_of_ble_eq_true rfl) dX12_thiefLine_23 ⟨Nat.zero_le _, Nat.zero_le _⟩) hP hD hS hA (fun r16 u H locs h hP hD hS => ?_)
  obtain ⟨ms_14, mw_15⟩ := u
  have hP : va_P D vwCl (List.flatten (wM aM C ms_14 mw_15 ma ml)) H := hP
  have hD : va_D A (List.flatten (wM aM C ms_14 mw_15 ma ml)) := hD
  try dsimp only at h
  obtain ⟨kk_17, hkk_17⟩ : ∃ z : Nat, x13.toNatClampNeg = z := ⟨_, rfl⟩
  rw [hkk_17] at h
  refine cIast hx hb hK hP hD hS 16 0 rfl rfl kk_17 hkk_17 h.1 dX12_thiefLine_26 (fun H locs hP hD hS => ?_)
  have h := h.2
  refine lv_aload_n hx hb dX12_thiefLine_27 rfl (lv_at hl 1 rfl) ?_
  refine va_get (D := D) (ci := 12) (v := .ref (aM 16)) (C := RX12) (T := TX12) (N := 51) hx hb hw inW_X12 hown hK hP 0 rfl rfl 26 (by decide) (hw _ mw_6_69) (fun _ h9 => h9) rfl dX12_thiefLine_28 ?_
  refine lv_iload_n hx hb dX12_thiefLine_31 rfl (lv_at hl 0 rfl) ?_
  refine lv_iconst (v := 1) hx hb dX12_thiefLine_32 (by decide) ?_
  refine lv_iadd hx hb dX12_thiefLine_33 ?_
  refine lv_aload_n hx hb dX12_thiefLine_34 rfl (lv_at hl 1 rfl) ?_
  refine lv_ldc2 (v := 1899199) hx hb hown (hw _ mw_7_101) dX12_thiefLine_35 ?_
  refine lv_iconst (v := 0) hx hb dX12_thiefLine_38 (by decide) ?_
  refine lv_bipush (v := 100) hx hb dX12_thiefLine_39 (by decide) ?_
  have hP : va_P D vwCl (List.flatten (wM aM C ms_14 mw_15 (va_up ma 13 (upd (ma 13) kk_17 r16)) ml)) H := hP
  have hD : va_D A (List.flatten (wM aM C ms_14 mw_15 (va_up ma 13 (upd (ma 13) kk_17 r16)) ml)) := hD
  refine cGoAI (cRunAV (As := [.long 1899199, .int 0, .int 100]) (rest := [.int (x13 + 1), .ref (aM 16)]) ⟨hx, hb, hml, hown, hw⟩ hK hN hP hD (k_X12_number_ l D C _ aM  ms_14 mw_15 (va_up ma 13 (upd (ma 13) kk_17 r16)) ml 1899199 0 100 h) (cwV 3 hw (goodV mw_7_46 mw_7_48 mw_s119 mw_1_13 mw_7_49) rfl rfl rfl (by decide +kernel) ⟨Nat.le_of_ble_eq_true rfl, Nat.le_of_ble_eq_true rfl⟩) rfl rfl rfl hl.1 rfl (Nat.le_of_ble_eq_true rfl) dX12_thiefLine_41 ⟨Nat.zero_le _, Nat.zero_le _⟩) hP hD hS hA (fun r20 u H locs h hP hD hS => ?_)
  obtain ⟨ms_18, mw_19⟩ := u
  have hP : va_P D vwCl (List.flatten (wM aM C ms_18 mw_19 (va_up ma 13 (upd (ma 13) kk_17 r16)) ml)) H := hP
  have hD : va_D A (List.flatten (wM aM C ms_18 mw_19 (va_up ma 13 (upd (ma 13) kk_17 r16)) ml)) := hD
  try dsimp only at h
  obtain ⟨kk_21, hkk_21⟩ : ∃ z : Nat, (x13 + 1).toNatClampNeg = z := ⟨_, rfl⟩
  rw [hkk_21] at h
  refine cIast hx hb hK hP hD hS 16 0 rfl rfl kk_21 hkk_21 h.1 dX12_thiefLine_44 (fun H locs hP hD hS => ?_)
  have h := h.2
  refine lv_aload_n hx hb dX12_thiefLine_45 rfl (lv_at hl 1 rfl) ?_
  refine va_get (D := D) (ci := 12) (v := .ref (aM 16)) (C := RX12) (T := TX12) (N := 51) hx hb hw inW_X12 hown hK hP 0 rfl rfl 26 (by decide) (hw _ mw_6_69) (fun _ h9 => h9) rfl dX12_thiefLine_46 ?_
  refine lv_iload_n hx hb dX12_thiefLine_49 rfl (lv_at hl 0 rfl) ?_
  refine lv_iconst (v := 2) hx hb dX12_thiefLine_50 (by decide) ?_
  refine lv_iadd hx hb dX12_thiefLine_51 ?_
  refine lv_aload_n hx hb dX12_thiefLine_52 rfl (lv_at hl 1 rfl) ?_
  refine lv_ldc2 (v := 3288295) hx hb hown (hw _ mw_7_102) dX12_thiefLine_53 ?_
  refine lv_iconst (v := 0) hx hb dX12_thiefLine_56 (by decide) ?_
  refine lv_bipush (v := 99) hx hb dX12_thiefLine_57 (by decide) ?_
  have hP : va_P D vwCl (List.flatten (wM aM C ms_18 mw_19 (va_up ma 13 (upd (upd (ma 13) kk_17 r16) kk_21 r20)) ml)) H := hP
  have hD : va_D A (List.flatten (wM aM C ms_18 mw_19 (va_up ma 13 (upd (upd (ma 13) kk_17 r16) kk_21 r20)) ml)) := hD
  refine cGoAI (cRunAV (As := [.long 3288295, .int 0, .int 99]) (rest := [.int (x13 + 2), .ref (aM 16)]) ⟨hx, hb, hml, hown, hw⟩ hK hN hP hD (k_X12_number_ l D C _ aM  ms_18 mw_19 (va_up ma 13 (upd (upd (ma 13) kk_17 r16) kk_21 r20)) ml 3288295 0 99 h) (cwV 3 hw (goodV mw_7_46 mw_7_48 mw_s119 mw_1_13 mw_7_49) rfl rfl rfl (by decide +kernel) ⟨Nat.le_of_ble_eq_true rfl, Nat.le_of_ble_eq_true rfl⟩) rfl rfl rfl hl.1 rfl (Nat.le_of_ble_eq_true rfl) dX12_thiefLine_59 ⟨Nat.zero_le _, Nat.zero_le _⟩) hP hD hS hA (fun r24 u H locs h hP hD hS => ?_)
  obtain ⟨ms_22, mw_23⟩ := u
  have hP : va_P D vwCl (List.flatten (wM aM C ms_22 mw_23 (va_up ma 13 (upd (upd (ma 13) kk_17 r16) kk_21 r20)) ml)) H := hP
  have hD : va_D A (List.flatten (wM aM C ms_22 mw_23 (va_up ma 13 (upd (upd (ma 13) kk_17 r16) kk_21 r20)) ml)) := hD
  try dsimp only at h
  obtain ⟨kk_25, hkk_25⟩ : ∃ z : Nat, (x13 + 2).toNatClampNeg = z := ⟨_, rfl⟩
  rw [hkk_25] at h
  refine cIast hx hb hK hP hD hS 16 0 rfl rfl kk_25 hkk_25 h.1 dX12_thiefLine_62 (fun H locs hP hD hS => ?_)
  have h := h.2
  refine lv_aload_n hx hb dX12_thiefLine_63 rfl (lv_at hl 1 rfl) ?_
  refine lv_ldc2 (v := 43544) hx hb hown (hw _ mw_7_103) dX12_thiefLine_64 ?_
  have hP : va_P D vwCl (List.flatten (wM aM C ms_22 mw_23 (va_up ma 13 (upd (upd (upd (ma 13) kk_17 r16) kk_21 r20) kk_25 r24)) ml)) H := hP
  have hD : va_D A (List.flatten (wM aM C ms_22 mw_23 (va_up ma 13 (upd (upd (upd (ma 13) kk_17 r16) kk_21 r20) kk_25 r24)) ml)) := hD
  refine cGoAI (cRunAV (As := [.long 43544]) (rest := []) ⟨hx, hb, hml, hown, hw⟩ hK hN hP hD (k_X12_is l D C _ aM  ms_22 mw_23 (va_up ma 13 (upd (upd (upd (ma 13) kk_17 r16) kk_21 r20) kk_25 r24)) ml 43544 h) (cwV 1 hw (goodV mw_7_37 mw_7_39 mw_s117 mw_1_13 mw_7_40) rfl rfl rfl (by decide +kernel) ⟨Nat.le_of_ble_eq_true rfl, Nat.le_of_ble_eq_true rfl⟩) rfl rfl rfl hl.1 rfl (Nat.le_of_ble_eq_true rfl) dX12_thiefLine_67 ⟨Nat.zero_le _, Nat.zero_le _⟩) hP hD hS hA (fun r26 u H locs h hP hD hS => ?_)
  have hP : va_P D vwCl (List.flatten (wM aM C ms_22 mw_23 (va_up ma 13 (upd (upd (upd (ma 13) kk_17 r16) kk_21 r20) kk_25 r24)) ml)) H := hP
  have hD : va_D A (List.flatten (wM aM C ms_22 mw_23 (va_up ma 13 (upd (upd (upd (ma 13) kk_17 r16) kk_21 r20) kk_25 r24)) ml)) := hD
  refine lv_if_eq (tgt := 77) hx hb dX12_thiefLine_70 (by decide) (fun c27 => ?_) (fun c27 => ?_)
  · have h := h.1 c27
    refine lv_aload_n hx hb dX12_thiefLine_77 rfl (lv_at hl 1 rfl) ?_
    refine lv_ldc2 (v := 1132) hx hb hown (hw _ mw_7_104) dX12_thiefLine_78 ?_
    refine cGoAI (cRunAV (As := [.long 1132]) (rest := []) ⟨hx, hb, hml, hown, hw⟩ hK hN hP hD (k_X12_is l D C _ aM  ms_22 mw_23 (va_up ma 13 (upd (upd (upd (ma 13) kk_17 r16) kk_21 r20) kk_25 r24)) ml 1132 h) (cwV 1 hw (goodV mw_7_37 mw_7_39 mw_s117 mw_1_13 mw_7_40) rfl rfl rfl (by decide +kernel) ⟨Nat.le_of_ble_eq_true rfl, Nat.le_of_ble_eq_true rfl⟩) rfl rfl rfl hl.1 rfl (Nat.le_of_ble_eq_true rfl) dX12_thiefLine_81 ⟨Nat.zero_le _, Nat.zero_le _⟩) hP hD hS hA (fun r28 u H locs h hP hD hS => ?_)
    have hP : va_P D vwCl (List.flatten (wM aM C ms_22 mw_23 (va_up ma 13 (upd (upd (upd (ma 13) kk_17 r16) kk_21 r20) kk_25 r24)) ml)) H := hP
    have hD : va_D A (List.flatten (wM aM C ms_22 mw_23 (va_up ma 13 (upd (upd (upd (ma 13) kk_17 r16) kk_21 r20) kk_25 r24)) ml)) := hD
    refine lv_if_eq (tgt := 91) hx hb dX12_thiefLine_84 (by decide) (fun c29 => ?_) (fun c29 => ?_)
    · have h := h.1 c29
      refine lv_aload_n hx hb dX12_thiefLine_91 rfl (lv_at hl 1 rfl) ?_
      refine lv_ldc2 (v := 212672) hx hb hown (hw _ mw_7_105) dX12_thiefLine_92 ?_
      refine cGoAI (cRunAV (As := [.long 212672]) (rest := []) ⟨hx, hb, hml, hown, hw⟩ hK hN hP hD (k_X12_is l D C _ aM  ms_22 mw_23 (va_up ma 13 (upd (upd (upd (ma 13) kk_17 r16) kk_21 r20) kk_25 r24)) ml 212672 h) (cwV 1 hw (goodV mw_7_37 mw_7_39 mw_s117 mw_1_13 mw_7_40) rfl rfl rfl (by decide +kernel) ⟨Nat.le_of_ble_eq_true rfl, Nat.le_of_ble_eq_true rfl⟩) rfl rfl rfl hl.1 rfl (Nat.le_of_ble_eq_true rfl) dX12_thiefLine_95 ⟨Nat.zero_le _, Nat.zero_le _⟩) hP hD hS hA (fun r30 u H locs h hP hD hS => ?_)
      have hP : va_P D vwCl (List.flatten (wM aM C ms_22 mw_23 (va_up ma 13 (upd (upd (upd (ma 13) kk_17 r16) kk_21 r20) kk_25 r24)) ml)) H := hP
      have hD : va_D A (List.flatten (wM aM C ms_22 mw_23 (va_up ma 13 (upd (upd (upd (ma 13) kk_17 r16) kk_21 r20) kk_25 r24)) ml)) := hD
      refine lv_if_eq (tgt := 105) hx hb dX12_thiefLine_98 (by decide) (fun c31 => ?_) (fun c31 => ?_)
      · have h := h.1 c31
        refine lv_iconst (v := (-1)) hx hb dX12_thiefLine_105 (by decide) ?_
        exact N106 x13 (-1) ms_22 mw_23 (va_up ma 13 (upd (upd (upd (ma 13) kk_17 r16) kk_21 r20) kk_25 r24)) _ _ _ h hP hD hS (lv_sub hl [1, 0] rfl)
      · have h := h.2 c31
        refine lv_iconst (v := 2) hx hb dX12_thiefLine_101 (by decide) ?_
        refine lv_goto (tgt := 106) hx hb dX12_thiefLine_102 (by decide) ?_
        exact N106 x13 2 ms_22 mw_23 (va_up ma 13 (upd (upd (upd (ma 13) kk_17 r16) kk_21 r20) kk_25 r24)) _ _ _ h hP hD hS (lv_sub hl [1, 0] rfl)
    · have h := h.2 c29
      refine lv_iconst (v := 1) hx hb dX12_thiefLine_87 (by decide) ?_
      refine lv_goto (tgt := 106) hx hb dX12_thiefLine_88 (by decide) ?_
      exact N106 x13 1 ms_22 mw_23 (va_up ma 13 (upd (upd (upd (ma 13) kk_17 r16) kk_21 r20) kk_25 r24)) _ _ _ h hP hD hS (lv_sub hl [1, 0] rfl)
  · have h := h.2 c27
    refine lv_iconst (v := 0) hx hb dX12_thiefLine_73 (by decide) ?_
    refine lv_goto (tgt := 106) hx hb dX12_thiefLine_74 (by decide) ?_
    exact N106 x13 0 ms_22 mw_23 (va_up ma 13 (upd (upd (upd (ma 13) kk_17 r16) kk_21 r20) kk_25 r24)) _ _ _ h hP hD hS (lv_sub hl [1, 0] rfl)
