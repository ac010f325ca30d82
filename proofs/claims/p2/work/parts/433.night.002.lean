abbrev vsX3_letTake : List Cond := Cond.code yX3_letTake cX3_letTake 9 none :: WS
abbrev rmX3_letTake : Room := { frames := 1, cells := 0, slots := 0, locals := 26 }
set_option maxHeartbeats 4000000 in
set_option maxRecDepth 100000 in
theorem k_X3_letTake (l : Launch) (D : va_G) (C : Nat → ClassId) (sz : Nat) (n0 : Nat) (aN : Nat → Nat)  (ns : Nat → Int32) (na : Nat → Nat → Int32) (nl : Nat → Nat → Int64) (p1 : Int32) (p2 : Int32) (p3 : Int32) (p4 : Int64) {post : (Nat → Int32) → (Nat → Nat → Int32) → (Nat → Nat → Int64) → Prop} (h : P_X3_letTake ns na nl p1 p2 p3 p4 post) : Met l yX3_letTake vsX3_letTake rmX3_letTake (cPre D C [.ref n0, .int p1, .int p2, .int p3, .long p4] sz (wNight n0 aN C ns na nl)) (cQv D (fun (u : (Nat → Int32) × (Nat → Nat → Int32) × (Nat → Nat → Int64)) => post u.1 u.2.1 u.2.2) (fun u => wNight n0 aN C u.1 u.2.1 u.2.2) (va_A (List.flatten (wNight n0 aN C ns na nl)) sz)) 0 0 (va_A (List.flatten (wNight n0 aN C ns na nl)) sz) := by
  refine cStart (QA := fun A => cQv D (fun (u : (Nat → Int32) × (Nat → Nat → Int32) × (Nat → Nat → Int64)) => post u.1 u.2.1 u.2.2) (fun u => wNight n0 aN C u.1 u.2.1 u.2.2) A) (cc := cX3_letTake) (maxL := 9) (ret := none) (by decide) (Nat.le_of_ble_eq_true rfl) ?_
  intro p e s m args below meth c A ls hx hb hr hml hown hw hlocks hname hK hN hA hP hD hS hl
  generalize hQ : MQ below _ args s 0 0 A = Q
  have hl : lv_has ls 9 [(0, .ref n0), (1, .int p1), (2, .int p2), (3, .int p3), (4, .long p4)] := hl
  obtain ⟨H, hH⟩ : ∃ H, H = s.heap := ⟨_, rfl⟩
  obtain ⟨locs, hlo⟩ : ∃ z : List Loc, z = [] := ⟨_, rfl⟩
  have hP : va_P D vwCl (List.flatten (wNight n0 aN C ns na nl)) H := by rw [hH]; exact hP
  have hS : va_S A s.heap H locs := by rw [hH, hlo]; exact hS
  rw [show W p l e rmX3_letTake s m args below meth c s.heap [] 0 0 Q (F0 m 0 ls []) = W p l e rmX3_letTake s m args below meth c H locs 0 0 Q (F0 m 0 ls []) from by rw [hH, hlo]]
  refine lv_iload_n hx hb dX3_letTake_0 rfl (lv_at hl 1 rfl) ?_
  refine lv_iconst (v := 1) hx hb dX3_letTake_1 (by decide) ?_
  refine lv_iload_n hx hb dX3_letTake_2 rfl (lv_at hl 3 rfl) ?_
  refine lv_ishl hx hb dX3_letTake_3 ?_
  refine lv_ior hx hb dX3_letTake_4 ?_
  refine lv_topi (fun x1 ex1 => ?_)
  have h := h x1 ex1
  refine lv_istore (lv' := [(6, .int x1), (0, .ref n0), (1, .int p1), (2, .int p2), (3, .int p3), (4, .long p4)]) hx hb dX3_letTake_5 hl (by decide) rfl (fun ls hl => ?_)
  refine lv_iload_n hx hb dX3_letTake_7 rfl (lv_at hl 4 rfl) ?_
  refine lv_aload_n hx hb dX3_letTake_8 rfl (lv_at hl 1 rfl) ?_
  refine va_get (D := D) (ci := 3) (v := .int (ns 0)) (C := RX3) (T := TX3) (N := 10) hx hb hw inW_X3 hown hK hP 0 rfl rfl 8 (by decide) (hw _ mw_2_118) (fun _ h9 => h9) rfl dX3_letTake_9 ?_
  refine lv_icmp_ne (tgt := 62) hx hb dX3_letTake_12 (by decide) (fun c2 => ?_) (fun c2 => ?_)
  · have h := h.1 c2
    refine lv_aload_n hx hb dX3_letTake_62 rfl (lv_at hl 1 rfl) ?_
    refine va_get (D := D) (ci := 3) (v := .ref (aN 6)) (C := RX3) (T := TX3) (N := 10) hx hb hw inW_X3 hown hK hP 0 rfl rfl 5 (by decide) (hw _ mw_2_115) (fun _ h9 => h9) rfl dX3_letTake_63 ?_
    refine lv_iload_n hx hb dX3_letTake_66 rfl (lv_at hl 3 rfl) ?_
    refine lv_bipush (v := 10) hx hb dX3_letTake_67 (by decide) ?_
    refine lv_imul hx hb dX3_letTake_69 ?_
    refine lv_iload_n hx hb dX3_letTake_70 rfl (lv_at hl 4 rfl) ?_
    refine lv_iadd hx hb dX3_letTake_71 ?_
    refine lv_dup2_11 hx hb dX3_letTake_72 rfl rfl ?_
    refine cLald hx hb hK hP 6 1 rfl rfl (((p2 * 10) + p3).toNatClampNeg) rfl h.1 dX3_letTake_73 ?_
    have h := h.2
    refine lv_lload hx hb dX3_letTake_74 (lv_at hl 5 rfl) ?_
    refine lv_ladd hx hb dX3_letTake_76 ?_
    refine cLast hx hb hK hP hD hS 6 1 rfl rfl (((p2 * 10) + p3).toNatClampNeg) rfl h.1 dX3_letTake_77 (fun H locs hP hD hS => ?_)
    have h := h.2
    refine lv_aload_n hx hb dX3_letTake_78 rfl (lv_at hl 1 rfl) ?_
    refine va_get (D := D) (ci := 3) (v := .ref (aN 12)) (C := RX3) (T := TX3) (N := 10) hx hb hw inW_X3 hown hK hP 0 rfl rfl 7 (by decide) (hw _ mw_2_117) (fun _ h9 => h9) rfl dX3_letTake_79 ?_
    refine lv_iload hx hb dX3_letTake_82 (lv_at hl 0 rfl) ?_
    refine lv_lload hx hb dX3_letTake_84 (lv_at hl 5 rfl) ?_
    have hP : va_P D vwCl (List.flatten (wNight n0 aN C ns na (va_up nl 0 (vp_updL (nl 0) (((p2 * 10) + p3).toNatClampNeg) ((nl 0 (((p2 * 10) + p3).toNatClampNeg)) + p4))))) H := hP
    have hD : va_D A (List.flatten (wNight n0 aN C ns na (va_up nl 0 (vp_updL (nl 0) (((p2 * 10) + p3).toNatClampNeg) ((nl 0 (((p2 * 10) + p3).toNatClampNeg)) + p4))))) := hD
    refine cGoV (wo := fun u => wNight n0 aN C (va_up ns 3 u.1) (va_up (va_up (va_up na 8 u.2.1) 9 u.2.2.2.1) 10 u.2.2.2.2) (va_up (va_up nl 0 (vp_updL (nl 0) (((p2 * 10) + p3).toNatClampNeg) ((nl 0 (((p2 * 10) + p3).toNatClampNeg)) + p4))) 2 u.2.2.1)) (cRunVN (As := [.int x1, .long p4]) (rest := []) ⟨hx, hb, hml, hown, hw⟩ hK hN hP hD [2] rfl rfl (k_X7_put l D C _ (aN 12) (aN 13) (aN 14) (aN 15) (aN 16)  (ns 3) (na 8) (nl 2) (na 9) (na 10) x1 p4 h) ⟨va_cnB 2 hw (goodN mw_4_37) rfl rfl rfl (hN.m 47 rfl) (hw _ mw_1_12) (by decide +kernel) ⟨Nat.le_of_ble_eq_true rfl, Nat.le_of_ble_eq_true rfl⟩, hw _ mw_4_36, hw _ mw_s51⟩ rfl rfl rfl hl.1 rfl (Nat.le_of_ble_eq_true rfl) dX3_letTake_86 ⟨Nat.zero_le _, Nat.zero_le _⟩) hP hD hS hA [2] [0, 1] [0, 1, 2] rfl rfl rfl (by decide) rfl (fun _ => rfl) (fun u H locs h hP hD hS => ?_)
    obtain ⟨siz_3, sta_4, par_5, slo_6, tab_7⟩ := u
    have hP : va_P D vwCl (List.flatten (wNight n0 aN C (va_up ns 3 siz_3) (va_up (va_up (va_up na 8 sta_4) 9 slo_6) 10 tab_7) (va_up (va_up nl 0 (vp_updL (nl 0) (((p2 * 10) + p3).toNatClampNeg) ((nl 0 (((p2 * 10) + p3).toNatClampNeg)) + p4))) 2 par_5))) H := hP
    have hD : va_D A (List.flatten (wNight n0 aN C (va_up ns 3 siz_3) (va_up (va_up (va_up na 8 sta_4) 9 slo_6) 10 tab_7) (va_up (va_up nl 0 (vp_updL (nl 0) (((p2 * 10) + p3).toNatClampNeg) ((nl 0 (((p2 * 10) + p3).toNatClampNeg)) + p4))) 2 par_5))) := hD
    rw [← hQ]
    exact cRetV ((va_up ns 3 siz_3), (va_up (va_up (va_up na 8 sta_4) 9 slo_6) 10 tab_7), (va_up (va_up nl 0 (vp_updL (nl 0) (((p2 * 10) + p3).toNatClampNeg) ((nl 0 (((p2 * 10) + p3).toNatClampNeg)) + p4))) 2 par_5)) hx hb hr hlocks hS hP hD h dX3_letTake_89
  · have h := h.2 c2
    refine lv_lload hx hb dX3_letTake_15 (lv_at hl 5 rfl) ?_
    refine lv_aload_n hx hb dX3_letTake_17 rfl (lv_at hl 1 rfl) ?_
    refine va_get (D := D) (ci := 3) (v := .int (ns 1)) (C := RX3) (T := TX3) (N := 10) hx hb hw inW_X3 hown hK hP 0 rfl rfl 9 (by decide) (hw _ mw_2_119) (fun _ h9 => h9) rfl dX3_letTake_18 ?_
    refine lv_i2l hx hb dX3_letTake_21 rfl ?_
    refine lv_lmul hx hb dX3_letTake_22 ?_
    refine lv_ldc2 (v := 100) hx hb hown (hw _ mw_4_50) dX3_letTake_23 ?_
    refine lv_ldiv hx hb dX3_letTake_26 (by decide) ?_
    refine lv_topl (fun x8 ex8 => ?_)
    have h := h x8 ex8
    refine lv_lstore (lv' := [(7, .long x8), (6, .int x1), (0, .ref n0), (1, .int p1), (2, .int p2), (3, .int p3), (4, .long p4)]) hx hb dX3_letTake_27 hl (by decide) rfl (fun ls hl => ?_)
    refine lv_aload_n hx hb dX3_letTake_29 rfl (lv_at hl 2 rfl) ?_
    refine va_get (D := D) (ci := 3) (v := .ref (aN 12)) (C := RX3) (T := TX3) (N := 10) hx hb hw inW_X3 hown hK hP 0 rfl rfl 7 (by decide) (hw _ mw_2_117) (fun _ h9 => h9) rfl dX3_letTake_30 ?_
    refine lv_iload hx hb dX3_letTake_33 (lv_at hl 1 rfl) ?_
    refine lv_iload_n hx hb dX3_letTake_35 rfl (lv_at hl 4 rfl) ?_
    refine cGoI (wo := fun u => wNight n0 aN C ns na nl) (cRunS (As := [.int p2]) (rest := [.int x1, .ref (aN 12)]) ⟨hx, hb, hml, hown, hw⟩ hK hN hP hD [] rfl rfl (k_X3_caughtBit l D C _    p2 h) (va_cwS 1 hw (goodS mw_4_46 mw_4_47 mw_1_11 mw_4_48) rfl rfl rfl (by decide +kernel) ⟨Nat.le_of_ble_eq_true rfl, Nat.le_of_ble_eq_true rfl⟩) rfl hl.1 rfl (Nat.le_of_ble_eq_true rfl) dX3_letTake_36 ⟨Nat.zero_le _, Nat.zero_le _⟩) hP hD hS hA [] [0, 1, 2] [0, 1, 2] rfl rfl rfl (by decide) rfl (fun _ => rfl) (fun r9 u H locs h hP hD hS => ?_)
    have hP : va_P D vwCl (List.flatten (wNight n0 aN C ns na nl)) H := hP
    have hD : va_D A (List.flatten (wNight n0 aN C ns na nl)) := hD
    refine lv_ior hx hb dX3_letTake_39 ?_
    refine lv_lload hx hb dX3_letTake_40 (lv_at hl 0 rfl) ?_
    refine cGoV (wo := fun u => wNight n0 aN C (va_up ns 3 u.1) (va_up (va_up (va_up na 8 u.2.1) 9 u.2.2.2.1) 10 u.2.2.2.2) (va_up nl 2 u.2.2.1)) (cRunVN (As := [.int (x1 ||| r9), .long x8]) (rest := []) ⟨hx, hb, hml, hown, hw⟩ hK hN hP hD [2] rfl rfl (k_X7_put l D C _ (aN 12) (aN 13) (aN 14) (aN 15) (aN 16)  (ns 3) (na 8) (nl 2) (na 9) (na 10) (x1 ||| r9) x8 h) ⟨va_cnB 2 hw (goodN mw_4_37) rfl rfl rfl (hN.m 47 rfl) (hw _ mw_1_12) (by decide +kernel) ⟨Nat.le_of_ble_eq_true rfl, Nat.le_of_ble_eq_true rfl⟩, hw _ mw_4_36, hw _ mw_s51⟩ rfl rfl rfl hl.1 rfl (Nat.le_of_ble_eq_true rfl) dX3_letTake_42 ⟨Nat.zero_le _, Nat.zero_le _⟩) hP hD hS hA [2] [0, 1] [0, 1, 2] rfl rfl rfl (by decide) rfl (fun _ => rfl) (fun u H locs h hP hD hS => ?_)
    obtain ⟨siz_10, sta_11, par_12, slo_13, tab_14⟩ := u
    have hP : va_P D vwCl (List.flatten (wNight n0 aN C (va_up ns 3 siz_10) (va_up (va_up (va_up na 8 sta_11) 9 slo_13) 10 tab_14) (va_up nl 2 par_12))) H := hP
    have hD : va_D A (List.flatten (wNight n0 aN C (va_up ns 3 siz_10) (va_up (va_up (va_up na 8 sta_11) 9 slo_13) 10 tab_14) (va_up nl 2 par_12))) := hD
    refine lv_aload_n hx hb dX3_letTake_45 rfl (lv_at hl 2 rfl) ?_
    refine va_get (D := D) (ci := 3) (v := .ref (aN 12)) (C := RX3) (T := TX3) (N := 10) hx hb hw inW_X3 hown hK hP 0 rfl rfl 7 (by decide) (hw _ mw_2_117) (fun _ h9 => h9) rfl dX3_letTake_46 ?_
    refine lv_iload hx hb dX3_letTake_49 (lv_at hl 1 rfl) ?_
    refine lv_lload hx hb dX3_letTake_51 (lv_at hl 6 rfl) ?_
    refine lv_lload hx hb dX3_letTake_53 (lv_at hl 0 rfl) ?_
    refine lv_lsub hx hb dX3_letTake_55 ?_
    refine cGoV (wo := fun u => wNight n0 aN C (va_up ns 3 u.1) (va_up (va_up (va_up na 8 u.2.1) 9 u.2.2.2.1) 10 u.2.2.2.2) (va_up nl 2 u.2.2.1)) (cRunVN (As := [.int x1, .long (p4 - x8)]) (rest := []) ⟨hx, hb, hml, hown, hw⟩ hK hN hP hD [2] rfl rfl (k_X7_put l D C _ (aN 12) (aN 13) (aN 14) (aN 15) (aN 16)  siz_10 sta_11 par_12 slo_13 tab_14 x1 (p4 - x8) h) ⟨va_cnB 2 hw (goodN mw_4_37) rfl rfl rfl (hN.m 47 rfl) (hw _ mw_1_12) (by decide +kernel) ⟨Nat.le_of_ble_eq_true rfl, Nat.le_of_ble_eq_true rfl⟩, hw _ mw_4_36, hw _ mw_s51⟩ rfl rfl rfl hl.1 rfl (Nat.le_of_ble_eq_true rfl) dX3_letTake_56 ⟨Nat.zero_le _, Nat.zero_le _⟩) hP hD hS hA [2] [0, 1] [0, 1, 2] rfl rfl rfl (by decide) rfl (fun _ => rfl) (fun u H locs h hP hD hS => ?_)
    obtain ⟨siz_15, sta_16, par_17, slo_18, tab_19⟩ := u
    have hP : va_P D vwCl (List.flatten (wNight n0 aN C (va_up ns 3 siz_15) (va_up (va_up (va_up na 8 sta_16) 9 slo_18) 10 tab_19) (va_up nl 2 par_17))) H := hP
    have hD : va_D A (List.flatten (wNight n0 aN C (va_up ns 3 siz_15) (va_up (va_up (va_up na 8 sta_16) 9 slo_18) 10 tab_19) (va_up nl 2 par_17))) := hD
    refine lv_goto (tgt := 89) hx hb dX3_letTake_59 (by decide) ?_
    rw [← hQ]
    exact cRetV ((va_up ns 3 siz_15), (va_up (va_up (va_up na 8 sta_16) 9 slo_18) 10 tab_19), (va_up nl 2 par_17)) hx hb hr hlocks hS hP hD h dX3_letTake_89
abbrev vsX3_turn : List Cond := Cond.code yX3_turn cX3_turn 2 none :: WS
abbrev rmX3_turn : Room := { frames := 0, cells := 0, slots := 0, locals := 0 }
set_option maxHeartbeats 4000000 in
set_option maxRecDepth 100000 in
theorem k_X3_turn (l : Launch) (D : va_G) (C : Nat → ClassId) (sz : Nat) (n0 : Nat) (aN : Nat → Nat)  (ns : Nat → Int32) (na : Nat → Nat → Int32) (nl : Nat → Nat → Int64)  {post : (Nat → Int32) → (Nat → Nat → Int32) → (Nat → Nat → Int64) → Prop} (h : P_X3_turn ns na nl post) : Met l yX3_turn vsX3_turn rmX3_turn (cPre D C [.ref n0] sz (wNight n0 aN C ns na nl)) (cQv D (fun (u : (Nat → Nat) × (Nat → Int32) × (Nat → Nat → Int32) × (Nat → Nat → Int64)) => post u.2.1 u.2.2.1 u.2.2.2) (fun u => wNight n0 u.1 C u.2.1 u.2.2.1 u.2.2.2) (va_A (List.flatten (wNight n0 aN C ns na nl)) sz)) 0 0 (va_A (List.flatten (wNight n0 aN C ns na nl)) sz) := by
  refine cStart (QA := fun A => cQv D (fun (u : (Nat → Nat) × (Nat → Int32) × (Nat → Nat → Int32) × (Nat → Nat → Int64)) => post u.2.1 u.2.2.1 u.2.2.2) (fun u => wNight n0 u.1 C u.2.1 u.2.2.1 u.2.2.2) A) (cc := cX3_turn) (maxL := 2) (ret := none) (by decide) (Nat.le_of_ble_eq_true rfl) ?_
  intro p e s m args below meth c A ls hx hb hr hml hown hw hlocks hname hK hN hA hP hD hS hl
  generalize hQ : MQ below _ args s 0 0 A = Q
  have hl : lv_has ls 2 [(0, .ref n0)] := hl
  obtain ⟨H, hH⟩ : ∃ H, H = s.heap := ⟨_, rfl⟩
  obtain ⟨locs, hlo⟩ : ∃ z : List Loc, z = [] := ⟨_, rfl⟩
  have hP : va_P D vwCl (List.flatten (wNight n0 aN C ns na nl)) H := by rw [hH]; exact hP
  have hS : va_S A s.heap H locs := by rw [hH, hlo]; exact hS
  rw [show W p l e rmX3_turn s m args below meth c s.heap [] 0 0 Q (F0 m 0 ls []) = W p l e rmX3_turn s m args below meth c H locs 0 0 Q (F0 m 0 ls []) from by rw [hH, hlo]]
  refine lv_aload_n hx hb dX3_turn_0 rfl (lv_at hl 0 rfl) ?_
  refine va_get (D := D) (ci := 3) (v := .ref (aN 7)) (C := RX3) (T := TX3) (N := 10) hx hb hw inW_X3 hown hK hP 0 rfl rfl 6 (by decide) (hw _ mw_2_116) (fun _ h9 => h9) rfl dX3_turn_1 ?_
  refine lv_astore_n (lv' := [(1, .ref (aN 7)), (0, .ref n0)]) hx hb dX3_turn_4 rfl hl (by decide) rfl (fun ls hl => ?_)
  refine lv_aload_n hx hb dX3_turn_5 rfl (lv_at hl 1 rfl) ?_
  refine lv_aload_n hx hb dX3_turn_6 rfl (lv_at hl 1 rfl) ?_
  refine va_get (D := D) (ci := 3) (v := .ref (aN 12)) (C := RX3) (T := TX3) (N := 10) hx hb hw inW_X3 hown hK hP 0 rfl rfl 7 (by decide) (hw _ mw_2_117) (fun _ h9 => h9) rfl dX3_turn_7 ?_
  refine va_put (D := D) (ci := 3) (v := .ref (aN 12)) (ty := (.object "LockRail$Spread")) (C := RX3) (T := TX3) (N := 10) hx hb hw inW_X3 tyX3 tyX3_ok nmX3 hown hK hP hD hS 0 rfl rfl 6 (by decide) (hw _ mw_2_116) (fun _ h9 => h9) rfl (by decide +kernel) rfl rfl (Nat.le_of_ble_eq_true rfl) dX3_turn_10 (fun H locs hP hD hS => ?_)
  refine lv_aload_n hx hb dX3_turn_13 rfl (lv_at hl 1 rfl) ?_
  refine lv_aload_n hx hb dX3_turn_14 rfl (lv_at hl 0 rfl) ?_
  refine va_put (D := D) (ci := 3) (v := .ref (aN 7)) (ty := (.object "LockRail$Spread")) (C := RX3) (T := TX3) (N := 10) hx hb hw inW_X3 tyX3 tyX3_ok nmX3 hown hK hP hD hS 0 rfl rfl 7 (by decide) (hw _ mw_2_117) (fun _ h9 => h9) rfl (by decide +kernel) rfl rfl (Nat.le_of_ble_eq_true rfl) dX3_turn_15 (fun H locs hP hD hS => ?_)
  have hP : va_P D vwCl (List.flatten ([cNight n0 (aN 1) (aN 2) (aN 3) (aN 4) (aN 5) (aN 6) (aN 12) (aN 7) C (na 0) (na 1) (na 2) (na 3) (na 4) (nl 0) (ns 0) (ns 1), cSpread (aN 7) (aN 8) (aN 9) (aN 10) (aN 11) C (ns 2) (na 5) (nl 1) (na 6) (na 7), cSpread (aN 12) (aN 13) (aN 14) (aN 15) (aN 16) C (ns 3) (na 8) (nl 2) (na 9) (na 10)])) H := hP
  have hD : va_D A (List.flatten ([cNight n0 (aN 1) (aN 2) (aN 3) (aN 4) (aN 5) (aN 6) (aN 12) (aN 7) C (na 0) (na 1) (na 2) (na 3) (na 4) (nl 0) (ns 0) (ns 1), cSpread (aN 7) (aN 8) (aN 9) (aN 10) (aN 11) C (ns 2) (na 5) (nl 1) (na 6) (na 7), cSpread (aN 12) (aN 13) (aN 14) (aN 15) (aN 16) C (ns 3) (na 8) (nl 2) (na 9) (na 10)])) := hD
  have hP : va_P D vwCl (List.flatten (wNight n0 (swN aN) C (va_up (va_up ns 2 (ns 3)) 3 (ns 2)) (va_up (va_up (va_up (va_up (va_up (va_up na 5 (na 8)) 6 (na 9)) 7 (na 10)) 8 (na 5)) 9 (na 6)) 10 (na 7)) (va_up (va_up nl 1 (nl 2)) 2 (nl 1)))) H := rg_subP hP [0, 2, 1] rfl
  have hD : va_D A (List.flatten (wNight n0 (swN aN) C (va_up (va_up ns 2 (ns 3)) 3 (ns 2)) (va_up (va_up (va_up (va_up (va_up (va_up na 5 (na 8)) 6 (na 9)) 7 (na 10)) 8 (na 5)) 9 (na 6)) 10 (na 7)) (va_up (va_up nl 1 (nl 2)) 2 (nl 1)))) := rg_subD hD [0, 2, 1] rfl rfl
  rw [← hQ]
  exact cRetV ((swN aN), (va_up (va_up ns 2 (ns 3)) 3 (ns 2)), (va_up (va_up (va_up (va_up (va_up (va_up na 5 (na 8)) 6 (na 9)) 7 (na 10)) 8 (na 5)) 9 (na 6)) 10 (na 7)), (va_up (va_up nl 1 (nl 2)) 2 (nl 1))) hx hb hr hlocks hS hP hD h dX3_turn_18
abbrev vsX3_letCome : List Cond := Cond.code yX3_letCome cX3_letCome 10 none :: WS
abbrev rmX3_letCome : Room := { frames := 2, cells := 0, slots := 0, locals := 54 }
set_option maxHeartbeats 4000000 in
set_option maxRecDepth 100000 in
theorem k_X3_letCome (l : Launch) (D : va_G) (C : Nat → ClassId) (sz : Nat) (n0 : Nat) (aN : Nat → Nat)  (ns : Nat → Int32) (na : Nat → Nat → Int32) (nl : Nat → Nat → Int64) (p1 : Int32) (p2 : Int32) {post : (Nat → Int32) → (Nat → Nat → Int32) → (Nat → Nat → Int64) → Prop} (h : P_X3_letCome ns na nl p1 p2 post) : Met l yX3_letCome vsX3_letCome rmX3_letCome (cPre D C [.ref n0, .int p1, .int p2] sz (wNight n0 aN C ns na nl)) (cQv D (fun (u : (Nat → Nat) × (Nat → Int32) × (Nat → Nat → Int32) × (Nat → Nat → Int64)) => post u.2.1 u.2.2.1 u.2.2.2) (fun u => wNight n0 u.1 C u.2.1 u.2.2.1 u.2.2.2) (va_A (List.flatten (wNight n0 aN C ns na nl)) sz)) 0 0 (va_A (List.flatten (wNight n0 aN C ns na nl)) sz) := by
  refine cStart (QA := fun A => cQv D (fun (u : (Nat → Nat) × (Nat → Int32) × (Nat → Nat → Int32) × (Nat → Nat → Int64)) => post u.2.1 u.2.2.1 u.2.2.2) (fun u => wNight n0 u.1 C u.2.1 u.2.2.1 u.2.2.2) A) (cc := cX3_letCome) (maxL := 10) (ret := none) (by decide) (Nat.le_of_ble_eq_true rfl) ?_
  intro p e s m args below meth c A ls hx hb hr hml hown hw hlocks hname hK hN hA hP hD hS hl
  generalize hQ : MQ below _ args s 0 0 A = Q
  have hl : lv_has ls 10 [(0, .ref n0), (1, .int p1), (2, .int p2)] := hl
  have hn123 : (Cond.fieldLinkNest "LockRail$Night" 123 "LockRail$Spread" "size" "I" "LockRail").before args s = true := hN.f 75 rfl
  have hn126 : (Cond.fieldLinkNest "LockRail$Night" 126 "LockRail$Spread" "states" "[I" "LockRail").before args s = true := hN.f 76 rfl
  have hn129 : (Cond.fieldLinkNest "LockRail$Night" 129 "LockRail$Spread" "parts" "[J" "LockRail").before args s = true := hN.f 77 rfl
  obtain ⟨H, hH⟩ : ∃ H, H = s.heap := ⟨_, rfl⟩
  obtain ⟨locs, hlo⟩ : ∃ z : List Loc, z = [] := ⟨_, rfl⟩
  have hP : va_P D vwCl (List.flatten (wNight n0 aN C ns na nl)) H := by rw [hH]; exact hP
  have hS : va_S A s.heap H locs := by rw [hH, hlo]; exact hS
  rw [show W p l e rmX3_letCome s m args below meth c s.heap [] 0 0 Q (F0 m 0 ls []) = W p l e rmX3_letCome s m args below meth c H locs 0 0 Q (F0 m 0 ls []) from by rw [hH, hlo]]
  have N130 : ∀ (ns : Nat → Int32) (na : Nat → Nat → Int32) (nl : Nat → Nat → Int64) (aN : Nat → Nat) (H : Heap) (locs : List Loc) (ls : Array Slot), P_X3_letCome_130 p1 p2 post  ns na nl → va_P D vwCl (List.flatten (wNight n0 aN C ns na nl)) H → va_D A (List.flatten (wNight n0 aN C ns na nl)) → va_S A s.heap H locs → lv_has ls 10 [(0, .ref n0)] → W p l e rmX3_letCome s m args below meth c H locs 0 0 Q (F0 m 130 ls []) := by
    intro ns na nl aN H locs ls h hP hD hS hl
    refine lv_aload_n hx hb dX3_letCome_130 rfl (lv_at hl 0 rfl) ?_
    refine cGoV (wo := fun u => wNight n0 u.1 C u.2.1 u.2.2.1 u.2.2.2) (cRunV (As := []) (rest := []) ⟨hx, hb, hml, hown, hw⟩ hK hN hP hD [0, 1, 2] rfl rfl (k_X3_turn l D C _ n0 aN  ns na nl  h) (cwV 0 hw (goodV mw_4_55 mw_4_57 mw_s54 mw_1_11 mw_4_58) rfl rfl rfl (by decide +kernel) ⟨Nat.le_of_ble_eq_true rfl, Nat.le_of_ble_eq_true rfl⟩) rfl rfl rfl hl.1 rfl (Nat.le_of_ble_eq_true rfl) dX3_letCome_131 ⟨Nat.zero_le _, Nat.zero_le _⟩) hP hD hS hA [0, 1, 2] [] [0, 1, 2] rfl rfl rfl (by decide) rfl (fun _ => rfl) (fun u H locs h hP hD hS => ?_)
    obtain ⟨aN16, ns_17, na_18, nl_19⟩ := u
    have hP : va_P D vwCl (List.flatten (wNight n0 aN16 C ns_17 na_18 nl_19)) H := hP
    have hD : va_D A (List.flatten (wNight n0 aN16 C ns_17 na_18 nl_19)) := hD
    rw [← hQ]
    exact cRetV (aN16, ns_17, na_18, nl_19) hx hb hr hlocks hS hP hD h dX3_letCome_134
  have N9 : ∀  (n9 : Nat) (x3_ : Int32) (ns : Nat → Int32) (na : Nat → Nat → Int32) (nl : Nat → Nat → Int64) (aN : Nat → Nat) (H : Heap) (locs : List Loc) (ls : Array Slot), P_X3_letCome_9 p1 p2 post (fun (ns : Nat → Int32) (na : Nat → Nat → Int32) (nl : Nat → Nat → Int64) => P_X3_letCome_130 p1 p2 post  ns na nl)  n9 x3_ ns na nl → va_P D vwCl (List.flatten (wNight n0 aN C ns na nl)) H → va_D A (List.flatten (wNight n0 aN C ns na nl)) → va_S A s.heap H locs → lv_has ls 10 [(0, .ref n0), (1, .int p1), (2, .int p2), (3, .int x3_)] → W p l e rmX3_letCome s m args below meth c H locs 0 0 Q (F0 m 9 ls []) := by
    intro n9
    induction n9 with
    | zero => intro x3_ ns na nl aN H locs ls h hP hD hS hl; exact False.elim h
    | succ n9 ih9 =>
      have N66 : ∀ (x3_ : Int32) (x4_ : Int32) (x5_ : Int64) (k0_ : Int32) (ns : Nat → Int32) (na : Nat → Nat → Int32) (nl : Nat → Nat → Int64) (aN : Nat → Nat) (H : Heap) (locs : List Loc) (ls : Array Slot), P_X3_letCome_66 p1 p2 post (P_X3_letCome_9 p1 p2 post (fun (ns : Nat → Int32) (na : Nat → Nat → Int32) (nl : Nat → Nat → Int64) => P_X3_letCome_130 p1 p2 post  ns na nl)  n9) x3_ x4_ x5_ k0_ ns na nl → va_P D vwCl (List.flatten (wNight n0 aN C ns na nl)) H → va_D A (List.flatten (wNight n0 aN C ns na nl)) → va_S A s.heap H locs → lv_has ls 10 [(0, .ref n0), (1, .int p1), (2, .int p2), (3, .int x3_), (4, .int x4_), (5, .long x5_)] → W p l e rmX3_letCome s m args below meth c H locs 0 0 Q (F0 m 66 ls [.int k0_]) := by
        intro x3_ x4_ x5_ k0_ ns na nl aN H locs ls h hP hD hS hl
        refine lv_istore (lv' := [(7, .int k0_), (0, .ref n0), (1, .int p1), (2, .int p2), (3, .int x3_), (4, .int x4_), (5, .long x5_)]) hx hb dX3_letCome_66 hl (by decide) rfl (fun ls hl => ?_)
        refine lv_iload hx hb dX3_letCome_68 (lv_at hl 0 rfl) ?_
        refine lv_iconst (v := (-1)) hx hb dX3_letCome_70 (by decide) ?_
        refine lv_icmp_ne (tgt := 88) hx hb dX3_letCome_71 (by decide) (fun c1 => ?_) (fun c1 => ?_)
        · have h := h.1 c1
          refine lv_lload hx hb dX3_letCome_88 (lv_at hl 6 rfl) ?_
          refine lv_iload_n hx hb dX3_letCome_90 rfl (lv_at hl 3 rfl) ?_
          refine lv_i2l hx hb dX3_letCome_91 rfl ?_
          refine lv_lmul hx hb dX3_letCome_92 ?_
          refine lv_ldc2 (v := 100) hx hb hown (hw _ mw_4_50) dX3_letCome_93 ?_
          refine lv_ldiv hx hb dX3_letCome_96 (by decide) ?_
          refine lv_topl (fun x2 ex2 => ?_)
          have h := h x2 ex2
          refine lv_lstore (lv' := [(8, .long x2), (7, .int k0_), (0, .ref n0), (1, .int p1), (2, .int p2), (3, .int x3_), (4, .int x4_), (5, .long x5_)]) hx hb dX3_letCome_97 hl (by decide) rfl (fun ls hl => ?_)
          refine lv_aload_n hx hb dX3_letCome_99 rfl (lv_at hl 2 rfl) ?_
          refine va_get (D := D) (ci := 3) (v := .ref (aN 12)) (C := RX3) (T := TX3) (N := 10) hx hb hw inW_X3 hown hK hP 0 rfl rfl 7 (by decide) (hw _ mw_2_117) (fun _ h9 => h9) rfl dX3_letCome_100 ?_
          refine lv_iload hx hb dX3_letCome_103 (lv_at hl 6 rfl) ?_
          refine lv_lload hx hb dX3_letCome_105 (lv_at hl 7 rfl) ?_
          refine lv_lload hx hb dX3_letCome_107 (lv_at hl 0 rfl) ?_
          refine lv_lsub hx hb dX3_letCome_109 ?_
          refine cGoV (wo := fun u => wNight n0 aN C (va_up ns 3 u.1) (va_up (va_up (va_up na 8 u.2.1) 9 u.2.2.2.1) 10 u.2.2.2.2) (va_up nl 2 u.2.2.1)) (cRunVN (As := [.int x4_, .long (x5_ - x2)]) (rest := []) ⟨hx, hb, hml, hown, hw⟩ hK hN hP hD [2] rfl rfl (k_X7_put l D C _ (aN 12) (aN 13) (aN 14) (aN 15) (aN 16)  (ns 3) (na 8) (nl 2) (na 9) (na 10) x4_ (x5_ - x2) h) ⟨va_cnB 2 hw (goodN mw_4_37) rfl rfl rfl (hN.m 47 rfl) (hw _ mw_1_12) (by decide +kernel) ⟨Nat.le_of_ble_eq_true rfl, Nat.le_of_ble_eq_true rfl⟩, hw _ mw_4_36, hw _ mw_s51⟩ rfl rfl rfl hl.1 rfl (Nat.le_of_ble_eq_true rfl) dX3_letCome_110 ⟨Nat.zero_le _, Nat.zero_le _⟩) hP hD hS hA [2] [0, 1] [0, 1, 2] rfl rfl rfl (by decide) rfl (fun _ => rfl) (fun u H locs h hP hD hS => ?_)
          obtain ⟨siz_3, sta_4, par_5, slo_6, tab_7⟩ := u
          have hP : va_P D vwCl (List.flatten (wNight n0 aN C (va_up ns 3 siz_3) (va_up (va_up (va_up na 8 sta_4) 9 slo_6) 10 tab_7) (va_up nl 2 par_5))) H := hP
          have hD : va_D A (List.flatten (wNight n0 aN C (va_up ns 3 siz_3) (va_up (va_up (va_up na 8 sta_4) 9 slo_6) 10 tab_7) (va_up nl 2 par_5))) := hD
          refine lv_aload_n hx hb dX3_letCome_113 rfl (lv_at hl 2 rfl) ?_
          refine lv_iload hx hb dX3_letCome_114 (lv_at hl 6 rfl) ?_
          refine lv_iload_n hx hb dX3_letCome_116 rfl (lv_at hl 3 rfl) ?_
          refine lv_iload hx hb dX3_letCome_117 (lv_at hl 1 rfl) ?_
          refine lv_lload hx hb dX3_letCome_119 (lv_at hl 0 rfl) ?_
          refine cGoV (wo := fun u => wNight n0 aN C u.1 u.2.1 u.2.2) (cRunV (As := [.int x4_, .int p1, .int k0_, .long x2]) (rest := []) ⟨hx, hb, hml, hown, hw⟩ hK hN hP hD [0, 1, 2] rfl rfl (k_X3_letTake l D C _ n0 aN  (va_up ns 3 siz_3) (va_up (va_up (va_up na 8 sta_4) 9 slo_6) 10 tab_7) (va_up nl 2 par_5) x4_ p1 k0_ x2 h) (cwV 4 hw (goodV mw_4_51 mw_4_53 mw_s53 mw_1_11 mw_4_54) rfl rfl rfl (by decide +kernel) ⟨Nat.le_of_ble_eq_true rfl, Nat.le_of_ble_eq_true rfl⟩) rfl rfl rfl hl.1 rfl (Nat.le_of_ble_eq_true rfl) dX3_letCome_121 ⟨Nat.zero_le _, Nat.zero_le _⟩) hP hD hS hA [0, 1, 2] [] [0, 1, 2] rfl rfl rfl (by decide) rfl (fun _ => rfl) (fun u H locs h hP hD hS => ?_)
          obtain ⟨ns_8, na_9, nl_10⟩ := u
          have hP : va_P D vwCl (List.flatten (wNight n0 aN C ns_8 na_9 nl_10)) H := hP
          have hD : va_D A (List.flatten (wNight n0 aN C ns_8 na_9 nl_10)) := hD
          refine lv_iinc (v := (x3_ + 1)) (lv' := [(3, .int (x3_ + 1)), (8, .long x2), (7, .int k0_), (0, .ref n0), (1, .int p1), (2, .int p2), (4, .int x4_), (5, .long x5_)]) hx hb dX3_letCome_124 hl (k := 5) rfl rfl (by decide) rfl (fun ls hl => ?_)
          refine lv_goto (tgt := 9) hx hb dX3_letCome_127 (by decide) ?_
          exact ih9 (x3_ + 1) ns_8 na_9 nl_10 aN _ _ _ h hP hD hS (lv_sub hl [3, 4, 5, 0] rfl)
        · have h := h.2 c1
          refine lv_aload_n hx hb dX3_letCome_74 rfl (lv_at hl 1 rfl) ?_
          refine va_get (D := D) (ci := 3) (v := .ref (aN 12)) (C := RX3) (T := TX3) (N := 10) hx hb hw inW_X3 hown hK hP 0 rfl rfl 7 (by decide) (hw _ mw_2_117) (fun _ h9 => h9) rfl dX3_letCome_75 ?_
          refine lv_iload hx hb dX3_letCome_78 (lv_at hl 5 rfl) ?_
          refine lv_lload hx hb dX3_letCome_80 (lv_at hl 6 rfl) ?_
          refine cGoV (wo := fun u => wNight n0 aN C (va_up ns 3 u.1) (va_up (va_up (va_up na 8 u.2.1) 9 u.2.2.2.1) 10 u.2.2.2.2) (va_up nl 2 u.2.2.1)) (cRunVN (As := [.int x4_, .long x5_]) (rest := []) ⟨hx, hb, hml, hown, hw⟩ hK hN hP hD [2] rfl rfl (k_X7_put l D C _ (aN 12) (aN 13) (aN 14) (aN 15) (aN 16)  (ns 3) (na 8) (nl 2) (na 9) (na 10) x4_ x5_ h) ⟨va_cnB 2 hw (goodN mw_4_37) rfl rfl rfl (hN.m 47 rfl) (hw _ mw_1_12) (by decide +kernel) ⟨Nat.le_of_ble_eq_true rfl, Nat.le_of_ble_eq_true rfl⟩, hw _ mw_4_36, hw _ mw_s51⟩ rfl rfl rfl hl.1 rfl (Nat.le_of_ble_eq_true rfl) dX3_letCome_82 ⟨Nat.zero_le _, Nat.zero_le _⟩) hP hD hS hA [2] [0, 1] [0, 1, 2] rfl rfl rfl (by decide) rfl (fun _ => rfl) (fun u H locs h hP hD hS => ?_)
          obtain ⟨siz_11, sta_12, par_13, slo_14, tab_15⟩ := u
          have hP : va_P D vwCl (List.flatten (wNight n0 aN C (va_up ns 3 siz_11) (va_up (va_up (va_up na 8 sta_12) 9 slo_14) 10 tab_15) (va_up nl 2 par_13))) H := hP
          have hD : va_D A (List.flatten (wNight n0 aN C (va_up ns 3 siz_11) (va_up (va_up (va_up na 8 sta_12) 9 slo_14) 10 tab_15) (va_up nl 2 par_13))) := hD
          refine lv_goto (tgt := 124) hx hb dX3_letCome_85 (by decide) ?_
          refine lv_iinc (v := (x3_ + 1)) (lv' := [(3, .int (x3_ + 1)), (7, .int k0_), (0, .ref n0), (1, .int p1), (2, .int p2), (4, .int x4_), (5, .long x5_)]) hx hb dX3_letCome_124 hl (k := 4) rfl rfl (by decide) rfl (fun ls hl => ?_)
          refine lv_goto (tgt := 9) hx hb dX3_letCome_127 (by decide) ?_
          exact ih9 (x3_ + 1) (va_up ns 3 siz_11) (va_up (va_up (va_up na 8 sta_12) 9 slo_14) 10 tab_15) (va_up nl 2 par_13) aN _ _ _ h hP hD hS (lv_sub hl [2, 3, 4, 0] rfl)
      intro x3_ ns na nl aN H locs ls h hP hD hS hl
      refine lv_iload_n hx hb dX3_letCome_9 rfl (lv_at hl 3 rfl) ?_
      refine lv_aload_n hx hb dX3_letCome_10 rfl (lv_at hl 0 rfl) ?_
      refine va_get (D := D) (ci := 3) (v := .ref (aN 7)) (C := RX3) (T := TX3) (N := 10) hx hb hw inW_X3 hown hK hP 0 rfl rfl 6 (by decide) (hw _ mw_2_116) (fun _ h9 => h9) rfl dX3_letCome_11 ?_
      refine va_getN (D := D) (ci := 7) (v := .int (ns 2)) (C := RX7) (T := TX7) (N := 5) hx hb hw inW_X7 hown hK hP 7 rfl rfl 0 (by decide) hn123 (fun _ h9 => h9) rfl dX3_letCome_14 ?_
      refine lv_icmp_ge (tgt := 130) hx hb dX3_letCome_17 (by decide) (fun c20 => ?_) (fun c20 => ?_)
      · have h := h.1 c20
        exact N130 ns na nl aN _ _ _ h hP hD hS (lv_sub hl [0] rfl)
      · have h := h.2 c20
        refine lv_aload_n hx hb dX3_letCome_20 rfl (lv_at hl 0 rfl) ?_
        refine va_get (D := D) (ci := 3) (v := .ref (aN 7)) (C := RX3) (T := TX3) (N := 10) hx hb hw inW_X3 hown hK hP 0 rfl rfl 6 (by decide) (hw _ mw_2_116) (fun _ h9 => h9) rfl dX3_letCome_21 ?_
        refine va_getN (D := D) (ci := 7) (v := .ref (aN 8)) (C := RX7) (T := TX7) (N := 5) hx hb hw inW_X7 hown hK hP 7 rfl rfl 1 (by decide) hn126 (fun _ h9 => h9) rfl dX3_letCome_24 ?_
        refine lv_iload_n hx hb dX3_letCome_27 rfl (lv_at hl 3 rfl) ?_
        refine cIald hx hb hK hP 8 0 rfl rfl x3_.toNatClampNeg rfl h.1 dX3_letCome_28 ?_
        have h := h.2
        refine lv_topi (fun x21 ex21 => ?_)
        have h := h x21 ex21
        refine lv_istore (lv' := [(4, .int x21), (0, .ref n0), (1, .int p1), (2, .int p2), (3, .int x3_)]) hx hb dX3_letCome_29 hl (by decide) rfl (fun ls hl => ?_)
        refine lv_aload_n hx hb dX3_letCome_31 rfl (lv_at hl 1 rfl) ?_
        refine va_get (D := D) (ci := 3) (v := .ref (aN 7)) (C := RX3) (T := TX3) (N := 10) hx hb hw inW_X3 hown hK hP 0 rfl rfl 6 (by decide) (hw _ mw_2_116) (fun _ h9 => h9) rfl dX3_letCome_32 ?_
        refine va_getN (D := D) (ci := 7) (v := .ref (aN 9)) (C := RX7) (T := TX7) (N := 5) hx hb hw inW_X7 hown hK hP 7 rfl rfl 2 (by decide) hn129 (fun _ h9 => h9) rfl dX3_letCome_35 ?_
        refine lv_iload_n hx hb dX3_letCome_38 rfl (lv_at hl 4 rfl) ?_
        refine cLald hx hb hK hP 9 1 rfl rfl x3_.toNatClampNeg rfl h.1 dX3_letCome_39 ?_
        have h := h.2
        refine lv_topl (fun x22 ex22 => ?_)
        have h := h x22 ex22
        refine lv_lstore (lv' := [(5, .long x22), (4, .int x21), (0, .ref n0), (1, .int p1), (2, .int p2), (3, .int x3_)]) hx hb dX3_letCome_40 hl (by decide) rfl (fun ls hl => ?_)
        refine lv_iload hx hb dX3_letCome_42 (lv_at hl 1 rfl) ?_
        refine lv_iload_n hx hb dX3_letCome_44 rfl (lv_at hl 3 rfl) ?_
        refine cGoI (wo := fun u => wNight n0 aN C ns na nl) (cRunS (As := [.int x21, .int p1]) (rest := []) ⟨hx, hb, hml, hown, hw⟩ hK hN hP hD [] rfl rfl (k_X3_isCaught l D C _    x21 p1 h) (va_cwS 2 hw (goodS mw_4_43 mw_4_44 mw_1_11 mw_4_45) rfl rfl rfl (by decide +kernel) ⟨Nat.le_of_ble_eq_true rfl, Nat.le_of_ble_eq_true rfl⟩) rfl hl.1 rfl (Nat.le_of_ble_eq_true rfl) dX3_letCome_45 ⟨Nat.zero_le _, Nat.zero_le _⟩) hP hD hS hA [] [0, 1, 2] [0, 1, 2] rfl rfl rfl (by decide) rfl (fun _ => rfl) (fun r23 u H locs h hP hD hS => ?_)
        have hP : va_P D vwCl (List.flatten (wNight n0 aN C ns na nl)) H := hP
        have hD : va_D A (List.flatten (wNight n0 aN C ns na nl)) := hD
        refine lv_if_eq (tgt := 55) hx hb dX3_letCome_48 (by decide) (fun c24 => ?_) (fun c24 => ?_)
        · have h := h.1 c24
          refine lv_aload_n hx hb dX3_letCome_55 rfl (lv_at hl 2 rfl) ?_
          refine lv_iload_n hx hb dX3_letCome_56 rfl (lv_at hl 3 rfl) ?_
          refine lv_iload hx hb dX3_letCome_57 (lv_at hl 1 rfl) ?_
          refine lv_sipush (v := 2047) hx hb dX3_letCome_59 (by decide) ?_
          refine lv_iand hx hb dX3_letCome_62 ?_
          refine cGoI (wo := fun u => wNight n0 aN C ns na nl) (cRunV (As := [.int p1, .int (x21 &&& 2047)]) (rest := []) ⟨hx, hb, hml, hown, hw⟩ hK hN hP hD [0, 1, 2] rfl rfl (k_X3_pick l D C _ n0 aN  ns na nl p1 (x21 &&& 2047) h) (cwV 2 hw (goodV mw_4_49 mw_3_238 mw_s44 mw_1_11 mw_3_239) rfl rfl rfl (by decide +kernel) ⟨Nat.le_of_ble_eq_true rfl, Nat.le_of_ble_eq_true rfl⟩) rfl rfl rfl hl.1 rfl (Nat.le_of_ble_eq_true rfl) dX3_letCome_63 ⟨Nat.zero_le _, Nat.zero_le _⟩) hP hD hS hA [0, 1, 2] [] [0, 1, 2] rfl rfl rfl (by decide) rfl (fun _ => rfl) (fun r25 u H locs h hP hD hS => ?_)
          have hP : va_P D vwCl (List.flatten (wNight n0 aN C ns na nl)) H := hP
          have hD : va_D A (List.flatten (wNight n0 aN C ns na nl)) := hD
          exact N66 x3_ x21 x22 r25 ns na nl aN _ _ _ h hP hD hS (lv_sub hl [2, 3, 4, 5, 1, 0] rfl)
        · have h := h.2 c24
          refine lv_iconst (v := (-1)) hx hb dX3_letCome_51 (by decide) ?_
          refine lv_goto (tgt := 66) hx hb dX3_letCome_52 (by decide) ?_
          exact N66 x3_ x21 x22 (-1) ns na nl aN _ _ _ h hP hD hS (lv_sub hl [2, 3, 4, 5, 1, 0] rfl)
  refine lv_aload_n hx hb dX3_letCome_0 rfl (lv_at hl 0 rfl) ?_
  refine va_get (D := D) (ci := 3) (v := .ref (aN 12)) (C := RX3) (T := TX3) (N := 10) hx hb hw inW_X3 hown hK hP 0 rfl rfl 7 (by decide) (hw _ mw_2_117) (fun _ h9 => h9) rfl dX3_letCome_1 ?_
  refine cGoV (wo := fun u => wNight n0 aN C (va_up ns 3 u.1) (va_up na 10 u.2) nl) (cRunVN (As := []) (rest := []) ⟨hx, hb, hml, hown, hw⟩ hK hN hP hD [2] rfl rfl (k_X7_wipe l D C _ (aN 12) (aN 13) (aN 14) (aN 15) (aN 16)  (ns 3) (na 8) (nl 2) (na 9) (na 10)  h) ⟨va_cnB 0 hw (goodN mw_4_32) rfl rfl rfl (hN.m 46 rfl) (hw _ mw_1_12) (by decide +kernel) ⟨Nat.le_of_ble_eq_true rfl, Nat.le_of_ble_eq_true rfl⟩, hw _ mw_4_31, hw _ mw_s50⟩ rfl rfl rfl hl.1 rfl (Nat.le_of_ble_eq_true rfl) dX3_letCome_4 ⟨Nat.zero_le _, Nat.zero_le _⟩) hP hD hS hA [2] [0, 1] [0, 1, 2] rfl rfl rfl (by decide) rfl (fun _ => rfl) (fun u H locs h hP hD hS => ?_)
  obtain ⟨siz_26, tab_27⟩ := u
  have hP : va_P D vwCl (List.flatten (wNight n0 aN C (va_up ns 3 siz_26) (va_up na 10 tab_27) nl)) H := hP
  have hD : va_D A (List.flatten (wNight n0 aN C (va_up ns 3 siz_26) (va_up na 10 tab_27) nl)) := hD
  refine lv_iconst (v := 0) hx hb dX3_letCome_7 (by decide) ?_
  refine lv_istore_n (lv' := [(3, .int 0), (0, .ref n0), (1, .int p1), (2, .int p2)]) hx hb dX3_letCome_8 rfl hl (by decide) rfl (fun ls hl => ?_)
  obtain ⟨n, h⟩ := h
  exact N9  n 0 (va_up ns 3 siz_26) (va_up na 10 tab_27) nl aN _ _ _ h hP hD hS (lv_sub hl [1, 2, 3, 0] rfl)
abbrev vsX3_play : List Cond := Cond.code yX3_play cX3_play 3 none :: WS
abbrev rmX3_play : Room := { frames := 3, cells := 0, slots := 0, locals := 83 }
set_option maxHeartbeats 4000000 in
set_option maxRecDepth 100000 in
theorem k_X3_play (l : Launch) (D : va_G) (C : Nat → ClassId) (sz : Nat) (n0 : Nat) (aN : Nat → Nat) (aR : Nat → Nat)  (ns : Nat → Int32) (na : Nat → Nat → Int32) (nl : Nat → Nat → Int64) (rs : Nat → Int32) (ra : Nat → Nat → Int32)  {post : (Nat → Int32) → (Nat → Nat → Int32) → (Nat → Nat → Int64) → Prop} (h : P_X3_play ns na nl rs ra post) : Met l yX3_play vsX3_play rmX3_play (cPre D C [.ref n0, .ref (aR 0)] sz (wNight n0 aN C ns na nl ++ (wRail aR C rs ra))) (cQv D (fun (u : (Nat → Nat) × (Nat → Int32) × (Nat → Nat → Int32) × (Nat → Nat → Int64)) => post u.2.1 u.2.2.1 u.2.2.2) (fun u => wNight n0 u.1 C u.2.1 u.2.2.1 u.2.2.2 ++ (wRail aR C rs ra)) (va_A (List.flatten (wNight n0 aN C ns na nl ++ (wRail aR C rs ra))) sz)) 0 0 (va_A (List.flatten (wNight n0 aN C ns na nl ++ (wRail aR C rs ra))) sz) := by
  refine cStart (QA := fun A => cQv D (fun (u : (Nat → Nat) × (Nat → Int32) × (Nat → Nat → Int32) × (Nat → Nat → Int64)) => post u.2.1 u.2.2.1 u.2.2.2) (fun u => wNight n0 u.1 C u.2.1 u.2.2.1 u.2.2.2 ++ (wRail aR C rs ra)) A) (cc := cX3_play) (maxL := 3) (ret := none) (by decide) (Nat.le_of_ble_eq_true rfl) ?_
  intro p e s m args below meth c A ls hx hb hr hml hown hw hlocks hname hK hN hA hP hD hS hl
  generalize hQ : MQ below _ args s 0 0 A = Q
  have hl : lv_has ls 3 [(0, .ref n0), (1, .ref (aR 0))] := hl
  have hn75 : (Cond.fieldLinkNest "LockRail$Night" 75 "LockRail$Rail" "thieves" "LLockRail$Thieves;" "LockRail").before args s = true := hN.f 62 rfl
  have hn79 : (Cond.fieldLinkNest "LockRail$Night" 79 "LockRail$Thieves" "count" "I" "LockRail").before args s = true := hN.f 33 rfl
  have hn107 : (Cond.fieldLinkNest "LockRail$Night" 107 "LockRail$Thieves" "comes" "[I" "LockRail").before args s = true := hN.f 37 rfl
  obtain ⟨H, hH⟩ : ∃ H, H = s.heap := ⟨_, rfl⟩
  obtain ⟨locs, hlo⟩ : ∃ z : List Loc, z = [] := ⟨_, rfl⟩
  have hP : va_P D vwCl (List.flatten (wNight n0 aN C ns na nl ++ (wRail aR C rs ra))) H := by rw [hH]; exact hP
  have hS : va_S A s.heap H locs := by rw [hH, hlo]; exact hS
  rw [show W p l e rmX3_play s m args below meth c s.heap [] 0 0 Q (F0 m 0 ls []) = W p l e rmX3_play s m args below meth c H locs 0 0 Q (F0 m 0 ls []) from by rw [hH, hlo]]
  have N12 : ∀  (n12 : Nat) (x2_ : Int32) (ns : Nat → Int32) (na : Nat → Nat → Int32) (nl : Nat → Nat → Int64) (aN : Nat → Nat) (H : Heap) (locs : List Loc) (ls : Array Slot), P_X3_play_12 rs ra post   n12 x2_ ns na nl → va_P D vwCl (List.flatten (wNight n0 aN C ns na nl ++ (wRail aR C rs ra))) H → va_D A (List.flatten (wNight n0 aN C ns na nl ++ (wRail aR C rs ra))) → va_S A s.heap H locs → lv_has ls 3 [(0, .ref n0), (1, .ref (aR 0)), (2, .int x2_)] → W p l e rmX3_play s m args below meth c H locs 0 0 Q (F0 m 12 ls []) := by
    intro n12
    induction n12 with
    | zero => intro x2_ ns na nl aN H locs ls h hP hD hS hl; exact False.elim h
    | succ n12 ih12 =>
      intro x2_ ns na nl aN H locs ls h hP hD hS hl
      refine lv_iload_n hx hb dX3_play_12 rfl (lv_at hl 2 rfl) ?_
      refine lv_aload_n hx hb dX3_play_13 rfl (lv_at hl 1 rfl) ?_
      refine va_getN (D := D) (ci := 4) (v := .ref (aR 13)) (C := RX4) (T := TX4) (N := 16) hx hb hw inW_X4 hown hK hP 17 rfl rfl 6 (by decide) hn75 (fun _ h9 => h9) rfl dX3_play_14 ?_
      refine va_getN (D := D) (ci := 9) (v := .int (rs 14)) (C := RX9) (T := TX9) (N := 6) hx hb hw inW_X9 hown hK hP 30 rfl rfl 0 (by decide) hn79 (fun _ h9 => h9) rfl dX3_play_17 ?_
      refine lv_icmp_ge (tgt := 43) hx hb dX3_play_20 (by decide) (fun c1 => ?_) (fun c1 => ?_)
      · have h := h.1 c1
        rw [← hQ]
        exact cRetV (aN, ns, na, nl) hx hb hr hlocks hS hP hD h dX3_play_43
      · have h := h.2 c1
        refine lv_aload_n hx hb dX3_play_23 rfl (lv_at hl 0 rfl) ?_
        refine lv_iload_n hx hb dX3_play_24 rfl (lv_at hl 2 rfl) ?_
        refine lv_aload_n hx hb dX3_play_25 rfl (lv_at hl 1 rfl) ?_
        refine va_getN (D := D) (ci := 4) (v := .ref (aR 13)) (C := RX4) (T := TX4) (N := 16) hx hb hw inW_X4 hown hK hP 17 rfl rfl 6 (by decide) hn75 (fun _ h9 => h9) rfl dX3_play_26 ?_
        refine va_getN (D := D) (ci := 9) (v := .ref (aR 15)) (C := RX9) (T := TX9) (N := 6) hx hb hw inW_X9 hown hK hP 30 rfl rfl 2 (by decide) hn107 (fun _ h9 => h9) rfl dX3_play_29 ?_
        refine lv_iload_n hx hb dX3_play_32 rfl (lv_at hl 2 rfl) ?_
        refine cIald hx hb hK hP 32 0 rfl rfl x2_.toNatClampNeg rfl h.1 dX3_play_33 ?_
        have h := h.2
        refine cGoV (wo := fun u => wNight n0 u.1 C u.2.1 u.2.2.1 u.2.2.2 ++ (wRail aR C rs ra)) (cRunV (As := [.int x2_, .int (ra 10 x2_.toNatClampNeg)]) (rest := []) ⟨hx, hb, hml, hown, hw⟩ hK hN hP hD [0, 1, 2] rfl rfl (k_X3_letCome l D C _ n0 aN  ns na nl x2_ (ra 10 x2_.toNatClampNeg) h) (cwV 2 hw (goodV mw_4_39 mw_4_41 mw_s52 mw_1_11 mw_4_42) rfl rfl rfl (by decide +kernel) ⟨Nat.le_of_ble_eq_true rfl, Nat.le_of_ble_eq_true rfl⟩) rfl rfl rfl hl.1 rfl (Nat.le_of_ble_eq_true rfl) dX3_play_34 ⟨Nat.zero_le _, Nat.zero_le _⟩) hP hD hS hA [0, 1, 2] [3, 4, 5, 6, 7, 8] [6, 7, 8, 0, 1, 2, 3, 4, 5] rfl rfl rfl (by decide) rfl (fun _ => rfl) (fun u H locs h hP hD hS => ?_)
        obtain ⟨aN2, ns_3, na_4, nl_5⟩ := u
        have hP : va_P D vwCl (List.flatten (wNight n0 aN2 C ns_3 na_4 nl_5 ++ (wRail aR C rs ra))) H := hP
        have hD : va_D A (List.flatten (wNight n0 aN2 C ns_3 na_4 nl_5 ++ (wRail aR C rs ra))) := hD
        refine lv_iinc (v := (x2_ + 1)) (lv' := [(2, .int (x2_ + 1)), (0, .ref n0), (1, .ref (aR 0))]) hx hb dX3_play_37 hl (k := 2) rfl rfl (by decide) rfl (fun ls hl => ?_)
        refine lv_goto (tgt := 12) hx hb dX3_play_40 (by decide) ?_
        exact ih12 (x2_ + 1) ns_3 na_4 nl_5 aN2 _ _ _ h hP hD hS (lv_sub hl [1, 2, 0] rfl)
  refine lv_aload_n hx hb dX3_play_0 rfl (lv_at hl 0 rfl) ?_
  refine lv_aload_n hx hb dX3_play_1 rfl (lv_at hl 1 rfl) ?_
  refine lv_iconst (v := 0) hx hb dX3_play_2 (by decide) ?_
  refine cGoV (wo := fun u => wNight n0 aN C u.1 u.2 nl ++ (wRail aR C rs ra)) (cRunV (As := [.ref (aR 0), .int 0]) (rest := []) ⟨hx, hb, hml, hown, hw⟩ hK hN hP hD [0, 1, 2, 3, 4, 5, 6, 7, 8] rfl rfl (k_X3_lookAtBaited l D C _ n0 aN aR  ns na nl rs ra 0 h) (cwV 2 hw (goodV mw_3_220 mw_3_222 mw_s41 mw_1_11 mw_3_223) rfl rfl rfl (by decide +kernel) ⟨Nat.le_of_ble_eq_true rfl, Nat.le_of_ble_eq_true rfl⟩) rfl rfl rfl hl.1 rfl (Nat.le_of_ble_eq_true rfl) dX3_play_3 ⟨Nat.zero_le _, Nat.zero_le _⟩) hP hD hS hA [0, 1, 2, 3, 4, 5, 6, 7, 8] [] [0, 1, 2, 3, 4, 5, 6, 7, 8] rfl rfl rfl (by decide) rfl (fun _ => rfl) (fun u H locs h hP hD hS => ?_)
  obtain ⟨ns_6, na_7⟩ := u
  have hP : va_P D vwCl (List.flatten (wNight n0 aN C ns_6 na_7 nl ++ (wRail aR C rs ra))) H := hP
  have hD : va_D A (List.flatten (wNight n0 aN C ns_6 na_7 nl ++ (wRail aR C rs ra))) := hD
  refine lv_aload_n hx hb dX3_play_6 rfl (lv_at hl 0 rfl) ?_
  refine cGoV (wo := fun u => wNight n0 aN C u.1 u.2.1 u.2.2 ++ (wRail aR C rs ra)) (cRunV (As := []) (rest := []) ⟨hx, hb, hml, hown, hw⟩ hK hN hP hD [0, 1, 2] rfl rfl (k_X3_begin l D C _ n0 aN  ns_6 na_7 nl  h) (cwV 0 hw (goodV mw_4_25 mw_4_27 mw_s49 mw_1_11 mw_4_28) rfl rfl rfl (by decide +kernel) ⟨Nat.le_of_ble_eq_true rfl, Nat.le_of_ble_eq_true rfl⟩) rfl rfl rfl hl.1 rfl (Nat.le_of_ble_eq_true rfl) dX3_play_7 ⟨Nat.zero_le _, Nat.zero_le _⟩) hP hD hS hA [0, 1, 2] [3, 4, 5, 6, 7, 8] [6, 7, 8, 0, 1, 2, 3, 4, 5] rfl rfl rfl (by decide) rfl (fun _ => rfl) (fun u H locs h hP hD hS => ?_)
  obtain ⟨ns_8, na_9, nl_10⟩ := u
  have hP : va_P D vwCl (List.flatten (wNight n0 aN C ns_8 na_9 nl_10 ++ (wRail aR C rs ra))) H := hP
  have hD : va_D A (List.flatten (wNight n0 aN C ns_8 na_9 nl_10 ++ (wRail aR C rs ra))) := hD
  refine lv_iconst (v := 0) hx hb dX3_play_10 (by decide) ?_
  refine lv_istore_n (lv' := [(2, .int 0), (0, .ref n0), (1, .ref (aR 0))]) hx hb dX3_play_11 rfl hl (by decide) rfl (fun ls hl => ?_)
  obtain ⟨n, h⟩ := h
  exact N12  n 0 ns_8 na_9 nl_10 aN _ _ _ h hP hD hS (lv_sub hl [1, 2, 0] rfl)
abbrev vsX3_partsOf : List Cond := Cond.code yX3_partsOf cX3_partsOf 5 (some .long) :: WS
abbrev rmX3_partsOf : Room := { frames := 0, cells := 0, slots := 0, locals := 0 }
set_option maxHeartbeats 4000000 in
set_option maxRecDepth 100000 in
theorem k_X3_partsOf (l : Launch) (D : va_G) (C : Nat → ClassId) (sz : Nat) (n0 : Nat) (aN : Nat → Nat)  (ns : Nat → Int32) (na : Nat → Nat → Int32) (nl : Nat → Nat → Int64) (p1 : Int32) {post : Int64 → Prop} (h : P_X3_partsOf ns na nl p1 post) : Met l yX3_partsOf vsX3_partsOf rmX3_partsOf (cPre D C [.ref n0, .int p1] sz (wNight n0 aN C ns na nl)) (cQl D (fun (r : Int64) (u : Unit) => post r ) (fun u => wNight n0 aN C ns na nl) (va_A (List.flatten (wNight n0 aN C ns na nl)) sz)) 0 0 (va_A (List.flatten (wNight n0 aN C ns na nl)) sz) := by
  refine cStart (QA := fun A => cQl D (fun (r : Int64) (u : Unit) => post r ) (fun u => wNight n0 aN C ns na nl) A) (cc := cX3_partsOf) (maxL := 5) (ret := (some .long)) (by decide) (Nat.le_of_ble_eq_true rfl) ?_
  intro p e s m args below meth c A ls hx hb hr hml hown hw hlocks hname hK hN hA hP hD hS hl
  generalize hQ : MQ below _ args s 0 0 A = Q
  have hl : lv_has ls 5 [(0, .ref n0), (1, .int p1)] := hl
  have hn123 : (Cond.fieldLinkNest "LockRail$Night" 123 "LockRail$Spread" "size" "I" "LockRail").before args s = true := hN.f 75 rfl
  have hn126 : (Cond.fieldLinkNest "LockRail$Night" 126 "LockRail$Spread" "states" "[I" "LockRail").before args s = true := hN.f 76 rfl
  have hn129 : (Cond.fieldLinkNest "LockRail$Night" 129 "LockRail$Spread" "parts" "[J" "LockRail").before args s = true := hN.f 77 rfl
  obtain ⟨H, hH⟩ : ∃ H, H = s.heap := ⟨_, rfl⟩
  obtain ⟨locs, hlo⟩ : ∃ z : List Loc, z = [] := ⟨_, rfl⟩
  have hP : va_P D vwCl (List.flatten (wNight n0 aN C ns na nl)) H := by rw [hH]; exact hP
  have hS : va_S A s.heap H locs := by rw [hH, hlo]; exact hS
  rw [show W p l e rmX3_partsOf s m args below meth c s.heap [] 0 0 Q (F0 m 0 ls []) = W p l e rmX3_partsOf s m args below meth c H locs 0 0 Q (F0 m 0 ls []) from by rw [hH, hlo]]
  have N5 : ∀  (n5 : Nat) (x2_ : Int64) (x4_ : Int32) (H : Heap) (locs : List Loc) (ls : Array Slot), P_X3_partsOf_5 ns na nl p1 post   n5 x2_ x4_ → va_P D vwCl (List.flatten (wNight n0 aN C ns na nl)) H → va_D A (List.flatten (wNight n0 aN C ns na nl)) → va_S A s.heap H locs → lv_has ls 5 [(0, .ref n0), (1, .int p1), (2, .long x2_), (4, .int x4_)] → W p l e rmX3_partsOf s m args below meth c H locs 0 0 Q (F0 m 5 ls []) := by
    intro n5
    induction n5 with
    | zero => intro x2_ x4_ H locs ls h hP hD hS hl; exact False.elim h
    | succ n5 ih5 =>
      intro x2_ x4_ H locs ls h hP hD hS hl
      refine lv_iload hx hb dX3_partsOf_5 (lv_at hl 3 rfl) ?_
      refine lv_aload_n hx hb dX3_partsOf_7 rfl (lv_at hl 0 rfl) ?_
      refine va_get (D := D) (ci := 3) (v := .ref (aN 7)) (C := RX3) (T := TX3) (N := 10) hx hb hw inW_X3 hown hK hP 0 rfl rfl 6 (by decide) (hw _ mw_2_116) (fun _ h9 => h9) rfl dX3_partsOf_8 ?_
      refine va_getN (D := D) (ci := 7) (v := .int (ns 2)) (C := RX7) (T := TX7) (N := 5) hx hb hw inW_X7 hown hK hP 7 rfl rfl 0 (by decide) hn123 (fun _ h9 => h9) rfl dX3_partsOf_11 ?_
      refine lv_icmp_ge (tgt := 50) hx hb dX3_partsOf_14 (by decide) (fun c1 => ?_) (fun c1 => ?_)
      · have h := h.1 c1
        refine lv_lload_n hx hb dX3_partsOf_50 rfl (lv_at hl 2 rfl) ?_
        rw [← hQ]
        exact cRetL (v := x2_) () hx hb hr hlocks hS hP hD h dX3_partsOf_51
      · have h := h.2 c1
        refine lv_aload_n hx hb dX3_partsOf_17 rfl (lv_at hl 0 rfl) ?_
        refine va_get (D := D) (ci := 3) (v := .ref (aN 7)) (C := RX3) (T := TX3) (N := 10) hx hb hw inW_X3 hown hK hP 0 rfl rfl 6 (by decide) (hw _ mw_2_116) (fun _ h9 => h9) rfl dX3_partsOf_18 ?_
        refine va_getN (D := D) (ci := 7) (v := .ref (aN 8)) (C := RX7) (T := TX7) (N := 5) hx hb hw inW_X7 hown hK hP 7 rfl rfl 1 (by decide) hn126 (fun _ h9 => h9) rfl dX3_partsOf_21 ?_
        refine lv_iload hx hb dX3_partsOf_24 (lv_at hl 3 rfl) ?_
        refine cIald hx hb hK hP 8 0 rfl rfl x4_.toNatClampNeg rfl h.1 dX3_partsOf_26 ?_
        have h := h.2
        refine lv_iload_n hx hb dX3_partsOf_27 rfl (lv_at hl 1 rfl) ?_
        refine lv_icmp_ne (tgt := 44) hx hb dX3_partsOf_28 (by decide) (fun c2 => ?_) (fun c2 => ?_)
        · have h := h.1 c2
          refine lv_iinc (v := (x4_ + 1)) (lv' := [(4, .int (x4_ + 1)), (0, .ref n0), (1, .int p1), (2, .long x2_)]) hx hb dX3_partsOf_44 hl (k := 3) rfl rfl (by decide) rfl (fun ls hl => ?_)
          refine lv_goto (tgt := 5) hx hb dX3_partsOf_47 (by decide) ?_
          exact ih5 x2_ (x4_ + 1) _ _ _ h hP hD hS (lv_sub hl [1, 2, 3, 0] rfl)
        · have h := h.2 c2
          refine lv_lload_n hx hb dX3_partsOf_31 rfl (lv_at hl 2 rfl) ?_
          refine lv_aload_n hx hb dX3_partsOf_32 rfl (lv_at hl 0 rfl) ?_
          refine va_get (D := D) (ci := 3) (v := .ref (aN 7)) (C := RX3) (T := TX3) (N := 10) hx hb hw inW_X3 hown hK hP 0 rfl rfl 6 (by decide) (hw _ mw_2_116) (fun _ h9 => h9) rfl dX3_partsOf_33 ?_
          refine va_getN (D := D) (ci := 7) (v := .ref (aN 9)) (C := RX7) (T := TX7) (N := 5) hx hb hw inW_X7 hown hK hP 7 rfl rfl 2 (by decide) hn129 (fun _ h9 => h9) rfl dX3_partsOf_36 ?_
          refine lv_iload hx hb dX3_partsOf_39 (lv_at hl 3 rfl) ?_
          refine cLald hx hb hK hP 9 1 rfl rfl x4_.toNatClampNeg rfl h.1 dX3_partsOf_41 ?_
          have h := h.2
          refine lv_ladd hx hb dX3_partsOf_42 ?_
          refine lv_topl (fun x3 ex3 => ?_)
          have h := h x3 ex3
          refine lv_lstore_n (lv' := [(2, .long x3), (0, .ref n0), (1, .int p1), (4, .int x4_)]) hx hb dX3_partsOf_43 rfl hl (by decide) rfl (fun ls hl => ?_)
          refine lv_iinc (v := (x4_ + 1)) (lv' := [(4, .int (x4_ + 1)), (2, .long x3), (0, .ref n0), (1, .int p1)]) hx hb dX3_partsOf_44 hl (k := 3) rfl rfl (by decide) rfl (fun ls hl => ?_)
          refine lv_goto (tgt := 5) hx hb dX3_partsOf_47 (by decide) ?_
          exact ih5 x3 (x4_ + 1) _ _ _ h hP hD hS (lv_sub hl [2, 3, 1, 0] rfl)
  refine lv_lconst (v := 0) hx hb dX3_partsOf_0 (by decide) ?_
  refine lv_lstore_n (lv' := [(2, .long 0), (0, .ref n0), (1, .int p1)]) hx hb dX3_partsOf_1 rfl hl (by decide) rfl (fun ls hl => ?_)
  refine lv_iconst (v := 0) hx hb dX3_partsOf_2 (by decide) ?_
  refine lv_istore (lv' := [(4, .int 0), (2, .long 0), (0, .ref n0), (1, .int p1)]) hx hb dX3_partsOf_3 hl (by decide) rfl (fun ls hl => ?_)
  obtain ⟨n, h⟩ := h
  exact N5  n 0 0 _ _ _ h hP hD hS (lv_sub hl [2, 3, 1, 0] rfl)
