abbrev vsX11_leastOption : List Cond := Cond.code yX11_leastOption cX11_leastOption 11 (some .int) :: WS
abbrev rmX11_leastOption : Room := { frames := 4, cells := 0, slots := 0, locals := 105 }
set_option maxHeartbeats 4000000 in
set_option maxRecDepth 100000 in
theorem k_X11_leastOption (l : Launch) (D : va_G) (C : Nat → ClassId) (sz : Nat) (L0 : Nat) (aR0 : Nat → Nat) (n0 : Nat) (aN : Nat → Nat) (h_reader : Nat) (h_rail : Nat) (h_trial : Nat) (h_images : Nat) (h_slots : Nat) (h_triedYear : Nat) (h_ofBikes : Nat) (rs0 : Nat → Int32) (ra0 : Nat → Nat → Int32) (ns : Nat → Int32) (na : Nat → Nat → Int32) (nl : Nat → Nat → Int64) (p2 : Int32) (p3 : Int32) {post : Int32 → (Nat → Nat → Int32) → (Nat → Int32) → (Nat → Nat → Int32) → (Nat → Nat → Int64) → Prop} (h : P_X11_leastOption rs0 ra0 ns na nl p2 p3 post) : Met l yX11_leastOption vsX11_leastOption rmX11_leastOption (cPre D C [.ref L0, .ref (aR0 0), .int p2, .int p3] sz ([cLockRail L0 h_reader h_rail h_trial h_images h_slots n0 h_triedYear h_ofBikes C ] ++ (wRail aR0 C rs0 ra0 ++ (wNight n0 aN C ns na nl)))) (cQi D (fun (r : Int32) (u : (Nat → Nat) × (Nat → Nat → Int32) × (Nat → Int32) × (Nat → Nat → Int32) × (Nat → Nat → Int64)) => post r u.2.1 u.2.2.1 u.2.2.2.1 u.2.2.2.2) (fun u => [cLockRail L0 h_reader h_rail h_trial h_images h_slots n0 h_triedYear h_ofBikes C ] ++ (wRail aR0 C rs0 u.2.1 ++ (wNight n0 u.1 C u.2.2.1 u.2.2.2.1 u.2.2.2.2))) (va_A (List.flatten ([cLockRail L0 h_reader h_rail h_trial h_images h_slots n0 h_triedYear h_ofBikes C ] ++ (wRail aR0 C rs0 ra0 ++ (wNight n0 aN C ns na nl)))) sz)) 0 0 (va_A (List.flatten ([cLockRail L0 h_reader h_rail h_trial h_images h_slots n0 h_triedYear h_ofBikes C ] ++ (wRail aR0 C rs0 ra0 ++ (wNight n0 aN C ns na nl)))) sz) := by
  refine cStart (QA := fun A => cQi D (fun (r : Int32) (u : (Nat → Nat) × (Nat → Nat → Int32) × (Nat → Int32) × (Nat → Nat → Int32) × (Nat → Nat → Int64)) => post r u.2.1 u.2.2.1 u.2.2.2.1 u.2.2.2.2) (fun u => [cLockRail L0 h_reader h_rail h_trial h_images h_slots n0 h_triedYear h_ofBikes C ] ++ (wRail aR0 C rs0 u.2.1 ++ (wNight n0 u.1 C u.2.2.1 u.2.2.2.1 u.2.2.2.2))) A) (cc := cX11_leastOption) (maxL := 11) (ret := (some .int)) (by decide) (Nat.le_of_ble_eq_true rfl) ?_
  intro p e s m args below meth c A ls hx hb hr hml hown hw hlocks hname hK hN hA hP hD hS hl
  generalize hQ : MQ below _ args s 0 0 A = Q
  have hl : lv_has ls 11 [(0, .ref L0), (1, .ref (aR0 0)), (2, .int p2), (3, .int p3)] := hl
  have hn97 : (Cond.fieldLinkNest "LockRail" 97 "LockRail$Rail" "bikes" "LLockRail$Bikes;" "LockRail").before args s = true := hN.f 61 rfl
  obtain ⟨H, hH⟩ : ∃ H, H = s.heap := ⟨_, rfl⟩
  obtain ⟨locs, hlo⟩ : ∃ z : List Loc, z = [] := ⟨_, rfl⟩
  have hP : va_P D vwCl (List.flatten ([cLockRail L0 h_reader h_rail h_trial h_images h_slots n0 h_triedYear h_ofBikes C ] ++ (wRail aR0 C rs0 ra0 ++ (wNight n0 aN C ns na nl)))) H := by rw [hH]; exact hP
  have hS : va_S A s.heap H locs := by rw [hH, hlo]; exact hS
  rw [show W p l e rmX11_leastOption s m args below meth c s.heap [] 0 0 Q (F0 m 0 ls []) = W p l e rmX11_leastOption s m args below meth c H locs 0 0 Q (F0 m 0 ls []) from by rw [hH, hlo]]
  have N107 : ∀ (x4_ : Int32) (x5_ : Int32) (ra0 : Nat → Nat → Int32) (ns : Nat → Int32) (na : Nat → Nat → Int32) (nl : Nat → Nat → Int64) (aN : Nat → Nat) (H : Heap) (locs : List Loc) (ls : Array Slot), P_X11_leastOption_107 rs0 p2 p3 post  x4_ x5_ ra0 ns na nl → va_P D vwCl (List.flatten ([cLockRail L0 h_reader h_rail h_trial h_images h_slots n0 h_triedYear h_ofBikes C ] ++ (wRail aR0 C rs0 ra0 ++ (wNight n0 aN C ns na nl)))) H → va_D A (List.flatten ([cLockRail L0 h_reader h_rail h_trial h_images h_slots n0 h_triedYear h_ofBikes C ] ++ (wRail aR0 C rs0 ra0 ++ (wNight n0 aN C ns na nl)))) → va_S A s.heap H locs → lv_has ls 11 [(1, .ref (aR0 0)), (2, .int p2), (4, .int x4_), (5, .int x5_)] → W p l e rmX11_leastOption s m args below meth c H locs 0 0 Q (F0 m 107 ls []) := by
    intro x4_ x5_ ra0 ns na nl aN H locs ls h hP hD hS hl
    refine lv_aload_n hx hb dX11_leastOption_107 rfl (lv_at hl 0 rfl) ?_
    refine va_getN (D := D) (ci := 4) (v := .ref (aR0 7)) (C := RX4) (T := TX4) (N := 16) hx hb hw inW_X4 hown hK hP 1 rfl rfl 5 (by decide) hn97 (fun _ h9 => h9) rfl dX11_leastOption_108 ?_
    refine lv_iload_n hx hb dX11_leastOption_111 rfl (lv_at hl 1 rfl) ?_
    refine lv_iload hx hb dX11_leastOption_112 (lv_at hl 2 rfl) ?_
    refine cGoV (wo := fun u => [cLockRail L0 h_reader h_rail h_trial h_images h_slots n0 h_triedYear h_ofBikes C ] ++ (wRail aR0 C rs0 (va_up (va_up ra0 7 u.1) 8 u.2) ++ (wNight n0 aN C ns na nl))) (cRunVN (As := [.int p2, .int x4_]) (rest := []) ⟨hx, hb, hml, hown, hw⟩ hK hN hP hD [4] rfl rfl (k_X0_setOption l D C _ (aR0 7) (aR0 8) (aR0 9) (aR0 10) (aR0 11) (aR0 12)  (rs0 13) (ra0 4) (ra0 5) (ra0 6) (ra0 7) (ra0 8) p2 x4_ h) ⟨va_cnB 2 hw (goodN mw_4_153) rfl rfl rfl (hN.m 58 rfl) (hw _ mw_1_7) (by decide +kernel) ⟨Nat.le_of_ble_eq_true rfl, Nat.le_of_ble_eq_true rfl⟩, hw _ mw_4_152, hw _ mw_s68⟩ rfl rfl rfl hl.1 rfl (Nat.le_of_ble_eq_true rfl) dX11_leastOption_114 ⟨Nat.zero_le _, Nat.zero_le _⟩) hP hD hS hA [4] [0, 1, 2, 3, 5, 6, 7, 8, 9] [0, 1, 2, 3, 9, 4, 5, 6, 7, 8] rfl rfl rfl (by decide) rfl (fun _ => rfl) (fun u H locs h hP hD hS => ?_)
    obtain ⟨loc_1, mar_2⟩ := u
    have hP : va_P D vwCl (List.flatten ([cLockRail L0 h_reader h_rail h_trial h_images h_slots n0 h_triedYear h_ofBikes C ] ++ (wRail aR0 C rs0 (va_up (va_up ra0 7 loc_1) 8 mar_2) ++ (wNight n0 aN C ns na nl)))) H := hP
    have hD : va_D A (List.flatten ([cLockRail L0 h_reader h_rail h_trial h_images h_slots n0 h_triedYear h_ofBikes C ] ++ (wRail aR0 C rs0 (va_up (va_up ra0 7 loc_1) 8 mar_2) ++ (wNight n0 aN C ns na nl)))) := hD
    refine lv_iload hx hb dX11_leastOption_117 (lv_at hl 3 rfl) ?_
    rw [← hQ]
    exact cRetI (v := x5_) (aN, (va_up (va_up ra0 7 loc_1) 8 mar_2), ns, na, nl) hx hb hr hlocks hS hP hD h dX11_leastOption_119
  have N46 : ∀ (x4_ : Int32) (n46 : Nat) (x5_ : Int32) (x6_ : Int64) (x8_ : Int32) (ra0 : Nat → Nat → Int32) (ns : Nat → Int32) (na : Nat → Nat → Int32) (nl : Nat → Nat → Int64) (aN : Nat → Nat) (H : Heap) (locs : List Loc) (ls : Array Slot), P_X11_leastOption_46 rs0 p2 p3 post (fun (x4_ : Int32) (x5_ : Int32) (ra0 : Nat → Nat → Int32) (ns : Nat → Int32) (na : Nat → Nat → Int32) (nl : Nat → Nat → Int64) => P_X11_leastOption_107 rs0 p2 p3 post  x4_ x5_ ra0 ns na nl) x4_ n46 x5_ x6_ x8_ ra0 ns na nl → va_P D vwCl (List.flatten ([cLockRail L0 h_reader h_rail h_trial h_images h_slots n0 h_triedYear h_ofBikes C ] ++ (wRail aR0 C rs0 ra0 ++ (wNight n0 aN C ns na nl)))) H → va_D A (List.flatten ([cLockRail L0 h_reader h_rail h_trial h_images h_slots n0 h_triedYear h_ofBikes C ] ++ (wRail aR0 C rs0 ra0 ++ (wNight n0 aN C ns na nl)))) → va_S A s.heap H locs → lv_has ls 11 [(0, .ref L0), (1, .ref (aR0 0)), (2, .int p2), (4, .int x4_), (5, .int x5_), (6, .long x6_), (8, .int x8_)] → W p l e rmX11_leastOption s m args below meth c H locs 0 0 Q (F0 m 46 ls []) := by
    intro x4_
    intro n46
    induction n46 with
    | zero => intro x5_ x6_ x8_ ra0 ns na nl aN H locs ls h hP hD hS hl; exact False.elim h
    | succ n46 ih46 =>
      intro x5_ x6_ x8_ ra0 ns na nl aN H locs ls h hP hD hS hl
      have h : P_X11_leastOption_46_b rs0 p2 p3 post (fun (x4_ : Int32) (x5_ : Int32) (ra0 : Nat → Nat → Int32) (ns : Nat → Int32) (na : Nat → Nat → Int32) (nl : Nat → Nat → Int64) => P_X11_leastOption_107 rs0 p2 p3 post  x4_ x5_ ra0 ns na nl) x4_ (P_X11_leastOption_46 rs0 p2 p3 post (fun (x4_ : Int32) (x5_ : Int32) (ra0 : Nat → Nat → Int32) (ns : Nat → Int32) (na : Nat → Nat → Int32) (nl : Nat → Nat → Int64) => P_X11_leastOption_107 rs0 p2 p3 post  x4_ x5_ ra0 ns na nl) x4_ n46) x5_ x6_ x8_ ra0 ns na nl := h
      unfold P_X11_leastOption_46_b at h
      refine lv_iload hx hb dX11_leastOption_46 (lv_at hl 6 rfl) ?_
      refine lv_aload_n hx hb dX11_leastOption_48 rfl (lv_at hl 1 rfl) ?_
      refine cGoI (wo := fun u => [cLockRail L0 h_reader h_rail h_trial h_images h_slots n0 h_triedYear h_ofBikes C ] ++ (wRail aR0 C rs0 ra0 ++ (wNight n0 aN C ns na nl))) (cRunVN (As := []) (rest := [.int x8_]) ⟨hx, hb, hml, hown, hw⟩ hK hN hP hD [1, 2, 3, 4, 5, 6] rfl rfl (k_X4_options l D C _ aR0  rs0 ra0  h) ⟨va_cnB 0 hw (goodN mw_4_144) rfl rfl rfl (hN.m 59 rfl) (hw _ mw_1_4) (by decide +kernel) ⟨Nat.le_of_ble_eq_true rfl, Nat.le_of_ble_eq_true rfl⟩, hw _ mw_4_143, hw _ mw_s66⟩ rfl rfl rfl hl.1 rfl (Nat.le_of_ble_eq_true rfl) dX11_leastOption_49 ⟨Nat.zero_le _, Nat.zero_le _⟩) hP hD hS hA [1, 2, 3, 4, 5, 6] [0, 7, 8, 9] [0, 4, 5, 6, 7, 8, 9, 1, 2, 3] rfl rfl rfl (by decide) rfl (fun _ => rfl) (fun r3 u H locs h hP hD hS => ?_)
      have hP : va_P D vwCl (List.flatten ([cLockRail L0 h_reader h_rail h_trial h_images h_slots n0 h_triedYear h_ofBikes C ] ++ (wRail aR0 C rs0 ra0 ++ (wNight n0 aN C ns na nl)))) H := hP
      have hD : va_D A (List.flatten ([cLockRail L0 h_reader h_rail h_trial h_images h_slots n0 h_triedYear h_ofBikes C ] ++ (wRail aR0 C rs0 ra0 ++ (wNight n0 aN C ns na nl)))) := hD
      refine lv_icmp_ge (tgt := 107) hx hb dX11_leastOption_52 (by decide) (fun c4 => ?_) (fun c4 => ?_)
      · have h := h.1 c4
        exact N107 x4_ x5_ ra0 ns na nl aN _ _ _ h hP hD hS (lv_sub hl [1, 2, 3, 4] rfl)
      · have h := h.2 c4
        refine lv_aload_n hx hb dX11_leastOption_55 rfl (lv_at hl 1 rfl) ?_
        refine va_getN (D := D) (ci := 4) (v := .ref (aR0 7)) (C := RX4) (T := TX4) (N := 16) hx hb hw inW_X4 hown hK hP 1 rfl rfl 5 (by decide) hn97 (fun _ h9 => h9) rfl dX11_leastOption_56 ?_
        refine lv_iload_n hx hb dX11_leastOption_59 rfl (lv_at hl 2 rfl) ?_
        refine lv_iload hx hb dX11_leastOption_60 (lv_at hl 6 rfl) ?_
        refine cGoV (wo := fun u => [cLockRail L0 h_reader h_rail h_trial h_images h_slots n0 h_triedYear h_ofBikes C ] ++ (wRail aR0 C rs0 (va_up (va_up ra0 7 u.1) 8 u.2) ++ (wNight n0 aN C ns na nl))) (cRunVN (As := [.int p2, .int x8_]) (rest := []) ⟨hx, hb, hml, hown, hw⟩ hK hN hP hD [4] rfl rfl (k_X0_setOption l D C _ (aR0 7) (aR0 8) (aR0 9) (aR0 10) (aR0 11) (aR0 12)  (rs0 13) (ra0 4) (ra0 5) (ra0 6) (ra0 7) (ra0 8) p2 x8_ h) ⟨va_cnB 2 hw (goodN mw_4_153) rfl rfl rfl (hN.m 58 rfl) (hw _ mw_1_7) (by decide +kernel) ⟨Nat.le_of_ble_eq_true rfl, Nat.le_of_ble_eq_true rfl⟩, hw _ mw_4_152, hw _ mw_s68⟩ rfl rfl rfl hl.1 rfl (Nat.le_of_ble_eq_true rfl) dX11_leastOption_62 ⟨Nat.zero_le _, Nat.zero_le _⟩) hP hD hS hA [4] [0, 1, 2, 3, 5, 6, 7, 8, 9] [0, 1, 2, 3, 9, 4, 5, 6, 7, 8] rfl rfl rfl (by decide) rfl (fun _ => rfl) (fun u H locs h hP hD hS => ?_)
        obtain ⟨loc_5, mar_6⟩ := u
        have hP : va_P D vwCl (List.flatten ([cLockRail L0 h_reader h_rail h_trial h_images h_slots n0 h_triedYear h_ofBikes C ] ++ (wRail aR0 C rs0 (va_up (va_up ra0 7 loc_5) 8 mar_6) ++ (wNight n0 aN C ns na nl)))) H := hP
        have hD : va_D A (List.flatten ([cLockRail L0 h_reader h_rail h_trial h_images h_slots n0 h_triedYear h_ofBikes C ] ++ (wRail aR0 C rs0 (va_up (va_up ra0 7 loc_5) 8 mar_6) ++ (wNight n0 aN C ns na nl)))) := hD
        refine lv_aload_n hx hb dX11_leastOption_65 rfl (lv_at hl 0 rfl) ?_
        refine va_get (D := D) (ci := 11) (v := .ref n0) (C := RX11) (T := TX11) (N := 8) hx hb hw inW_X11 hown hK hP 0 rfl rfl 5 (by decide) (hw _ mw_2_148) (fun _ h9 => h9) rfl dX11_leastOption_66 ?_
        refine lv_aload_n hx hb dX11_leastOption_69 rfl (lv_at hl 1 rfl) ?_
        refine cGoV (wo := fun u => [cLockRail L0 h_reader h_rail h_trial h_images h_slots n0 h_triedYear h_ofBikes C ] ++ (wRail aR0 C rs0 (va_up (va_up ra0 7 loc_5) 8 mar_6) ++ (wNight n0 u.1 C u.2.1 u.2.2.1 u.2.2.2))) (cRunVN (As := [.ref (aR0 0)]) (rest := []) ⟨hx, hb, hml, hown, hw⟩ hK hN hP hD [7, 8, 9, 1, 2, 3, 4, 5, 6] rfl rfl (k_X3_play l D C _ n0 aN aR0  ns na nl rs0 (va_up (va_up ra0 7 loc_5) 8 mar_6)  h) ⟨va_cnB 1 hw (goodN mw_4_24) rfl rfl rfl (hN.m 45 rfl) (hw _ mw_1_11) (by decide +kernel) ⟨Nat.le_of_ble_eq_true rfl, Nat.le_of_ble_eq_true rfl⟩, hw _ mw_4_23, hw _ mw_s48⟩ rfl rfl rfl hl.1 rfl (Nat.le_of_ble_eq_true rfl) dX11_leastOption_70 ⟨Nat.zero_le _, Nat.zero_le _⟩) hP hD hS hA [7, 8, 9, 1, 2, 3, 4, 5, 6] [0] [0, 4, 5, 6, 7, 8, 9, 1, 2, 3] rfl rfl rfl (by decide) rfl (fun _ => rfl) (fun u H locs h hP hD hS => ?_)
        obtain ⟨aN7, ns_8, na_9, nl_10⟩ := u
        have hP : va_P D vwCl (List.flatten ([cLockRail L0 h_reader h_rail h_trial h_images h_slots n0 h_triedYear h_ofBikes C ] ++ (wRail aR0 C rs0 (va_up (va_up ra0 7 loc_5) 8 mar_6) ++ (wNight n0 aN7 C ns_8 na_9 nl_10)))) H := hP
        have hD : va_D A (List.flatten ([cLockRail L0 h_reader h_rail h_trial h_images h_slots n0 h_triedYear h_ofBikes C ] ++ (wRail aR0 C rs0 (va_up (va_up ra0 7 loc_5) 8 mar_6) ++ (wNight n0 aN7 C ns_8 na_9 nl_10)))) := hD
        refine lv_aload_n hx hb dX11_leastOption_73 rfl (lv_at hl 0 rfl) ?_
        refine va_get (D := D) (ci := 11) (v := .ref n0) (C := RX11) (T := TX11) (N := 8) hx hb hw inW_X11 hown hK hP 0 rfl rfl 5 (by decide) (hw _ mw_2_148) (fun _ h9 => h9) rfl dX11_leastOption_74 ?_
        refine lv_aload_n hx hb dX11_leastOption_77 rfl (lv_at hl 1 rfl) ?_
        refine lv_iload_n hx hb dX11_leastOption_78 rfl (lv_at hl 2 rfl) ?_
        refine lv_iconst (v := 2) hx hb dX11_leastOption_79 (by decide) ?_
        refine cGoL (wo := fun u => [cLockRail L0 h_reader h_rail h_trial h_images h_slots n0 h_triedYear h_ofBikes C ] ++ (wRail aR0 C rs0 (va_up (va_up ra0 7 loc_5) 8 mar_6) ++ (wNight n0 aN7 C ns_8 na_9 nl_10))) (cRunVN (As := [.ref (aR0 0), .int p2, .int 2]) (rest := []) ⟨hx, hb, hml, hown, hw⟩ hK hN hP hD [7, 8, 9, 1, 2, 3, 4, 5, 6] rfl rfl (k_X3_costOf l D C _ n0 aN7 aR0  ns_8 na_9 nl_10 rs0 (va_up (va_up ra0 7 loc_5) 8 mar_6) p2 2 h) ⟨va_cnB 3 hw (goodN mw_4_104) rfl rfl rfl (hN.m 52 rfl) (hw _ mw_1_11) (by decide +kernel) ⟨Nat.le_of_ble_eq_true rfl, Nat.le_of_ble_eq_true rfl⟩, hw _ mw_4_103, hw _ mw_s59⟩ rfl rfl rfl hl.1 rfl (Nat.le_of_ble_eq_true rfl) dX11_leastOption_80 ⟨Nat.zero_le _, Nat.zero_le _⟩) hP hD hS hA [7, 8, 9, 1, 2, 3, 4, 5, 6] [0] [0, 4, 5, 6, 7, 8, 9, 1, 2, 3] rfl rfl rfl (by decide) rfl (fun _ => rfl) (fun r11 u H locs h hP hD hS => ?_)
        have hP : va_P D vwCl (List.flatten ([cLockRail L0 h_reader h_rail h_trial h_images h_slots n0 h_triedYear h_ofBikes C ] ++ (wRail aR0 C rs0 (va_up (va_up ra0 7 loc_5) 8 mar_6) ++ (wNight n0 aN7 C ns_8 na_9 nl_10)))) H := hP
        have hD : va_D A (List.flatten ([cLockRail L0 h_reader h_rail h_trial h_images h_slots n0 h_triedYear h_ofBikes C ] ++ (wRail aR0 C rs0 (va_up (va_up ra0 7 loc_5) 8 mar_6) ++ (wNight n0 aN7 C ns_8 na_9 nl_10)))) := hD
        refine lv_lstore (lv' := [(9, .long r11), (0, .ref L0), (1, .ref (aR0 0)), (2, .int p2), (4, .int x4_), (5, .int x5_), (6, .long x6_), (8, .int x8_)]) hx hb dX11_leastOption_83 hl (by decide) rfl (fun ls hl => ?_)
        refine lv_lload hx hb dX11_leastOption_85 (lv_at hl 0 rfl) ?_
        refine lv_lload hx hb dX11_leastOption_87 (lv_at hl 6 rfl) ?_
        refine W.lcmp hx hb dX11_leastOption_89 ?_
        refine lv_if_ge (tgt := 101) hx hb dX11_leastOption_90 (by decide) (fun c12 => ?_) (fun c12 => ?_)
        · have c12 : x6_ ≤ r11 := (lg_cmp_ge _ _).mp c12
          have h := h.1 c12
          refine lv_iinc (v := (x8_ + 1)) (lv' := [(8, .int (x8_ + 1)), (9, .long r11), (0, .ref L0), (1, .ref (aR0 0)), (2, .int p2), (4, .int x4_), (5, .int x5_), (6, .long x6_)]) hx hb dX11_leastOption_101 hl (k := 7) rfl rfl (by decide) rfl (fun ls hl => ?_)
          refine lv_goto (tgt := 46) hx hb dX11_leastOption_104 (by decide) ?_
          exact ih46 x5_ x6_ (x8_ + 1) (va_up (va_up ra0 7 loc_5) 8 mar_6) ns_8 na_9 nl_10 aN7 _ _ _ h hP hD hS (lv_sub hl [2, 3, 4, 5, 6, 7, 0] rfl)
        · have c12 : ¬ x6_ ≤ r11 := fun q => c12 ((lg_cmp_ge _ _).mpr q)
          have h := h.2 c12
          refine lv_lload hx hb dX11_leastOption_93 (lv_at hl 0 rfl) ?_
          refine lv_lstore (lv' := [(6, .long r11), (9, .long r11), (0, .ref L0), (1, .ref (aR0 0)), (2, .int p2), (4, .int x4_), (5, .int x5_), (8, .int x8_)]) hx hb dX11_leastOption_95 hl (by decide) rfl (fun ls hl => ?_)
          refine lv_iload hx hb dX11_leastOption_97 (lv_at hl 7 rfl) ?_
          refine lv_istore (lv' := [(5, .int x8_), (6, .long r11), (9, .long r11), (0, .ref L0), (1, .ref (aR0 0)), (2, .int p2), (4, .int x4_), (8, .int x8_)]) hx hb dX11_leastOption_99 hl (by decide) rfl (fun ls hl => ?_)
          refine lv_iinc (v := (x8_ + 1)) (lv' := [(8, .int (x8_ + 1)), (5, .int x8_), (6, .long r11), (9, .long r11), (0, .ref L0), (1, .ref (aR0 0)), (2, .int p2), (4, .int x4_)]) hx hb dX11_leastOption_101 hl (k := 7) rfl rfl (by decide) rfl (fun ls hl => ?_)
          refine lv_goto (tgt := 46) hx hb dX11_leastOption_104 (by decide) ?_
          exact ih46 x8_ r11 (x8_ + 1) (va_up (va_up ra0 7 loc_5) 8 mar_6) ns_8 na_9 nl_10 aN7 _ _ _ h hP hD hS (lv_sub hl [4, 5, 6, 7, 1, 2, 0] rfl)
  refine lv_aload_n hx hb dX11_leastOption_0 rfl (lv_at hl 1 rfl) ?_
  refine va_getN (D := D) (ci := 4) (v := .ref (aR0 7)) (C := RX4) (T := TX4) (N := 16) hx hb hw inW_X4 hown hK hP 1 rfl rfl 5 (by decide) hn97 (fun _ h9 => h9) rfl dX11_leastOption_1 ?_
  refine lv_iload_n hx hb dX11_leastOption_4 rfl (lv_at hl 2 rfl) ?_
  refine cGoI (wo := fun u => [cLockRail L0 h_reader h_rail h_trial h_images h_slots n0 h_triedYear h_ofBikes C ] ++ (wRail aR0 C rs0 ra0 ++ (wNight n0 aN C ns na nl))) (cRunVN (As := [.int p2]) (rest := []) ⟨hx, hb, hml, hown, hw⟩ hK hN hP hD [4] rfl rfl (k_X0_optionOf l D C _ (aR0 7) (aR0 8) (aR0 9) (aR0 10) (aR0 11) (aR0 12)  (rs0 13) (ra0 4) (ra0 5) (ra0 6) (ra0 7) (ra0 8) p2 h) ⟨va_cnB 1 hw (goodN mw_4_149) rfl rfl rfl (hN.m 57 rfl) (hw _ mw_1_7) (by decide +kernel) ⟨Nat.le_of_ble_eq_true rfl, Nat.le_of_ble_eq_true rfl⟩, hw _ mw_4_148, hw _ mw_s67⟩ rfl rfl rfl hl.1 rfl (Nat.le_of_ble_eq_true rfl) dX11_leastOption_5 ⟨Nat.zero_le _, Nat.zero_le _⟩) hP hD hS hA [4] [0, 1, 2, 3, 5, 6, 7, 8, 9] [0, 1, 2, 3, 9, 4, 5, 6, 7, 8] rfl rfl rfl (by decide) rfl (fun _ => rfl) (fun r13 u H locs h hP hD hS => ?_)
  have hP : va_P D vwCl (List.flatten ([cLockRail L0 h_reader h_rail h_trial h_images h_slots n0 h_triedYear h_ofBikes C ] ++ (wRail aR0 C rs0 ra0 ++ (wNight n0 aN C ns na nl)))) H := hP
  have hD : va_D A (List.flatten ([cLockRail L0 h_reader h_rail h_trial h_images h_slots n0 h_triedYear h_ofBikes C ] ++ (wRail aR0 C rs0 ra0 ++ (wNight n0 aN C ns na nl)))) := hD
  refine lv_istore (lv' := [(4, .int r13), (0, .ref L0), (1, .ref (aR0 0)), (2, .int p2), (3, .int p3)]) hx hb dX11_leastOption_8 hl (by decide) rfl (fun ls hl => ?_)
  refine lv_iload hx hb dX11_leastOption_10 (lv_at hl 0 rfl) ?_
  refine lv_istore (lv' := [(5, .int r13), (4, .int r13), (0, .ref L0), (1, .ref (aR0 0)), (2, .int p2), (3, .int p3)]) hx hb dX11_leastOption_12 hl (by decide) rfl (fun ls hl => ?_)
  refine lv_ldc2 (v := 9223372036854775807) hx hb hown (hw _ mw_4_170) dX11_leastOption_14 ?_
  refine lv_lstore (lv' := [(6, .long 9223372036854775807), (5, .int r13), (4, .int r13), (0, .ref L0), (1, .ref (aR0 0)), (2, .int p2), (3, .int p3)]) hx hb dX11_leastOption_17 hl (by decide) rfl (fun ls hl => ?_)
  refine lv_iload_n hx hb dX11_leastOption_19 rfl (lv_at hl 6 rfl) ?_
  refine lv_if_eq (tgt := 43) hx hb dX11_leastOption_20 (by decide) (fun c14 => ?_) (fun c14 => ?_)
  · have h := h.1 c14
    refine lv_iconst (v := 0) hx hb dX11_leastOption_43 (by decide) ?_
    refine lv_istore (lv' := [(8, .int 0), (6, .long 9223372036854775807), (5, .int r13), (4, .int r13), (0, .ref L0), (1, .ref (aR0 0)), (2, .int p2), (3, .int p3)]) hx hb dX11_leastOption_44 hl (by decide) rfl (fun ls hl => ?_)
    obtain ⟨n, h⟩ := h
    exact N46 r13 n r13 9223372036854775807 0 ra0 ns na nl aN _ _ _ h hP hD hS (lv_sub hl [4, 5, 6, 3, 2, 1, 0] rfl)
  · have h := h.2 c14
    refine lv_aload_n hx hb dX11_leastOption_23 rfl (lv_at hl 3 rfl) ?_
    refine va_get (D := D) (ci := 11) (v := .ref n0) (C := RX11) (T := TX11) (N := 8) hx hb hw inW_X11 hown hK hP 0 rfl rfl 5 (by decide) (hw _ mw_2_148) (fun _ h9 => h9) rfl dX11_leastOption_24 ?_
    refine lv_aload_n hx hb dX11_leastOption_27 rfl (lv_at hl 4 rfl) ?_
    refine cGoV (wo := fun u => [cLockRail L0 h_reader h_rail h_trial h_images h_slots n0 h_triedYear h_ofBikes C ] ++ (wRail aR0 C rs0 ra0 ++ (wNight n0 u.1 C u.2.1 u.2.2.1 u.2.2.2))) (cRunVN (As := [.ref (aR0 0)]) (rest := []) ⟨hx, hb, hml, hown, hw⟩ hK hN hP hD [7, 8, 9, 1, 2, 3, 4, 5, 6] rfl rfl (k_X3_play l D C _ n0 aN aR0  ns na nl rs0 ra0  h) ⟨va_cnB 1 hw (goodN mw_4_24) rfl rfl rfl (hN.m 45 rfl) (hw _ mw_1_11) (by decide +kernel) ⟨Nat.le_of_ble_eq_true rfl, Nat.le_of_ble_eq_true rfl⟩, hw _ mw_4_23, hw _ mw_s48⟩ rfl rfl rfl hl.1 rfl (Nat.le_of_ble_eq_true rfl) dX11_leastOption_28 ⟨Nat.zero_le _, Nat.zero_le _⟩) hP hD hS hA [7, 8, 9, 1, 2, 3, 4, 5, 6] [0] [0, 4, 5, 6, 7, 8, 9, 1, 2, 3] rfl rfl rfl (by decide) rfl (fun _ => rfl) (fun u H locs h hP hD hS => ?_)
    obtain ⟨aN15, ns_16, na_17, nl_18⟩ := u
    have hP : va_P D vwCl (List.flatten ([cLockRail L0 h_reader h_rail h_trial h_images h_slots n0 h_triedYear h_ofBikes C ] ++ (wRail aR0 C rs0 ra0 ++ (wNight n0 aN15 C ns_16 na_17 nl_18)))) H := hP
    have hD : va_D A (List.flatten ([cLockRail L0 h_reader h_rail h_trial h_images h_slots n0 h_triedYear h_ofBikes C ] ++ (wRail aR0 C rs0 ra0 ++ (wNight n0 aN15 C ns_16 na_17 nl_18)))) := hD
    refine lv_aload_n hx hb dX11_leastOption_31 rfl (lv_at hl 3 rfl) ?_
    refine va_get (D := D) (ci := 11) (v := .ref n0) (C := RX11) (T := TX11) (N := 8) hx hb hw inW_X11 hown hK hP 0 rfl rfl 5 (by decide) (hw _ mw_2_148) (fun _ h9 => h9) rfl dX11_leastOption_32 ?_
    refine lv_aload_n hx hb dX11_leastOption_35 rfl (lv_at hl 4 rfl) ?_
    refine lv_iload_n hx hb dX11_leastOption_36 rfl (lv_at hl 5 rfl) ?_
    refine lv_iconst (v := 2) hx hb dX11_leastOption_37 (by decide) ?_
    refine cGoL (wo := fun u => [cLockRail L0 h_reader h_rail h_trial h_images h_slots n0 h_triedYear h_ofBikes C ] ++ (wRail aR0 C rs0 ra0 ++ (wNight n0 aN15 C ns_16 na_17 nl_18))) (cRunVN (As := [.ref (aR0 0), .int p2, .int 2]) (rest := []) ⟨hx, hb, hml, hown, hw⟩ hK hN hP hD [7, 8, 9, 1, 2, 3, 4, 5, 6] rfl rfl (k_X3_costOf l D C _ n0 aN15 aR0  ns_16 na_17 nl_18 rs0 ra0 p2 2 h) ⟨va_cnB 3 hw (goodN mw_4_104) rfl rfl rfl (hN.m 52 rfl) (hw _ mw_1_11) (by decide +kernel) ⟨Nat.le_of_ble_eq_true rfl, Nat.le_of_ble_eq_true rfl⟩, hw _ mw_4_103, hw _ mw_s59⟩ rfl rfl rfl hl.1 rfl (Nat.le_of_ble_eq_true rfl) dX11_leastOption_38 ⟨Nat.zero_le _, Nat.zero_le _⟩) hP hD hS hA [7, 8, 9, 1, 2, 3, 4, 5, 6] [0] [0, 4, 5, 6, 7, 8, 9, 1, 2, 3] rfl rfl rfl (by decide) rfl (fun _ => rfl) (fun r19 u H locs h hP hD hS => ?_)
    have hP : va_P D vwCl (List.flatten ([cLockRail L0 h_reader h_rail h_trial h_images h_slots n0 h_triedYear h_ofBikes C ] ++ (wRail aR0 C rs0 ra0 ++ (wNight n0 aN15 C ns_16 na_17 nl_18)))) H := hP
    have hD : va_D A (List.flatten ([cLockRail L0 h_reader h_rail h_trial h_images h_slots n0 h_triedYear h_ofBikes C ] ++ (wRail aR0 C rs0 ra0 ++ (wNight n0 aN15 C ns_16 na_17 nl_18)))) := hD
    refine lv_lstore (lv' := [(6, .long r19), (5, .int r13), (4, .int r13), (0, .ref L0), (1, .ref (aR0 0)), (2, .int p2), (3, .int p3)]) hx hb dX11_leastOption_41 hl (by decide) rfl (fun ls hl => ?_)
    refine lv_iconst (v := 0) hx hb dX11_leastOption_43 (by decide) ?_
    refine lv_istore (lv' := [(8, .int 0), (6, .long r19), (5, .int r13), (4, .int r13), (0, .ref L0), (1, .ref (aR0 0)), (2, .int p2), (3, .int p3)]) hx hb dX11_leastOption_44 hl (by decide) rfl (fun ls hl => ?_)
    obtain ⟨n, h⟩ := h
    exact N46 r13 n r13 r19 0 ra0 ns_16 na_17 nl_18 aN15 _ _ _ h hP hD hS (lv_sub hl [4, 5, 6, 3, 2, 1, 0] rfl)
abbrev vsX11_best : List Cond := Cond.code yX11_best cX11_best 2 (some .int) :: WS
abbrev rmX11_best : Room := { frames := 5, cells := 0, slots := 0, locals := 135 }
set_option maxHeartbeats 4000000 in
set_option maxRecDepth 100000 in
theorem k_X11_best (l : Launch) (D : va_G) (C : Nat → ClassId) (sz : Nat) (L0 : Nat) (aU : Nat → Nat) (aR : Nat → Nat) (aR2 : Nat → Nat) (aS : Nat → Nat) (n0 : Nat) (aN : Nat → Nat) (y0 : Nat) (y1 : Nat) (y2 : Nat) (o0 : Nat) (h_images : Nat) (us : Nat → Int32) (ua : Nat → Nat → Int32) (rs : Nat → Int32) (ra : Nat → Nat → Int32) (rs2 : Nat → Int32) (ra2 : Nat → Nat → Int32) (sa : Nat → Nat → Int32) (sl : Nat → Nat → Int64) (ns : Nat → Int32) (na : Nat → Nat → Int32) (nl : Nat → Nat → Int64) (y_isThere : Int32) (y_taken : Nat → Int32) (y_took : Nat → Int32) (o_of : Nat → Int64) (p1 : Int32) {post : Int32 → (Nat → Int32) → (Nat → Nat → Int32) → (Nat → Int32) → (Nat → Nat → Int32) → (Nat → Nat → Int64) → Prop} (h : P_X11_best rs ra rs2 ra2 ns na nl p1 post) : Met l yX11_best vsX11_best rmX11_best (cPre D C [.ref L0, .int p1] sz ([cLockRail L0 (aU 0) (aR 0) (aR2 0) h_images (aS 0) n0 y0 o0 C ] ++ (wReader aU C us ua ++ (wRail aR C rs ra ++ (wRail aR2 C rs2 ra2 ++ (wSlots aS C sa sl ++ (wNight n0 aN C ns na nl ++ ([cYear y0 y1 y2 C y_isThere y_taken y_took] ++ ([cOb o0 C o_of]))))))))) (cQi D (fun (r : Int32) (u : (Nat → Nat) × (Nat → Int32) × (Nat → Nat → Int32) × (Nat → Int32) × (Nat → Nat → Int32) × (Nat → Nat → Int64)) => post r u.2.1 u.2.2.1 u.2.2.2.1 u.2.2.2.2.1 u.2.2.2.2.2) (fun u => [cLockRail L0 (aU 0) (aR 0) (aR2 0) h_images (aS 0) n0 y0 o0 C ] ++ (wReader aU C us ua ++ (wRail aR C rs ra ++ (wRail aR2 C u.2.1 u.2.2.1 ++ (wSlots aS C sa sl ++ (wNight n0 u.1 C u.2.2.2.1 u.2.2.2.2.1 u.2.2.2.2.2 ++ ([cYear y0 y1 y2 C y_isThere y_taken y_took] ++ ([cOb o0 C o_of])))))))) (va_A (List.flatten ([cLockRail L0 (aU 0) (aR 0) (aR2 0) h_images (aS 0) n0 y0 o0 C ] ++ (wReader aU C us ua ++ (wRail aR C rs ra ++ (wRail aR2 C rs2 ra2 ++ (wSlots aS C sa sl ++ (wNight n0 aN C ns na nl ++ ([cYear y0 y1 y2 C y_isThere y_taken y_took] ++ ([cOb o0 C o_of]))))))))) sz)) 0 0 (va_A (List.flatten ([cLockRail L0 (aU 0) (aR 0) (aR2 0) h_images (aS 0) n0 y0 o0 C ] ++ (wReader aU C us ua ++ (wRail aR C rs ra ++ (wRail aR2 C rs2 ra2 ++ (wSlots aS C sa sl ++ (wNight n0 aN C ns na nl ++ ([cYear y0 y1 y2 C y_isThere y_taken y_took] ++ ([cOb o0 C o_of]))))))))) sz) := by
  refine cStart (QA := fun A => cQi D (fun (r : Int32) (u : (Nat → Nat) × (Nat → Int32) × (Nat → Nat → Int32) × (Nat → Int32) × (Nat → Nat → Int32) × (Nat → Nat → Int64)) => post r u.2.1 u.2.2.1 u.2.2.2.1 u.2.2.2.2.1 u.2.2.2.2.2) (fun u => [cLockRail L0 (aU 0) (aR 0) (aR2 0) h_images (aS 0) n0 y0 o0 C ] ++ (wReader aU C us ua ++ (wRail aR C rs ra ++ (wRail aR2 C u.2.1 u.2.2.1 ++ (wSlots aS C sa sl ++ (wNight n0 u.1 C u.2.2.2.1 u.2.2.2.2.1 u.2.2.2.2.2 ++ ([cYear y0 y1 y2 C y_isThere y_taken y_took] ++ ([cOb o0 C o_of])))))))) A) (cc := cX11_best) (maxL := 2) (ret := (some .int)) (by decide) (Nat.le_of_ble_eq_true rfl) ?_
  intro p e s m args below meth c A ls hx hb hr hml hown hw hlocks hname hK hN hA hP hD hS hl
  generalize hQ : MQ below _ args s 0 0 A = Q
  have hl : lv_has ls 2 [(0, .ref L0), (1, .int p1)] := hl
  obtain ⟨H, hH⟩ : ∃ H, H = s.heap := ⟨_, rfl⟩
  obtain ⟨locs, hlo⟩ : ∃ z : List Loc, z = [] := ⟨_, rfl⟩
  have hP : va_P D vwCl (List.flatten ([cLockRail L0 (aU 0) (aR 0) (aR2 0) h_images (aS 0) n0 y0 o0 C ] ++ (wReader aU C us ua ++ (wRail aR C rs ra ++ (wRail aR2 C rs2 ra2 ++ (wSlots aS C sa sl ++ (wNight n0 aN C ns na nl ++ ([cYear y0 y1 y2 C y_isThere y_taken y_took] ++ ([cOb o0 C o_of]))))))))) H := by rw [hH]; exact hP
  have hS : va_S A s.heap H locs := by rw [hH, hlo]; exact hS
  rw [show W p l e rmX11_best s m args below meth c s.heap [] 0 0 Q (F0 m 0 ls []) = W p l e rmX11_best s m args below meth c H locs 0 0 Q (F0 m 0 ls []) from by rw [hH, hlo]]
  refine lv_aload_n hx hb dX11_best_0 rfl (lv_at hl 0 rfl) ?_
  refine va_get (D := D) (ci := 11) (v := .ref (aR 0)) (C := RX11) (T := TX11) (N := 8) hx hb hw inW_X11 hown hK hP 0 rfl rfl 1 (by decide) (hw _ mw_2_144) (fun _ h9 => h9) rfl dX11_best_1 ?_
  refine lv_iload_n hx hb dX11_best_4 rfl (lv_at hl 1 rfl) ?_
  refine cGoI (wo := fun u => [cLockRail L0 (aU 0) (aR 0) (aR2 0) h_images (aS 0) n0 y0 o0 C ] ++ (wReader aU C us ua ++ (wRail aR C rs ra ++ (wRail aR2 C rs2 ra2 ++ (wSlots aS C sa sl ++ (wNight n0 aN C ns na nl ++ ([cYear y0 y1 y2 C y_isThere y_taken y_took] ++ ([cOb o0 C o_of])))))))) (cRunVN (As := [.int p1]) (rest := []) ⟨hx, hb, hml, hown, hw⟩ hK hN hP hD [3, 4, 5, 6, 7, 8] rfl rfl (k_X4_hasBike l D C _ aR  rs ra p1 h) ⟨va_cnB 1 hw (goodN mw_3_183) rfl rfl rfl (hN.m 31 rfl) (hw _ mw_1_4) (by decide +kernel) ⟨Nat.le_of_ble_eq_true rfl, Nat.le_of_ble_eq_true rfl⟩, hw _ mw_3_182, hw _ mw_s34⟩ rfl rfl rfl hl.1 rfl (Nat.le_of_ble_eq_true rfl) dX11_best_5 ⟨Nat.zero_le _, Nat.zero_le _⟩) hP hD hS hA [3, 4, 5, 6, 7, 8] [0, 1, 2, 9, 10, 11, 12, 13, 14, 15, 16, 17, 18, 19, 20] [0, 1, 2, 15, 16, 17, 18, 19, 20, 3, 4, 5, 6, 7, 8, 9, 10, 11, 12, 13, 14] rfl rfl rfl (by decide) rfl (fun _ => rfl) (fun r1 u H locs h hP hD hS => ?_)
  have hP : va_P D vwCl (List.flatten ([cLockRail L0 (aU 0) (aR 0) (aR2 0) h_images (aS 0) n0 y0 o0 C ] ++ (wReader aU C us ua ++ (wRail aR C rs ra ++ (wRail aR2 C rs2 ra2 ++ (wSlots aS C sa sl ++ (wNight n0 aN C ns na nl ++ ([cYear y0 y1 y2 C y_isThere y_taken y_took] ++ ([cOb o0 C o_of]))))))))) H := hP
  have hD : va_D A (List.flatten ([cLockRail L0 (aU 0) (aR 0) (aR2 0) h_images (aS 0) n0 y0 o0 C ] ++ (wReader aU C us ua ++ (wRail aR C rs ra ++ (wRail aR2 C rs2 ra2 ++ (wSlots aS C sa sl ++ (wNight n0 aN C ns na nl ++ ([cYear y0 y1 y2 C y_isThere y_taken y_took] ++ ([cOb o0 C o_of]))))))))) := hD
  refine lv_if_ne (tgt := 14) hx hb dX11_best_8 (by decide) (fun c2 => ?_) (fun c2 => ?_)
  · have h := h.1 c2
    refine lv_aload_n hx hb dX11_best_14 rfl (lv_at hl 0 rfl) ?_
    refine va_get (D := D) (ci := 11) (v := .ref (aR2 0)) (C := RX11) (T := TX11) (N := 8) hx hb hw inW_X11 hown hK hP 0 rfl rfl 2 (by decide) (hw _ mw_2_145) (fun _ h9 => h9) rfl dX11_best_15 ?_
    refine lv_aload_n hx hb dX11_best_18 rfl (lv_at hl 0 rfl) ?_
    refine va_get (D := D) (ci := 11) (v := .ref (aR 0)) (C := RX11) (T := TX11) (N := 8) hx hb hw inW_X11 hown hK hP 0 rfl rfl 1 (by decide) (hw _ mw_2_144) (fun _ h9 => h9) rfl dX11_best_19 ?_
    refine cGoV (wo := fun u => [cLockRail L0 (aU 0) (aR 0) (aR2 0) h_images (aS 0) n0 y0 o0 C ] ++ (wReader aU C us ua ++ (wRail aR C rs ra ++ (wRail aR2 C u.1 u.2 ++ (wSlots aS C sa sl ++ (wNight n0 aN C ns na nl ++ ([cYear y0 y1 y2 C y_isThere y_taken y_took] ++ ([cOb o0 C o_of])))))))) (cRunVN (As := [.ref (aR 0)]) (rest := []) ⟨hx, hb, hml, hown, hw⟩ hK hN hP hD [9, 10, 11, 12, 13, 14, 3, 4, 5, 6, 7, 8] rfl rfl (k_X4_copyFrom l D C _ aR2 aR  rs2 ra2 rs ra  h) ⟨va_cnB 1 hw (goodN mw_3_126) rfl rfl rfl (hN.m 23 rfl) (hw _ mw_1_4) (by decide +kernel) ⟨Nat.le_of_ble_eq_true rfl, Nat.le_of_ble_eq_true rfl⟩, hw _ mw_3_125, hw _ mw_s26⟩ rfl rfl rfl hl.1 rfl (Nat.le_of_ble_eq_true rfl) dX11_best_22 ⟨Nat.zero_le _, Nat.zero_le _⟩) hP hD hS hA [9, 10, 11, 12, 13, 14, 3, 4, 5, 6, 7, 8] [0, 1, 2, 15, 16, 17, 18, 19, 20] [0, 1, 2, 15, 16, 17, 18, 19, 20, 9, 10, 11, 12, 13, 14, 3, 4, 5, 6, 7, 8] rfl rfl rfl (by decide) rfl (fun _ => rfl) (fun u H locs h hP hD hS => ?_)
    obtain ⟨rs_3, ra_4⟩ := u
    have hP : va_P D vwCl (List.flatten ([cLockRail L0 (aU 0) (aR 0) (aR2 0) h_images (aS 0) n0 y0 o0 C ] ++ (wReader aU C us ua ++ (wRail aR C rs ra ++ (wRail aR2 C rs_3 ra_4 ++ (wSlots aS C sa sl ++ (wNight n0 aN C ns na nl ++ ([cYear y0 y1 y2 C y_isThere y_taken y_took] ++ ([cOb o0 C o_of]))))))))) H := hP
    have hD : va_D A (List.flatten ([cLockRail L0 (aU 0) (aR 0) (aR2 0) h_images (aS 0) n0 y0 o0 C ] ++ (wReader aU C us ua ++ (wRail aR C rs ra ++ (wRail aR2 C rs_3 ra_4 ++ (wSlots aS C sa sl ++ (wNight n0 aN C ns na nl ++ ([cYear y0 y1 y2 C y_isThere y_taken y_took] ++ ([cOb o0 C o_of]))))))))) := hD
    refine lv_aload_n hx hb dX11_best_25 rfl (lv_at hl 0 rfl) ?_
    refine lv_aload_n hx hb dX11_best_26 rfl (lv_at hl 0 rfl) ?_
    refine va_get (D := D) (ci := 11) (v := .ref (aR2 0)) (C := RX11) (T := TX11) (N := 8) hx hb hw inW_X11 hown hK hP 0 rfl rfl 2 (by decide) (hw _ mw_2_145) (fun _ h9 => h9) rfl dX11_best_27 ?_
    refine lv_iload_n hx hb dX11_best_30 rfl (lv_at hl 1 rfl) ?_
    refine lv_iconst (v := 0) hx hb dX11_best_31 (by decide) ?_
    refine cGoI (wo := fun u => [cLockRail L0 (aU 0) (aR 0) (aR2 0) h_images (aS 0) n0 y0 o0 C ] ++ (wReader aU C us ua ++ (wRail aR C rs ra ++ (wRail aR2 C rs_3 u.2.1 ++ (wSlots aS C sa sl ++ (wNight n0 u.1 C u.2.2.1 u.2.2.2.1 u.2.2.2.2 ++ ([cYear y0 y1 y2 C y_isThere y_taken y_took] ++ ([cOb o0 C o_of])))))))) (cRunV (As := [.ref (aR2 0), .int p1, .int 0]) (rest := []) ⟨hx, hb, hml, hown, hw⟩ hK hN hP hD [0, 9, 10, 11, 12, 13, 14, 16, 17, 18] rfl rfl (k_X11_leastOption l D C _ L0 aR2 n0 aN (aU 0) (aR 0) (aR2 0) h_images (aS 0) y0 o0  rs_3 ra_4 ns na nl p1 0 h) (cwV 3 hw (goodV mw_4_166 mw_4_168 mw_s70 mw_1_1 mw_4_169) rfl rfl rfl (by decide +kernel) ⟨Nat.le_of_ble_eq_true rfl, Nat.le_of_ble_eq_true rfl⟩) rfl rfl rfl hl.1 rfl (Nat.le_of_ble_eq_true rfl) dX11_best_32 ⟨Nat.zero_le _, Nat.zero_le _⟩) hP hD hS hA [0, 9, 10, 11, 12, 13, 14, 16, 17, 18] [1, 2, 3, 4, 5, 6, 7, 8, 15, 19, 20] [11, 0, 1, 2, 3, 4, 5, 6, 7, 12, 13, 14, 15, 16, 17, 8, 18, 19, 20, 9, 10] rfl rfl rfl (by decide) rfl (fun _ => rfl) (fun r10 u H locs h hP hD hS => ?_)
    obtain ⟨aN5, ra_6, ns_7, na_8, nl_9⟩ := u
    have hP : va_P D vwCl (List.flatten ([cLockRail L0 (aU 0) (aR 0) (aR2 0) h_images (aS 0) n0 y0 o0 C ] ++ (wReader aU C us ua ++ (wRail aR C rs ra ++ (wRail aR2 C rs_3 ra_6 ++ (wSlots aS C sa sl ++ (wNight n0 aN5 C ns_7 na_8 nl_9 ++ ([cYear y0 y1 y2 C y_isThere y_taken y_took] ++ ([cOb o0 C o_of]))))))))) H := hP
    have hD : va_D A (List.flatten ([cLockRail L0 (aU 0) (aR 0) (aR2 0) h_images (aS 0) n0 y0 o0 C ] ++ (wReader aU C us ua ++ (wRail aR C rs ra ++ (wRail aR2 C rs_3 ra_6 ++ (wSlots aS C sa sl ++ (wNight n0 aN5 C ns_7 na_8 nl_9 ++ ([cYear y0 y1 y2 C y_isThere y_taken y_took] ++ ([cOb o0 C o_of]))))))))) := hD
    rw [← hQ]
    exact cRetI (v := r10) (aN5, rs_3, ra_6, ns_7, na_8, nl_9) hx hb hr hlocks hS hP hD h dX11_best_35
  · have h := h.2 c2
    refine lv_bipush (v := (-2)) hx hb dX11_best_11 (by decide) ?_
    rw [← hQ]
    exact cRetI (v := (-2)) (aN, rs2, ra2, ns, na, nl) hx hb hr hlocks hS hP hD h dX11_best_13
abbrev vsX11_restless : List Cond := Cond.code yX11_restless cX11_restless 3 (some .int) :: WS
abbrev rmX11_restless : Room := { frames := 5, cells := 0, slots := 0, locals := 135 }
set_option maxHeartbeats 4000000 in
set_option maxRecDepth 100000 in
theorem k_X11_restless (l : Launch) (D : va_G) (C : Nat → ClassId) (sz : Nat) (L0 : Nat) (aU : Nat → Nat) (aR : Nat → Nat) (aR2 : Nat → Nat) (aS : Nat → Nat) (n0 : Nat) (aN : Nat → Nat) (y0 : Nat) (y1 : Nat) (y2 : Nat) (o0 : Nat) (h_images : Nat) (us : Nat → Int32) (ua : Nat → Nat → Int32) (rs : Nat → Int32) (ra : Nat → Nat → Int32) (rs2 : Nat → Int32) (ra2 : Nat → Nat → Int32) (sa : Nat → Nat → Int32) (sl : Nat → Nat → Int64) (ns : Nat → Int32) (na : Nat → Nat → Int32) (nl : Nat → Nat → Int64) (y_isThere : Int32) (y_taken : Nat → Int32) (y_took : Nat → Int32) (o_of : Nat → Int64)  {post : Int32 → (Nat → Int32) → (Nat → Nat → Int32) → (Nat → Int32) → (Nat → Nat → Int32) → (Nat → Nat → Int64) → Prop} (h : P_X11_restless rs ra rs2 ra2 ns na nl post) : Met l yX11_restless vsX11_restless rmX11_restless (cPre D C [.ref L0] sz ([cLockRail L0 (aU 0) (aR 0) (aR2 0) h_images (aS 0) n0 y0 o0 C ] ++ (wReader aU C us ua ++ (wRail aR C rs ra ++ (wRail aR2 C rs2 ra2 ++ (wSlots aS C sa sl ++ (wNight n0 aN C ns na nl ++ ([cYear y0 y1 y2 C y_isThere y_taken y_took] ++ ([cOb o0 C o_of]))))))))) (cQi D (fun (r : Int32) (u : (Nat → Nat) × (Nat → Int32) × (Nat → Nat → Int32) × (Nat → Int32) × (Nat → Nat → Int32) × (Nat → Nat → Int64)) => post r u.2.1 u.2.2.1 u.2.2.2.1 u.2.2.2.2.1 u.2.2.2.2.2) (fun u => [cLockRail L0 (aU 0) (aR 0) (aR2 0) h_images (aS 0) n0 y0 o0 C ] ++ (wReader aU C us ua ++ (wRail aR C rs ra ++ (wRail aR2 C u.2.1 u.2.2.1 ++ (wSlots aS C sa sl ++ (wNight n0 u.1 C u.2.2.2.1 u.2.2.2.2.1 u.2.2.2.2.2 ++ ([cYear y0 y1 y2 C y_isThere y_taken y_took] ++ ([cOb o0 C o_of])))))))) (va_A (List.flatten ([cLockRail L0 (aU 0) (aR 0) (aR2 0) h_images (aS 0) n0 y0 o0 C ] ++ (wReader aU C us ua ++ (wRail aR C rs ra ++ (wRail aR2 C rs2 ra2 ++ (wSlots aS C sa sl ++ (wNight n0 aN C ns na nl ++ ([cYear y0 y1 y2 C y_isThere y_taken y_took] ++ ([cOb o0 C o_of]))))))))) sz)) 0 0 (va_A (List.flatten ([cLockRail L0 (aU 0) (aR 0) (aR2 0) h_images (aS 0) n0 y0 o0 C ] ++ (wReader aU C us ua ++ (wRail aR C rs ra ++ (wRail aR2 C rs2 ra2 ++ (wSlots aS C sa sl ++ (wNight n0 aN C ns na nl ++ ([cYear y0 y1 y2 C y_isThere y_taken y_took] ++ ([cOb o0 C o_of]))))))))) sz) := by
  refine cStart (QA := fun A => cQi D (fun (r : Int32) (u : (Nat → Nat) × (Nat → Int32) × (Nat → Nat → Int32) × (Nat → Int32) × (Nat → Nat → Int32) × (Nat → Nat → Int64)) => post r u.2.1 u.2.2.1 u.2.2.2.1 u.2.2.2.2.1 u.2.2.2.2.2) (fun u => [cLockRail L0 (aU 0) (aR 0) (aR2 0) h_images (aS 0) n0 y0 o0 C ] ++ (wReader aU C us ua ++ (wRail aR C rs ra ++ (wRail aR2 C u.2.1 u.2.2.1 ++ (wSlots aS C sa sl ++ (wNight n0 u.1 C u.2.2.2.1 u.2.2.2.2.1 u.2.2.2.2.2 ++ ([cYear y0 y1 y2 C y_isThere y_taken y_took] ++ ([cOb o0 C o_of])))))))) A) (cc := cX11_restless) (maxL := 3) (ret := (some .int)) (by decide) (Nat.le_of_ble_eq_true rfl) ?_
  intro p e s m args below meth c A ls hx hb hr hml hown hw hlocks hname hK hN hA hP hD hS hl
  generalize hQ : MQ below _ args s 0 0 A = Q
  have hl : lv_has ls 3 [(0, .ref L0)] := hl
  have hn97 : (Cond.fieldLinkNest "LockRail" 97 "LockRail$Rail" "bikes" "LLockRail$Bikes;" "LockRail").before args s = true := hN.f 61 rfl
  have hn161 : (Cond.fieldLinkNest "LockRail" 161 "LockRail$Bikes" "count" "I" "LockRail").before args s = true := hN.f 20 rfl
  obtain ⟨H, hH⟩ : ∃ H, H = s.heap := ⟨_, rfl⟩
  obtain ⟨locs, hlo⟩ : ∃ z : List Loc, z = [] := ⟨_, rfl⟩
  have hP : va_P D vwCl (List.flatten ([cLockRail L0 (aU 0) (aR 0) (aR2 0) h_images (aS 0) n0 y0 o0 C ] ++ (wReader aU C us ua ++ (wRail aR C rs ra ++ (wRail aR2 C rs2 ra2 ++ (wSlots aS C sa sl ++ (wNight n0 aN C ns na nl ++ ([cYear y0 y1 y2 C y_isThere y_taken y_took] ++ ([cOb o0 C o_of]))))))))) H := by rw [hH]; exact hP
  have hS : va_S A s.heap H locs := by rw [hH, hlo]; exact hS
  rw [show W p l e rmX11_restless s m args below meth c s.heap [] 0 0 Q (F0 m 0 ls []) = W p l e rmX11_restless s m args below meth c H locs 0 0 Q (F0 m 0 ls []) from by rw [hH, hlo]]
  have N28 : ∀ (rs2 : Nat → Int32) (n28 : Nat) (x1_ : Int32) (x2_ : Int32) (ra2 : Nat → Nat → Int32) (ns : Nat → Int32) (na : Nat → Nat → Int32) (nl : Nat → Nat → Int64) (aN : Nat → Nat) (H : Heap) (locs : List Loc) (ls : Array Slot), P_X11_restless_28 rs ra post  rs2 n28 x1_ x2_ ra2 ns na nl → va_P D vwCl (List.flatten ([cLockRail L0 (aU 0) (aR 0) (aR2 0) h_images (aS 0) n0 y0 o0 C ] ++ (wReader aU C us ua ++ (wRail aR C rs ra ++ (wRail aR2 C rs2 ra2 ++ (wSlots aS C sa sl ++ (wNight n0 aN C ns na nl ++ ([cYear y0 y1 y2 C y_isThere y_taken y_took] ++ ([cOb o0 C o_of]))))))))) H → va_D A (List.flatten ([cLockRail L0 (aU 0) (aR 0) (aR2 0) h_images (aS 0) n0 y0 o0 C ] ++ (wReader aU C us ua ++ (wRail aR C rs ra ++ (wRail aR2 C rs2 ra2 ++ (wSlots aS C sa sl ++ (wNight n0 aN C ns na nl ++ ([cYear y0 y1 y2 C y_isThere y_taken y_took] ++ ([cOb o0 C o_of]))))))))) → va_S A s.heap H locs → lv_has ls 3 [(0, .ref L0), (1, .int x1_), (2, .int x2_)] → W p l e rmX11_restless s m args below meth c H locs 0 0 Q (F0 m 28 ls []) := by
    intro rs2
    intro n28
    induction n28 with
    | zero => intro x1_ x2_ ra2 ns na nl aN H locs ls h hP hD hS hl; exact False.elim h
    | succ n28 ih28 =>
      intro x1_ x2_ ra2 ns na nl aN H locs ls h hP hD hS hl
      refine lv_iload_n hx hb dX11_restless_28 rfl (lv_at hl 2 rfl) ?_
      refine lv_aload_n hx hb dX11_restless_29 rfl (lv_at hl 0 rfl) ?_
      refine va_get (D := D) (ci := 11) (v := .ref (aR 0)) (C := RX11) (T := TX11) (N := 8) hx hb hw inW_X11 hown hK hP 0 rfl rfl 1 (by decide) (hw _ mw_2_144) (fun _ h9 => h9) rfl dX11_restless_30 ?_
      refine va_getN (D := D) (ci := 4) (v := .ref (aR 7)) (C := RX4) (T := TX4) (N := 16) hx hb hw inW_X4 hown hK hP 4 rfl rfl 5 (by decide) hn97 (fun _ h9 => h9) rfl dX11_restless_33 ?_
      refine va_getN (D := D) (ci := 0) (v := .int (rs 13)) (C := RX0) (T := TX0) (N := 6) hx hb hw inW_X0 hown hK hP 11 rfl rfl 0 (by decide) hn161 (fun _ h9 => h9) rfl dX11_restless_36 ?_
      refine lv_icmp_ge (tgt := 75) hx hb dX11_restless_39 (by decide) (fun c1 => ?_) (fun c1 => ?_)
      · have h := h.1 c1
        refine lv_iload_n hx hb dX11_restless_75 rfl (lv_at hl 1 rfl) ?_
        rw [← hQ]
        exact cRetI (v := x1_) (aN, rs2, ra2, ns, na, nl) hx hb hr hlocks hS hP hD h dX11_restless_76
      · have h := h.2 c1
        refine lv_aload_n hx hb dX11_restless_42 rfl (lv_at hl 0 rfl) ?_
        refine lv_aload_n hx hb dX11_restless_43 rfl (lv_at hl 0 rfl) ?_
        refine va_get (D := D) (ci := 11) (v := .ref (aR2 0)) (C := RX11) (T := TX11) (N := 8) hx hb hw inW_X11 hown hK hP 0 rfl rfl 2 (by decide) (hw _ mw_2_145) (fun _ h9 => h9) rfl dX11_restless_44 ?_
        refine lv_iload_n hx hb dX11_restless_47 rfl (lv_at hl 2 rfl) ?_
        refine lv_iconst (v := 1) hx hb dX11_restless_48 (by decide) ?_
        refine cGoI (wo := fun u => [cLockRail L0 (aU 0) (aR 0) (aR2 0) h_images (aS 0) n0 y0 o0 C ] ++ (wReader aU C us ua ++ (wRail aR C rs ra ++ (wRail aR2 C rs2 u.2.1 ++ (wSlots aS C sa sl ++ (wNight n0 u.1 C u.2.2.1 u.2.2.2.1 u.2.2.2.2 ++ ([cYear y0 y1 y2 C y_isThere y_taken y_took] ++ ([cOb o0 C o_of])))))))) (cRunV (As := [.ref (aR2 0), .int x2_, .int 1]) (rest := []) ⟨hx, hb, hml, hown, hw⟩ hK hN hP hD [0, 9, 10, 11, 12, 13, 14, 16, 17, 18] rfl rfl (k_X11_leastOption l D C _ L0 aR2 n0 aN (aU 0) (aR 0) (aR2 0) h_images (aS 0) y0 o0  rs2 ra2 ns na nl x2_ 1 h) (cwV 3 hw (goodV mw_4_166 mw_4_168 mw_s70 mw_1_1 mw_4_169) rfl rfl rfl (by decide +kernel) ⟨Nat.le_of_ble_eq_true rfl, Nat.le_of_ble_eq_true rfl⟩) rfl rfl rfl hl.1 rfl (Nat.le_of_ble_eq_true rfl) dX11_restless_49 ⟨Nat.zero_le _, Nat.zero_le _⟩) hP hD hS hA [0, 9, 10, 11, 12, 13, 14, 16, 17, 18] [1, 2, 3, 4, 5, 6, 7, 8, 15, 19, 20] [11, 0, 1, 2, 3, 4, 5, 6, 7, 12, 13, 14, 15, 16, 17, 8, 18, 19, 20, 9, 10] rfl rfl rfl (by decide) rfl (fun _ => rfl) (fun r7 u H locs h hP hD hS => ?_)
        obtain ⟨aN2, ra_3, ns_4, na_5, nl_6⟩ := u
        have hP : va_P D vwCl (List.flatten ([cLockRail L0 (aU 0) (aR 0) (aR2 0) h_images (aS 0) n0 y0 o0 C ] ++ (wReader aU C us ua ++ (wRail aR C rs ra ++ (wRail aR2 C rs2 ra_3 ++ (wSlots aS C sa sl ++ (wNight n0 aN2 C ns_4 na_5 nl_6 ++ ([cYear y0 y1 y2 C y_isThere y_taken y_took] ++ ([cOb o0 C o_of]))))))))) H := hP
        have hD : va_D A (List.flatten ([cLockRail L0 (aU 0) (aR 0) (aR2 0) h_images (aS 0) n0 y0 o0 C ] ++ (wReader aU C us ua ++ (wRail aR C rs ra ++ (wRail aR2 C rs2 ra_3 ++ (wSlots aS C sa sl ++ (wNight n0 aN2 C ns_4 na_5 nl_6 ++ ([cYear y0 y1 y2 C y_isThere y_taken y_took] ++ ([cOb o0 C o_of]))))))))) := hD
        refine lv_aload_n hx hb dX11_restless_52 rfl (lv_at hl 0 rfl) ?_
        refine va_get (D := D) (ci := 11) (v := .ref (aR2 0)) (C := RX11) (T := TX11) (N := 8) hx hb hw inW_X11 hown hK hP 0 rfl rfl 2 (by decide) (hw _ mw_2_145) (fun _ h9 => h9) rfl dX11_restless_53 ?_
        refine va_getN (D := D) (ci := 4) (v := .ref (aR2 7)) (C := RX4) (T := TX4) (N := 16) hx hb hw inW_X4 hown hK hP 26 rfl rfl 5 (by decide) hn97 (fun _ h9 => h9) rfl dX11_restless_56 ?_
        refine lv_iload_n hx hb dX11_restless_59 rfl (lv_at hl 2 rfl) ?_
        refine cGoI (wo := fun u => [cLockRail L0 (aU 0) (aR 0) (aR2 0) h_images (aS 0) n0 y0 o0 C ] ++ (wReader aU C us ua ++ (wRail aR C rs ra ++ (wRail aR2 C rs2 ra_3 ++ (wSlots aS C sa sl ++ (wNight n0 aN2 C ns_4 na_5 nl_6 ++ ([cYear y0 y1 y2 C y_isThere y_taken y_took] ++ ([cOb o0 C o_of])))))))) (cRunVN (As := [.int x2_]) (rest := [.int r7]) ⟨hx, hb, hml, hown, hw⟩ hK hN hP hD [12] rfl rfl (k_X0_optionOf l D C _ (aR2 7) (aR2 8) (aR2 9) (aR2 10) (aR2 11) (aR2 12)  (rs2 13) (ra_3 4) (ra_3 5) (ra_3 6) (ra_3 7) (ra_3 8) x2_ h) ⟨va_cnB 1 hw (goodN mw_4_149) rfl rfl rfl (hN.m 57 rfl) (hw _ mw_1_7) (by decide +kernel) ⟨Nat.le_of_ble_eq_true rfl, Nat.le_of_ble_eq_true rfl⟩, hw _ mw_4_148, hw _ mw_s67⟩ rfl rfl rfl hl.1 rfl (Nat.le_of_ble_eq_true rfl) dX11_restless_60 ⟨Nat.zero_le _, Nat.zero_le _⟩) hP hD hS hA [12] [0, 1, 2, 3, 4, 5, 6, 7, 8, 9, 10, 11, 13, 14, 15, 16, 17, 18, 19, 20] [0, 1, 2, 3, 4, 5, 6, 7, 8, 9, 10, 11, 20, 12, 13, 14, 15, 16, 17, 18, 19] rfl rfl rfl (by decide) rfl (fun _ => rfl) (fun r8 u H locs h hP hD hS => ?_)
        have hP : va_P D vwCl (List.flatten ([cLockRail L0 (aU 0) (aR 0) (aR2 0) h_images (aS 0) n0 y0 o0 C ] ++ (wReader aU C us ua ++ (wRail aR C rs ra ++ (wRail aR2 C rs2 ra_3 ++ (wSlots aS C sa sl ++ (wNight n0 aN2 C ns_4 na_5 nl_6 ++ ([cYear y0 y1 y2 C y_isThere y_taken y_took] ++ ([cOb o0 C o_of]))))))))) H := hP
        have hD : va_D A (List.flatten ([cLockRail L0 (aU 0) (aR 0) (aR2 0) h_images (aS 0) n0 y0 o0 C ] ++ (wReader aU C us ua ++ (wRail aR C rs ra ++ (wRail aR2 C rs2 ra_3 ++ (wSlots aS C sa sl ++ (wNight n0 aN2 C ns_4 na_5 nl_6 ++ ([cYear y0 y1 y2 C y_isThere y_taken y_took] ++ ([cOb o0 C o_of]))))))))) := hD
        refine lv_icmp_eq (tgt := 69) hx hb dX11_restless_63 (by decide) (fun c9 => ?_) (fun c9 => ?_)
        · have h := h.1 c9
          refine lv_iinc (v := (x2_ + 1)) (lv' := [(2, .int (x2_ + 1)), (0, .ref L0), (1, .int x1_)]) hx hb dX11_restless_69 hl (k := 2) rfl rfl (by decide) rfl (fun ls hl => ?_)
          refine lv_goto (tgt := 28) hx hb dX11_restless_72 (by decide) ?_
          exact ih28 x1_ (x2_ + 1) ra_3 ns_4 na_5 nl_6 aN2 _ _ _ h hP hD hS (lv_sub hl [1, 2, 0] rfl)
        · have h := h.2 c9
          refine lv_iinc (v := (x1_ + 1)) (lv' := [(1, .int (x1_ + 1)), (0, .ref L0), (2, .int x2_)]) hx hb dX11_restless_66 hl (k := 1) rfl rfl (by decide) rfl (fun ls hl => ?_)
          refine lv_iinc (v := (x2_ + 1)) (lv' := [(2, .int (x2_ + 1)), (1, .int (x1_ + 1)), (0, .ref L0)]) hx hb dX11_restless_69 hl (k := 2) rfl rfl (by decide) rfl (fun ls hl => ?_)
          refine lv_goto (tgt := 28) hx hb dX11_restless_72 (by decide) ?_
          exact ih28 (x1_ + 1) (x2_ + 1) ra_3 ns_4 na_5 nl_6 aN2 _ _ _ h hP hD hS (lv_sub hl [2, 1, 0] rfl)
  refine lv_aload_n hx hb dX11_restless_0 rfl (lv_at hl 0 rfl) ?_
  refine va_get (D := D) (ci := 11) (v := .ref (aR 0)) (C := RX11) (T := TX11) (N := 8) hx hb hw inW_X11 hown hK hP 0 rfl rfl 1 (by decide) (hw _ mw_2_144) (fun _ h9 => h9) rfl dX11_restless_1 ?_
  refine cGoI (wo := fun u => [cLockRail L0 (aU 0) (aR 0) (aR2 0) h_images (aS 0) n0 y0 o0 C ] ++ (wReader aU C us ua ++ (wRail aR C rs ra ++ (wRail aR2 C rs2 ra2 ++ (wSlots aS C sa sl ++ (wNight n0 aN C ns na nl ++ ([cYear y0 y1 y2 C y_isThere y_taken y_took] ++ ([cOb o0 C o_of])))))))) (cRunVN (As := []) (rest := []) ⟨hx, hb, hml, hown, hw⟩ hK hN hP hD [3, 4, 5, 6, 7, 8] rfl rfl (k_X4_isTold l D C _ aR  rs ra  h) ⟨va_cnB 0 hw (goodN mw_4_19) rfl rfl rfl (hN.m 44 rfl) (hw _ mw_1_4) (by decide +kernel) ⟨Nat.le_of_ble_eq_true rfl, Nat.le_of_ble_eq_true rfl⟩, hw _ mw_4_18, hw _ mw_s47⟩ rfl rfl rfl hl.1 rfl (Nat.le_of_ble_eq_true rfl) dX11_restless_4 ⟨Nat.zero_le _, Nat.zero_le _⟩) hP hD hS hA [3, 4, 5, 6, 7, 8] [0, 1, 2, 9, 10, 11, 12, 13, 14, 15, 16, 17, 18, 19, 20] [0, 1, 2, 15, 16, 17, 18, 19, 20, 3, 4, 5, 6, 7, 8, 9, 10, 11, 12, 13, 14] rfl rfl rfl (by decide) rfl (fun _ => rfl) (fun r10 u H locs h hP hD hS => ?_)
  have hP : va_P D vwCl (List.flatten ([cLockRail L0 (aU 0) (aR 0) (aR2 0) h_images (aS 0) n0 y0 o0 C ] ++ (wReader aU C us ua ++ (wRail aR C rs ra ++ (wRail aR2 C rs2 ra2 ++ (wSlots aS C sa sl ++ (wNight n0 aN C ns na nl ++ ([cYear y0 y1 y2 C y_isThere y_taken y_took] ++ ([cOb o0 C o_of]))))))))) H := hP
  have hD : va_D A (List.flatten ([cLockRail L0 (aU 0) (aR 0) (aR2 0) h_images (aS 0) n0 y0 o0 C ] ++ (wReader aU C us ua ++ (wRail aR C rs ra ++ (wRail aR2 C rs2 ra2 ++ (wSlots aS C sa sl ++ (wNight n0 aN C ns na nl ++ ([cYear y0 y1 y2 C y_isThere y_taken y_took] ++ ([cOb o0 C o_of]))))))))) := hD
  refine lv_if_ne (tgt := 13) hx hb dX11_restless_7 (by decide) (fun c11 => ?_) (fun c11 => ?_)
  · have h := h.1 c11
    refine lv_aload_n hx hb dX11_restless_13 rfl (lv_at hl 0 rfl) ?_
    refine va_get (D := D) (ci := 11) (v := .ref (aR2 0)) (C := RX11) (T := TX11) (N := 8) hx hb hw inW_X11 hown hK hP 0 rfl rfl 2 (by decide) (hw _ mw_2_145) (fun _ h9 => h9) rfl dX11_restless_14 ?_
    refine lv_aload_n hx hb dX11_restless_17 rfl (lv_at hl 0 rfl) ?_
    refine va_get (D := D) (ci := 11) (v := .ref (aR 0)) (C := RX11) (T := TX11) (N := 8) hx hb hw inW_X11 hown hK hP 0 rfl rfl 1 (by decide) (hw _ mw_2_144) (fun _ h9 => h9) rfl dX11_restless_18 ?_
    refine cGoV (wo := fun u => [cLockRail L0 (aU 0) (aR 0) (aR2 0) h_images (aS 0) n0 y0 o0 C ] ++ (wReader aU C us ua ++ (wRail aR C rs ra ++ (wRail aR2 C u.1 u.2 ++ (wSlots aS C sa sl ++ (wNight n0 aN C ns na nl ++ ([cYear y0 y1 y2 C y_isThere y_taken y_took] ++ ([cOb o0 C o_of])))))))) (cRunVN (As := [.ref (aR 0)]) (rest := []) ⟨hx, hb, hml, hown, hw⟩ hK hN hP hD [9, 10, 11, 12, 13, 14, 3, 4, 5, 6, 7, 8] rfl rfl (k_X4_copyFrom l D C _ aR2 aR  rs2 ra2 rs ra  h) ⟨va_cnB 1 hw (goodN mw_3_126) rfl rfl rfl (hN.m 23 rfl) (hw _ mw_1_4) (by decide +kernel) ⟨Nat.le_of_ble_eq_true rfl, Nat.le_of_ble_eq_true rfl⟩, hw _ mw_3_125, hw _ mw_s26⟩ rfl rfl rfl hl.1 rfl (Nat.le_of_ble_eq_true rfl) dX11_restless_21 ⟨Nat.zero_le _, Nat.zero_le _⟩) hP hD hS hA [9, 10, 11, 12, 13, 14, 3, 4, 5, 6, 7, 8] [0, 1, 2, 15, 16, 17, 18, 19, 20] [0, 1, 2, 15, 16, 17, 18, 19, 20, 9, 10, 11, 12, 13, 14, 3, 4, 5, 6, 7, 8] rfl rfl rfl (by decide) rfl (fun _ => rfl) (fun u H locs h hP hD hS => ?_)
    obtain ⟨rs_12, ra_13⟩ := u
    have hP : va_P D vwCl (List.flatten ([cLockRail L0 (aU 0) (aR 0) (aR2 0) h_images (aS 0) n0 y0 o0 C ] ++ (wReader aU C us ua ++ (wRail aR C rs ra ++ (wRail aR2 C rs_12 ra_13 ++ (wSlots aS C sa sl ++ (wNight n0 aN C ns na nl ++ ([cYear y0 y1 y2 C y_isThere y_taken y_took] ++ ([cOb o0 C o_of]))))))))) H := hP
    have hD : va_D A (List.flatten ([cLockRail L0 (aU 0) (aR 0) (aR2 0) h_images (aS 0) n0 y0 o0 C ] ++ (wReader aU C us ua ++ (wRail aR C rs ra ++ (wRail aR2 C rs_12 ra_13 ++ (wSlots aS C sa sl ++ (wNight n0 aN C ns na nl ++ ([cYear y0 y1 y2 C y_isThere y_taken y_took] ++ ([cOb o0 C o_of]))))))))) := hD
    refine lv_iconst (v := 0) hx hb dX11_restless_24 (by decide) ?_
    refine lv_istore_n (lv' := [(1, .int 0), (0, .ref L0)]) hx hb dX11_restless_25 rfl hl (by decide) rfl (fun ls hl => ?_)
    refine lv_iconst (v := 0) hx hb dX11_restless_26 (by decide) ?_
    refine lv_istore_n (lv' := [(2, .int 0), (1, .int 0), (0, .ref L0)]) hx hb dX11_restless_27 rfl hl (by decide) rfl (fun ls hl => ?_)
    obtain ⟨n, h⟩ := h
    exact N28 rs_12 n 0 0 ra_13 ns na nl aN _ _ _ h hP hD hS (lv_sub hl [2, 1, 0] rfl)
  · have h := h.2 c11
    refine lv_bipush (v := (-2)) hx hb dX11_restless_10 (by decide) ?_
    rw [← hQ]
    exact cRetI (v := (-2)) (aN, rs2, ra2, ns, na, nl) hx hb hr hlocks hS hP hD h dX11_restless_12
abbrev vsX11_roundsOn : List Cond := Cond.code yX11_roundsOn cX11_roundsOn 7 (some .int) :: WS
abbrev rmX11_roundsOn : Room := { frames := 5, cells := 0, slots := 0, locals := 135 }
set_option maxHeartbeats 4000000 in
set_option maxRecDepth 100000 in
theorem k_X11_roundsOn (l : Launch) (D : va_G) (C : Nat → ClassId) (sz : Nat) (L0 : Nat) (aR0 : Nat → Nat) (n0 : Nat) (aN : Nat → Nat) (h_reader : Nat) (h_rail : Nat) (h_trial : Nat) (h_images : Nat) (h_slots : Nat) (h_triedYear : Nat) (h_ofBikes : Nat) (rs0 : Nat → Int32) (ra0 : Nat → Nat → Int32) (ns : Nat → Int32) (na : Nat → Nat → Int32) (nl : Nat → Nat → Int64) (p2 : Int32) {post : Int32 → (Nat → Nat → Int32) → (Nat → Int32) → (Nat → Nat → Int32) → (Nat → Nat → Int64) → Prop} (h : P_X11_roundsOn rs0 ra0 ns na nl p2 post) : Met l yX11_roundsOn vsX11_roundsOn rmX11_roundsOn (cPre D C [.ref L0, .ref (aR0 0), .int p2] sz ([cLockRail L0 h_reader h_rail h_trial h_images h_slots n0 h_triedYear h_ofBikes C ] ++ (wRail aR0 C rs0 ra0 ++ (wNight n0 aN C ns na nl)))) (cQi D (fun (r : Int32) (u : (Nat → Nat) × (Nat → Nat → Int32) × (Nat → Int32) × (Nat → Nat → Int32) × (Nat → Nat → Int64)) => post r u.2.1 u.2.2.1 u.2.2.2.1 u.2.2.2.2) (fun u => [cLockRail L0 h_reader h_rail h_trial h_images h_slots n0 h_triedYear h_ofBikes C ] ++ (wRail aR0 C rs0 u.2.1 ++ (wNight n0 u.1 C u.2.2.1 u.2.2.2.1 u.2.2.2.2))) (va_A (List.flatten ([cLockRail L0 h_reader h_rail h_trial h_images h_slots n0 h_triedYear h_ofBikes C ] ++ (wRail aR0 C rs0 ra0 ++ (wNight n0 aN C ns na nl)))) sz)) 0 0 (va_A (List.flatten ([cLockRail L0 h_reader h_rail h_trial h_images h_slots n0 h_triedYear h_ofBikes C ] ++ (wRail aR0 C rs0 ra0 ++ (wNight n0 aN C ns na nl)))) sz) := by
  refine cStart (QA := fun A => cQi D (fun (r : Int32) (u : (Nat → Nat) × (Nat → Nat → Int32) × (Nat → Int32) × (Nat → Nat → Int32) × (Nat → Nat → Int64)) => post r u.2.1 u.2.2.1 u.2.2.2.1 u.2.2.2.2) (fun u => [cLockRail L0 h_reader h_rail h_trial h_images h_slots n0 h_triedYear h_ofBikes C ] ++ (wRail aR0 C rs0 u.2.1 ++ (wNight n0 u.1 C u.2.2.1 u.2.2.2.1 u.2.2.2.2))) A) (cc := cX11_roundsOn) (maxL := 7) (ret := (some .int)) (by decide) (Nat.le_of_ble_eq_true rfl) ?_
  intro p e s m args below meth c A ls hx hb hr hml hown hw hlocks hname hK hN hA hP hD hS hl
  generalize hQ : MQ below _ args s 0 0 A = Q
  have hl : lv_has ls 7 [(0, .ref L0), (1, .ref (aR0 0)), (2, .int p2)] := hl
  have hn97 : (Cond.fieldLinkNest "LockRail" 97 "LockRail$Rail" "bikes" "LLockRail$Bikes;" "LockRail").before args s = true := hN.f 61 rfl
  have hn161 : (Cond.fieldLinkNest "LockRail" 161 "LockRail$Bikes" "count" "I" "LockRail").before args s = true := hN.f 20 rfl
  obtain ⟨H, hH⟩ : ∃ H, H = s.heap := ⟨_, rfl⟩
  obtain ⟨locs, hlo⟩ : ∃ z : List Loc, z = [] := ⟨_, rfl⟩
  have hP : va_P D vwCl (List.flatten ([cLockRail L0 h_reader h_rail h_trial h_images h_slots n0 h_triedYear h_ofBikes C ] ++ (wRail aR0 C rs0 ra0 ++ (wNight n0 aN C ns na nl)))) H := by rw [hH]; exact hP
  have hS : va_S A s.heap H locs := by rw [hH, hlo]; exact hS
  rw [show W p l e rmX11_roundsOn s m args below meth c s.heap [] 0 0 Q (F0 m 0 ls []) = W p l e rmX11_roundsOn s m args below meth c H locs 0 0 Q (F0 m 0 ls []) from by rw [hH, hlo]]
  have N2 : ∀  (n2 : Nat) (x3_ : Int32) (ra0 : Nat → Nat → Int32) (ns : Nat → Int32) (na : Nat → Nat → Int32) (nl : Nat → Nat → Int64) (aN : Nat → Nat) (H : Heap) (locs : List Loc) (ls : Array Slot), P_X11_roundsOn_2 rs0 p2 post   n2 x3_ ra0 ns na nl → va_P D vwCl (List.flatten ([cLockRail L0 h_reader h_rail h_trial h_images h_slots n0 h_triedYear h_ofBikes C ] ++ (wRail aR0 C rs0 ra0 ++ (wNight n0 aN C ns na nl)))) H → va_D A (List.flatten ([cLockRail L0 h_reader h_rail h_trial h_images h_slots n0 h_triedYear h_ofBikes C ] ++ (wRail aR0 C rs0 ra0 ++ (wNight n0 aN C ns na nl)))) → va_S A s.heap H locs → lv_has ls 7 [(0, .ref L0), (1, .ref (aR0 0)), (2, .int p2), (3, .int x3_)] → W p l e rmX11_roundsOn s m args below meth c H locs 0 0 Q (F0 m 2 ls []) := by
    intro n2
    induction n2 with
    | zero => intro x3_ ra0 ns na nl aN H locs ls h hP hD hS hl; exact False.elim h
    | succ n2 ih2 =>
      have N76 : ∀ (x3_ : Int32) (x4_ : Int32) (ra0 : Nat → Nat → Int32) (ns : Nat → Int32) (na : Nat → Nat → Int32) (nl : Nat → Nat → Int64) (aN : Nat → Nat) (H : Heap) (locs : List Loc) (ls : Array Slot), P_X11_roundsOn_76 rs0 p2 post (P_X11_roundsOn_2 rs0 p2 post   n2) x3_ x4_ ra0 ns na nl → va_P D vwCl (List.flatten ([cLockRail L0 h_reader h_rail h_trial h_images h_slots n0 h_triedYear h_ofBikes C ] ++ (wRail aR0 C rs0 ra0 ++ (wNight n0 aN C ns na nl)))) H → va_D A (List.flatten ([cLockRail L0 h_reader h_rail h_trial h_images h_slots n0 h_triedYear h_ofBikes C ] ++ (wRail aR0 C rs0 ra0 ++ (wNight n0 aN C ns na nl)))) → va_S A s.heap H locs → lv_has ls 7 [(0, .ref L0), (1, .ref (aR0 0)), (2, .int p2), (3, .int x3_), (4, .int x4_)] → W p l e rmX11_roundsOn s m args below meth c H locs 0 0 Q (F0 m 76 ls []) := by
        intro x3_ x4_ ra0 ns na nl aN H locs ls h hP hD hS hl
        refine lv_iload hx hb dX11_roundsOn_76 (lv_at hl 4 rfl) ?_
        refine lv_if_ne (tgt := 83) hx hb dX11_roundsOn_78 (by decide) (fun c4 => ?_) (fun c4 => ?_)
        · have h := h.1 c4
          refine lv_iinc (v := (x3_ + 1)) (lv' := [(3, .int (x3_ + 1)), (0, .ref L0), (1, .ref (aR0 0)), (2, .int p2), (4, .int x4_)]) hx hb dX11_roundsOn_83 hl (k := 3) rfl rfl (by decide) rfl (fun ls hl => ?_)
          refine lv_goto (tgt := 2) hx hb dX11_roundsOn_86 (by decide) ?_
          exact ih2 (x3_ + 1) ra0 ns na nl aN _ _ _ h hP hD hS (lv_sub hl [1, 2, 3, 0] rfl)
        · have h := h.2 c4
          refine lv_iload_n hx hb dX11_roundsOn_81 rfl (lv_at hl 3 rfl) ?_
          rw [← hQ]
          exact cRetI (v := x3_) (aN, ra0, ns, na, nl) hx hb hr hlocks hS hP hD h dX11_roundsOn_82
      have N13 : ∀ (x3_ : Int32) (n13 : Nat) (x4_ : Int32) (x5_ : Int32) (ra0 : Nat → Nat → Int32) (ns : Nat → Int32) (na : Nat → Nat → Int32) (nl : Nat → Nat → Int64) (aN : Nat → Nat) (H : Heap) (locs : List Loc) (ls : Array Slot), P_X11_roundsOn_13 rs0 p2 post (fun (x3_ : Int32) (x4_ : Int32) (ra0 : Nat → Nat → Int32) (ns : Nat → Int32) (na : Nat → Nat → Int32) (nl : Nat → Nat → Int64) => P_X11_roundsOn_76 rs0 p2 post (P_X11_roundsOn_2 rs0 p2 post   n2) x3_ x4_ ra0 ns na nl) x3_ n13 x4_ x5_ ra0 ns na nl → va_P D vwCl (List.flatten ([cLockRail L0 h_reader h_rail h_trial h_images h_slots n0 h_triedYear h_ofBikes C ] ++ (wRail aR0 C rs0 ra0 ++ (wNight n0 aN C ns na nl)))) H → va_D A (List.flatten ([cLockRail L0 h_reader h_rail h_trial h_images h_slots n0 h_triedYear h_ofBikes C ] ++ (wRail aR0 C rs0 ra0 ++ (wNight n0 aN C ns na nl)))) → va_S A s.heap H locs → lv_has ls 7 [(0, .ref L0), (1, .ref (aR0 0)), (2, .int p2), (3, .int x3_), (4, .int x4_), (5, .int x5_)] → W p l e rmX11_roundsOn s m args below meth c H locs 0 0 Q (F0 m 13 ls []) := by
        intro x3_
        intro n13
        induction n13 with
        | zero => intro x4_ x5_ ra0 ns na nl aN H locs ls h hP hD hS hl; exact False.elim h
        | succ n13 ih13 =>
          have N56 : ∀ (x5_ : Int32) (x6_ : Int32) (k0_ : Int32) (k1_ : Int32) (ra0 : Nat → Nat → Int32) (ns : Nat → Int32) (na : Nat → Nat → Int32) (nl : Nat → Nat → Int64) (aN : Nat → Nat) (H : Heap) (locs : List Loc) (ls : Array Slot), P_X11_roundsOn_56 rs0 p2 x3_ post (P_X11_roundsOn_13 rs0 p2 post (fun (x3_ : Int32) (x4_ : Int32) (ra0 : Nat → Nat → Int32) (ns : Nat → Int32) (na : Nat → Nat → Int32) (nl : Nat → Nat → Int64) => P_X11_roundsOn_76 rs0 p2 post (P_X11_roundsOn_2 rs0 p2 post   n2) x3_ x4_ ra0 ns na nl) x3_ n13) x5_ x6_ k0_ k1_ ra0 ns na nl → va_P D vwCl (List.flatten ([cLockRail L0 h_reader h_rail h_trial h_images h_slots n0 h_triedYear h_ofBikes C ] ++ (wRail aR0 C rs0 ra0 ++ (wNight n0 aN C ns na nl)))) H → va_D A (List.flatten ([cLockRail L0 h_reader h_rail h_trial h_images h_slots n0 h_triedYear h_ofBikes C ] ++ (wRail aR0 C rs0 ra0 ++ (wNight n0 aN C ns na nl)))) → va_S A s.heap H locs → lv_has ls 7 [(0, .ref L0), (1, .ref (aR0 0)), (2, .int p2), (3, .int x3_), (5, .int x5_), (6, .int x6_)] → W p l e rmX11_roundsOn s m args below meth c H locs 0 0 Q (F0 m 56 ls [.int k0_, .int k1_]) := by
            intro x5_ x6_ k0_ k1_ ra0 ns na nl aN H locs ls h hP hD hS hl
            refine lv_ior hx hb dX11_roundsOn_56 ?_
            refine lv_topi (fun x1 ex1 => ?_)
            have h := h x1 ex1
            refine lv_istore (lv' := [(4, .int x1), (0, .ref L0), (1, .ref (aR0 0)), (2, .int p2), (3, .int x3_), (5, .int x5_), (6, .int x6_)]) hx hb dX11_roundsOn_57 hl (by decide) rfl (fun ls hl => ?_)
            refine lv_aload_n hx hb dX11_roundsOn_59 rfl (lv_at hl 2 rfl) ?_
            refine va_getN (D := D) (ci := 4) (v := .ref (aR0 7)) (C := RX4) (T := TX4) (N := 16) hx hb hw inW_X4 hown hK hP 1 rfl rfl 5 (by decide) hn97 (fun _ h9 => h9) rfl dX11_roundsOn_60 ?_
            refine lv_iload hx hb dX11_roundsOn_63 (lv_at hl 5 rfl) ?_
            refine lv_iload hx hb dX11_roundsOn_65 (lv_at hl 6 rfl) ?_
            refine cGoV (wo := fun u => [cLockRail L0 h_reader h_rail h_trial h_images h_slots n0 h_triedYear h_ofBikes C ] ++ (wRail aR0 C rs0 (va_up (va_up ra0 7 u.1) 8 u.2) ++ (wNight n0 aN C ns na nl))) (cRunVN (As := [.int x5_, .int x6_]) (rest := []) ⟨hx, hb, hml, hown, hw⟩ hK hN hP hD [4] rfl rfl (k_X0_setOption l D C _ (aR0 7) (aR0 8) (aR0 9) (aR0 10) (aR0 11) (aR0 12)  (rs0 13) (ra0 4) (ra0 5) (ra0 6) (ra0 7) (ra0 8) x5_ x6_ h) ⟨va_cnB 2 hw (goodN mw_4_153) rfl rfl rfl (hN.m 58 rfl) (hw _ mw_1_7) (by decide +kernel) ⟨Nat.le_of_ble_eq_true rfl, Nat.le_of_ble_eq_true rfl⟩, hw _ mw_4_152, hw _ mw_s68⟩ rfl rfl rfl hl.1 rfl (Nat.le_of_ble_eq_true rfl) dX11_roundsOn_67 ⟨Nat.zero_le _, Nat.zero_le _⟩) hP hD hS hA [4] [0, 1, 2, 3, 5, 6, 7, 8, 9] [0, 1, 2, 3, 9, 4, 5, 6, 7, 8] rfl rfl rfl (by decide) rfl (fun _ => rfl) (fun u H locs h hP hD hS => ?_)
            obtain ⟨loc_2, mar_3⟩ := u
            have hP : va_P D vwCl (List.flatten ([cLockRail L0 h_reader h_rail h_trial h_images h_slots n0 h_triedYear h_ofBikes C ] ++ (wRail aR0 C rs0 (va_up (va_up ra0 7 loc_2) 8 mar_3) ++ (wNight n0 aN C ns na nl)))) H := hP
            have hD : va_D A (List.flatten ([cLockRail L0 h_reader h_rail h_trial h_images h_slots n0 h_triedYear h_ofBikes C ] ++ (wRail aR0 C rs0 (va_up (va_up ra0 7 loc_2) 8 mar_3) ++ (wNight n0 aN C ns na nl)))) := hD
            refine lv_iinc (v := (x5_ + 1)) (lv' := [(5, .int (x5_ + 1)), (4, .int x1), (0, .ref L0), (1, .ref (aR0 0)), (2, .int p2), (3, .int x3_), (6, .int x6_)]) hx hb dX11_roundsOn_70 hl (k := 5) rfl rfl (by decide) rfl (fun ls hl => ?_)
            refine lv_goto (tgt := 13) hx hb dX11_roundsOn_73 (by decide) ?_
            exact ih13 x1 (x5_ + 1) (va_up (va_up ra0 7 loc_2) 8 mar_3) ns na nl aN _ _ _ h hP hD hS (lv_sub hl [2, 3, 4, 5, 1, 0] rfl)
          intro x4_ x5_ ra0 ns na nl aN H locs ls h hP hD hS hl
          refine lv_iload hx hb dX11_roundsOn_13 (lv_at hl 5 rfl) ?_
          refine lv_aload_n hx hb dX11_roundsOn_15 rfl (lv_at hl 1 rfl) ?_
          refine va_getN (D := D) (ci := 4) (v := .ref (aR0 7)) (C := RX4) (T := TX4) (N := 16) hx hb hw inW_X4 hown hK hP 1 rfl rfl 5 (by decide) hn97 (fun _ h9 => h9) rfl dX11_roundsOn_16 ?_
          refine va_getN (D := D) (ci := 0) (v := .int (rs0 13)) (C := RX0) (T := TX0) (N := 6) hx hb hw inW_X0 hown hK hP 8 rfl rfl 0 (by decide) hn161 (fun _ h9 => h9) rfl dX11_roundsOn_19 ?_
          refine lv_icmp_ge (tgt := 76) hx hb dX11_roundsOn_22 (by decide) (fun c5 => ?_) (fun c5 => ?_)
          · have h := h.1 c5
            exact N76 x3_ x4_ ra0 ns na nl aN _ _ _ h hP hD hS (lv_sub hl [0, 1, 2, 3, 4] rfl)
          · have h := h.2 c5
            refine lv_aload_n hx hb dX11_roundsOn_25 rfl (lv_at hl 0 rfl) ?_
            refine lv_aload_n hx hb dX11_roundsOn_26 rfl (lv_at hl 1 rfl) ?_
            refine lv_iload hx hb dX11_roundsOn_27 (lv_at hl 5 rfl) ?_
            refine lv_iconst (v := 1) hx hb dX11_roundsOn_29 (by decide) ?_
            refine cGoI (wo := fun u => [cLockRail L0 h_reader h_rail h_trial h_images h_slots n0 h_triedYear h_ofBikes C ] ++ (wRail aR0 C rs0 u.2.1 ++ (wNight n0 u.1 C u.2.2.1 u.2.2.2.1 u.2.2.2.2))) (cRunV (As := [.ref (aR0 0), .int x5_, .int 1]) (rest := []) ⟨hx, hb, hml, hown, hw⟩ hK hN hP hD [0, 1, 2, 3, 4, 5, 6, 7, 8, 9] rfl rfl (k_X11_leastOption l D C _ L0 aR0 n0 aN h_reader h_rail h_trial h_images h_slots h_triedYear h_ofBikes  rs0 ra0 ns na nl x5_ 1 h) (cwV 3 hw (goodV mw_4_166 mw_4_168 mw_s70 mw_1_1 mw_4_169) rfl rfl rfl (by decide +kernel) ⟨Nat.le_of_ble_eq_true rfl, Nat.le_of_ble_eq_true rfl⟩) rfl rfl rfl hl.1 rfl (Nat.le_of_ble_eq_true rfl) dX11_roundsOn_30 ⟨Nat.zero_le _, Nat.zero_le _⟩) hP hD hS hA [0, 1, 2, 3, 4, 5, 6, 7, 8, 9] [] [0, 1, 2, 3, 4, 5, 6, 7, 8, 9] rfl rfl rfl (by decide) rfl (fun _ => rfl) (fun r11 u H locs h hP hD hS => ?_)
            obtain ⟨aN6, ra_7, ns_8, na_9, nl_10⟩ := u
            have hP : va_P D vwCl (List.flatten ([cLockRail L0 h_reader h_rail h_trial h_images h_slots n0 h_triedYear h_ofBikes C ] ++ (wRail aR0 C rs0 ra_7 ++ (wNight n0 aN6 C ns_8 na_9 nl_10)))) H := hP
            have hD : va_D A (List.flatten ([cLockRail L0 h_reader h_rail h_trial h_images h_slots n0 h_triedYear h_ofBikes C ] ++ (wRail aR0 C rs0 ra_7 ++ (wNight n0 aN6 C ns_8 na_9 nl_10)))) := hD
            refine lv_istore (lv' := [(6, .int r11), (0, .ref L0), (1, .ref (aR0 0)), (2, .int p2), (3, .int x3_), (4, .int x4_), (5, .int x5_)]) hx hb dX11_roundsOn_33 hl (by decide) rfl (fun ls hl => ?_)
            refine lv_iload hx hb dX11_roundsOn_35 (lv_at hl 5 rfl) ?_
            refine lv_iload hx hb dX11_roundsOn_37 (lv_at hl 0 rfl) ?_
            refine lv_aload_n hx hb dX11_roundsOn_39 rfl (lv_at hl 2 rfl) ?_
            refine va_getN (D := D) (ci := 4) (v := .ref (aR0 7)) (C := RX4) (T := TX4) (N := 16) hx hb hw inW_X4 hown hK hP 1 rfl rfl 5 (by decide) hn97 (fun _ h9 => h9) rfl dX11_roundsOn_40 ?_
            refine lv_iload hx hb dX11_roundsOn_43 (lv_at hl 6 rfl) ?_
            refine cGoI (wo := fun u => [cLockRail L0 h_reader h_rail h_trial h_images h_slots n0 h_triedYear h_ofBikes C ] ++ (wRail aR0 C rs0 ra_7 ++ (wNight n0 aN6 C ns_8 na_9 nl_10))) (cRunVN (As := [.int x5_]) (rest := [.int r11, .int x4_]) ⟨hx, hb, hml, hown, hw⟩ hK hN hP hD [4] rfl rfl (k_X0_optionOf l D C _ (aR0 7) (aR0 8) (aR0 9) (aR0 10) (aR0 11) (aR0 12)  (rs0 13) (ra_7 4) (ra_7 5) (ra_7 6) (ra_7 7) (ra_7 8) x5_ h) ⟨va_cnB 1 hw (goodN mw_4_149) rfl rfl rfl (hN.m 57 rfl) (hw _ mw_1_7) (by decide +kernel) ⟨Nat.le_of_ble_eq_true rfl, Nat.le_of_ble_eq_true rfl⟩, hw _ mw_4_148, hw _ mw_s67⟩ rfl rfl rfl hl.1 rfl (Nat.le_of_ble_eq_true rfl) dX11_roundsOn_45 ⟨Nat.zero_le _, Nat.zero_le _⟩) hP hD hS hA [4] [0, 1, 2, 3, 5, 6, 7, 8, 9] [0, 1, 2, 3, 9, 4, 5, 6, 7, 8] rfl rfl rfl (by decide) rfl (fun _ => rfl) (fun r12 u H locs h hP hD hS => ?_)
            have hP : va_P D vwCl (List.flatten ([cLockRail L0 h_reader h_rail h_trial h_images h_slots n0 h_triedYear h_ofBikes C ] ++ (wRail aR0 C rs0 ra_7 ++ (wNight n0 aN6 C ns_8 na_9 nl_10)))) H := hP
            have hD : va_D A (List.flatten ([cLockRail L0 h_reader h_rail h_trial h_images h_slots n0 h_triedYear h_ofBikes C ] ++ (wRail aR0 C rs0 ra_7 ++ (wNight n0 aN6 C ns_8 na_9 nl_10)))) := hD
            refine lv_icmp_eq (tgt := 55) hx hb dX11_roundsOn_48 (by decide) (fun c13 => ?_) (fun c13 => ?_)
            · have h := h.1 c13
              refine lv_iconst (v := 0) hx hb dX11_roundsOn_55 (by decide) ?_
              exact N56 x5_ r11 0 x4_ ra_7 ns_8 na_9 nl_10 aN6 _ _ _ h hP hD hS (lv_sub hl [1, 2, 3, 4, 6, 0] rfl)
            · have h := h.2 c13
              refine lv_iconst (v := 1) hx hb dX11_roundsOn_51 (by decide) ?_
              refine lv_goto (tgt := 56) hx hb dX11_roundsOn_52 (by decide) ?_
              exact N56 x5_ r11 1 x4_ ra_7 ns_8 na_9 nl_10 aN6 _ _ _ h hP hD hS (lv_sub hl [1, 2, 3, 4, 6, 0] rfl)
      intro x3_ ra0 ns na nl aN H locs ls h hP hD hS hl
      refine lv_iload_n hx hb dX11_roundsOn_2 rfl (lv_at hl 3 rfl) ?_
      refine lv_iload_n hx hb dX11_roundsOn_3 rfl (lv_at hl 2 rfl) ?_
      refine lv_icmp_gt (tgt := 89) hx hb dX11_roundsOn_4 (by decide) (fun c14 => ?_) (fun c14 => ?_)
      · have h := h.1 c14
        refine lv_iload_n hx hb dX11_roundsOn_89 rfl (lv_at hl 2 rfl) ?_
        refine lv_iconst (v := 1) hx hb dX11_roundsOn_90 (by decide) ?_
        refine lv_iadd hx hb dX11_roundsOn_91 ?_
        rw [← hQ]
        exact cRetI (v := (p2 + 1)) (aN, ra0, ns, na, nl) hx hb hr hlocks hS hP hD h dX11_roundsOn_92
      · have h := h.2 c14
        refine lv_iconst (v := 0) hx hb dX11_roundsOn_7 (by decide) ?_
        refine lv_istore (lv' := [(4, .int 0), (0, .ref L0), (1, .ref (aR0 0)), (2, .int p2), (3, .int x3_)]) hx hb dX11_roundsOn_8 hl (by decide) rfl (fun ls hl => ?_)
        refine lv_iconst (v := 0) hx hb dX11_roundsOn_10 (by decide) ?_
        refine lv_istore (lv' := [(5, .int 0), (4, .int 0), (0, .ref L0), (1, .ref (aR0 0)), (2, .int p2), (3, .int x3_)]) hx hb dX11_roundsOn_11 hl (by decide) rfl (fun ls hl => ?_)
        obtain ⟨n, h⟩ := h
        exact N13 x3_ n 0 0 ra0 ns na nl aN _ _ _ h hP hD hS (lv_sub hl [2, 3, 4, 5, 1, 0] rfl)
  refine lv_iconst (v := 1) hx hb dX11_roundsOn_0 (by decide) ?_
  refine lv_istore_n (lv' := [(3, .int 1), (0, .ref L0), (1, .ref (aR0 0)), (2, .int p2)]) hx hb dX11_roundsOn_1 rfl hl (by decide) rfl (fun ls hl => ?_)
  obtain ⟨n, h⟩ := h
  exact N2  n 1 ra0 ns na nl aN _ _ _ h hP hD hS (lv_sub hl [1, 2, 3, 0] rfl)
abbrev vsX11_settle : List Cond := Cond.code yX11_settle cX11_settle 2 (some .int) :: WS
abbrev rmX11_settle : Room := { frames := 6, cells := 0, slots := 0, locals := 161 }
set_option maxHeartbeats 4000000 in
set_option maxRecDepth 100000 in
theorem k_X11_settle (l : Launch) (D : va_G) (C : Nat → ClassId) (sz : Nat) (L0 : Nat) (aU : Nat → Nat) (aR : Nat → Nat) (aR2 : Nat → Nat) (aS : Nat → Nat) (n0 : Nat) (aN : Nat → Nat) (y0 : Nat) (y1 : Nat) (y2 : Nat) (o0 : Nat) (h_images : Nat) (us : Nat → Int32) (ua : Nat → Nat → Int32) (rs : Nat → Int32) (ra : Nat → Nat → Int32) (rs2 : Nat → Int32) (ra2 : Nat → Nat → Int32) (sa : Nat → Nat → Int32) (sl : Nat → Nat → Int64) (ns : Nat → Int32) (na : Nat → Nat → Int32) (nl : Nat → Nat → Int64) (y_isThere : Int32) (y_taken : Nat → Int32) (y_took : Nat → Int32) (o_of : Nat → Int64) (p1 : Int32) {post : Int32 → (Nat → Nat → Int32) → (Nat → Int32) → (Nat → Nat → Int32) → (Nat → Nat → Int64) → Prop} (h : P_X11_settle rs ra ns na nl p1 post) : Met l yX11_settle vsX11_settle rmX11_settle (cPre D C [.ref L0, .int p1] sz ([cLockRail L0 (aU 0) (aR 0) (aR2 0) h_images (aS 0) n0 y0 o0 C ] ++ (wReader aU C us ua ++ (wRail aR C rs ra ++ (wRail aR2 C rs2 ra2 ++ (wSlots aS C sa sl ++ (wNight n0 aN C ns na nl ++ ([cYear y0 y1 y2 C y_isThere y_taken y_took] ++ ([cOb o0 C o_of]))))))))) (cQi D (fun (r : Int32) (u : (Nat → Nat) × (Nat → Nat → Int32) × (Nat → Int32) × (Nat → Nat → Int32) × (Nat → Nat → Int64)) => post r u.2.1 u.2.2.1 u.2.2.2.1 u.2.2.2.2) (fun u => [cLockRail L0 (aU 0) (aR 0) (aR2 0) h_images (aS 0) n0 y0 o0 C ] ++ (wReader aU C us ua ++ (wRail aR C rs u.2.1 ++ (wRail aR2 C rs2 ra2 ++ (wSlots aS C sa sl ++ (wNight n0 u.1 C u.2.2.1 u.2.2.2.1 u.2.2.2.2 ++ ([cYear y0 y1 y2 C y_isThere y_taken y_took] ++ ([cOb o0 C o_of])))))))) (va_A (List.flatten ([cLockRail L0 (aU 0) (aR 0) (aR2 0) h_images (aS 0) n0 y0 o0 C ] ++ (wReader aU C us ua ++ (wRail aR C rs ra ++ (wRail aR2 C rs2 ra2 ++ (wSlots aS C sa sl ++ (wNight n0 aN C ns na nl ++ ([cYear y0 y1 y2 C y_isThere y_taken y_took] ++ ([cOb o0 C o_of]))))))))) sz)) 0 0 (va_A (List.flatten ([cLockRail L0 (aU 0) (aR 0) (aR2 0) h_images (aS 0) n0 y0 o0 C ] ++ (wReader aU C us ua ++ (wRail aR C rs ra ++ (wRail aR2 C rs2 ra2 ++ (wSlots aS C sa sl ++ (wNight n0 aN C ns na nl ++ ([cYear y0 y1 y2 C y_isThere y_taken y_took] ++ ([cOb o0 C o_of]))))))))) sz) := by
  refine cStart (QA := fun A => cQi D (fun (r : Int32) (u : (Nat → Nat) × (Nat → Nat → Int32) × (Nat → Int32) × (Nat → Nat → Int32) × (Nat → Nat → Int64)) => post r u.2.1 u.2.2.1 u.2.2.2.1 u.2.2.2.2) (fun u => [cLockRail L0 (aU 0) (aR 0) (aR2 0) h_images (aS 0) n0 y0 o0 C ] ++ (wReader aU C us ua ++ (wRail aR C rs u.2.1 ++ (wRail aR2 C rs2 ra2 ++ (wSlots aS C sa sl ++ (wNight n0 u.1 C u.2.2.1 u.2.2.2.1 u.2.2.2.2 ++ ([cYear y0 y1 y2 C y_isThere y_taken y_took] ++ ([cOb o0 C o_of])))))))) A) (cc := cX11_settle) (maxL := 2) (ret := (some .int)) (by decide) (Nat.le_of_ble_eq_true rfl) ?_
  intro p e s m args below meth c A ls hx hb hr hml hown hw hlocks hname hK hN hA hP hD hS hl
  generalize hQ : MQ below _ args s 0 0 A = Q
  have hl : lv_has ls 2 [(0, .ref L0), (1, .int p1)] := hl
  obtain ⟨H, hH⟩ : ∃ H, H = s.heap := ⟨_, rfl⟩
  obtain ⟨locs, hlo⟩ : ∃ z : List Loc, z = [] := ⟨_, rfl⟩
  have hP : va_P D vwCl (List.flatten ([cLockRail L0 (aU 0) (aR 0) (aR2 0) h_images (aS 0) n0 y0 o0 C ] ++ (wReader aU C us ua ++ (wRail aR C rs ra ++ (wRail aR2 C rs2 ra2 ++ (wSlots aS C sa sl ++ (wNight n0 aN C ns na nl ++ ([cYear y0 y1 y2 C y_isThere y_taken y_took] ++ ([cOb o0 C o_of]))))))))) H := by rw [hH]; exact hP
  have hS : va_S A s.heap H locs := by rw [hH, hlo]; exact hS
  rw [show W p l e rmX11_settle s m args below meth c s.heap [] 0 0 Q (F0 m 0 ls []) = W p l e rmX11_settle s m args below meth c H locs 0 0 Q (F0 m 0 ls []) from by rw [hH, hlo]]
  refine lv_aload_n hx hb dX11_settle_0 rfl (lv_at hl 0 rfl) ?_
  refine va_get (D := D) (ci := 11) (v := .ref (aR 0)) (C := RX11) (T := TX11) (N := 8) hx hb hw inW_X11 hown hK hP 0 rfl rfl 1 (by decide) (hw _ mw_2_144) (fun _ h9 => h9) rfl dX11_settle_1 ?_
  refine cGoI (wo := fun u => [cLockRail L0 (aU 0) (aR 0) (aR2 0) h_images (aS 0) n0 y0 o0 C ] ++ (wReader aU C us ua ++ (wRail aR C rs ra ++ (wRail aR2 C rs2 ra2 ++ (wSlots aS C sa sl ++ (wNight n0 aN C ns na nl ++ ([cYear y0 y1 y2 C y_isThere y_taken y_took] ++ ([cOb o0 C o_of])))))))) (cRunVN (As := []) (rest := []) ⟨hx, hb, hml, hown, hw⟩ hK hN hP hD [3, 4, 5, 6, 7, 8] rfl rfl (k_X4_isTold l D C _ aR  rs ra  h) ⟨va_cnB 0 hw (goodN mw_4_19) rfl rfl rfl (hN.m 44 rfl) (hw _ mw_1_4) (by decide +kernel) ⟨Nat.le_of_ble_eq_true rfl, Nat.le_of_ble_eq_true rfl⟩, hw _ mw_4_18, hw _ mw_s47⟩ rfl rfl rfl hl.1 rfl (Nat.le_of_ble_eq_true rfl) dX11_settle_4 ⟨Nat.zero_le _, Nat.zero_le _⟩) hP hD hS hA [3, 4, 5, 6, 7, 8] [0, 1, 2, 9, 10, 11, 12, 13, 14, 15, 16, 17, 18, 19, 20] [0, 1, 2, 15, 16, 17, 18, 19, 20, 3, 4, 5, 6, 7, 8, 9, 10, 11, 12, 13, 14] rfl rfl rfl (by decide) rfl (fun _ => rfl) (fun r1 u H locs h hP hD hS => ?_)
  have hP : va_P D vwCl (List.flatten ([cLockRail L0 (aU 0) (aR 0) (aR2 0) h_images (aS 0) n0 y0 o0 C ] ++ (wReader aU C us ua ++ (wRail aR C rs ra ++ (wRail aR2 C rs2 ra2 ++ (wSlots aS C sa sl ++ (wNight n0 aN C ns na nl ++ ([cYear y0 y1 y2 C y_isThere y_taken y_took] ++ ([cOb o0 C o_of]))))))))) H := hP
  have hD : va_D A (List.flatten ([cLockRail L0 (aU 0) (aR 0) (aR2 0) h_images (aS 0) n0 y0 o0 C ] ++ (wReader aU C us ua ++ (wRail aR C rs ra ++ (wRail aR2 C rs2 ra2 ++ (wSlots aS C sa sl ++ (wNight n0 aN C ns na nl ++ ([cYear y0 y1 y2 C y_isThere y_taken y_took] ++ ([cOb o0 C o_of]))))))))) := hD
  refine lv_if_eq (tgt := 20) hx hb dX11_settle_7 (by decide) (fun c2 => ?_) (fun c2 => ?_)
  · have h := h.1 c2
    refine lv_bipush (v := (-2)) hx hb dX11_settle_20 (by decide) ?_
    rw [← hQ]
    exact cRetI (v := (-2)) (aN, ra, ns, na, nl) hx hb hr hlocks hS hP hD h dX11_settle_22
  · have h := h.2 c2
    refine lv_iload_n hx hb dX11_settle_10 rfl (lv_at hl 1 rfl) ?_
    refine lv_if_lt (tgt := 20) hx hb dX11_settle_11 (by decide) (fun c3 => ?_) (fun c3 => ?_)
    · have h := h.1 c3
      refine lv_bipush (v := (-2)) hx hb dX11_settle_20 (by decide) ?_
      rw [← hQ]
      exact cRetI (v := (-2)) (aN, ra, ns, na, nl) hx hb hr hlocks hS hP hD h dX11_settle_22
    · have h := h.2 c3
      refine lv_iload_n hx hb dX11_settle_14 rfl (lv_at hl 1 rfl) ?_
      refine lv_bipush (v := 30) hx hb dX11_settle_15 (by decide) ?_
      refine lv_icmp_le (tgt := 23) hx hb dX11_settle_17 (by decide) (fun c4 => ?_) (fun c4 => ?_)
      · have h := h.1 c4
        refine lv_iload_n hx hb dX11_settle_23 rfl (lv_at hl 1 rfl) ?_
        refine lv_aload_n hx hb dX11_settle_24 rfl (lv_at hl 0 rfl) ?_
        refine lv_aload_n hx hb dX11_settle_25 rfl (lv_at hl 0 rfl) ?_
        refine va_get (D := D) (ci := 11) (v := .ref (aR 0)) (C := RX11) (T := TX11) (N := 8) hx hb hw inW_X11 hown hK hP 0 rfl rfl 1 (by decide) (hw _ mw_2_144) (fun _ h9 => h9) rfl dX11_settle_26 ?_
        refine lv_iload_n hx hb dX11_settle_29 rfl (lv_at hl 1 rfl) ?_
        refine cGoI (wo := fun u => [cLockRail L0 (aU 0) (aR 0) (aR2 0) h_images (aS 0) n0 y0 o0 C ] ++ (wReader aU C us ua ++ (wRail aR C rs u.2.1 ++ (wRail aR2 C rs2 ra2 ++ (wSlots aS C sa sl ++ (wNight n0 u.1 C u.2.2.1 u.2.2.2.1 u.2.2.2.2 ++ ([cYear y0 y1 y2 C y_isThere y_taken y_took] ++ ([cOb o0 C o_of])))))))) (cRunV (As := [.ref (aR 0), .int p1]) (rest := [.int p1]) ⟨hx, hb, hml, hown, hw⟩ hK hN hP hD [0, 3, 4, 5, 6, 7, 8, 16, 17, 18] rfl rfl (k_X11_roundsOn l D C _ L0 aR n0 aN (aU 0) (aR 0) (aR2 0) h_images (aS 0) y0 o0  rs ra ns na nl p1 h) (cwV 2 hw (goodV mw_4_180 mw_4_182 mw_s71 mw_1_1 mw_4_183) rfl rfl rfl (by decide +kernel) ⟨Nat.le_of_ble_eq_true rfl, Nat.le_of_ble_eq_true rfl⟩) rfl rfl rfl hl.1 rfl (Nat.le_of_ble_eq_true rfl) dX11_settle_30 ⟨Nat.zero_le _, Nat.zero_le _⟩) hP hD hS hA [0, 3, 4, 5, 6, 7, 8, 16, 17, 18] [1, 2, 9, 10, 11, 12, 13, 14, 15, 19, 20] [11, 0, 1, 12, 13, 14, 15, 16, 17, 2, 3, 4, 5, 6, 7, 8, 18, 19, 20, 9, 10] rfl rfl rfl (by decide) rfl (fun _ => rfl) (fun r10 u H locs h hP hD hS => ?_)
        obtain ⟨aN5, ra_6, ns_7, na_8, nl_9⟩ := u
        have hP : va_P D vwCl (List.flatten ([cLockRail L0 (aU 0) (aR 0) (aR2 0) h_images (aS 0) n0 y0 o0 C ] ++ (wReader aU C us ua ++ (wRail aR C rs ra_6 ++ (wRail aR2 C rs2 ra2 ++ (wSlots aS C sa sl ++ (wNight n0 aN5 C ns_7 na_8 nl_9 ++ ([cYear y0 y1 y2 C y_isThere y_taken y_took] ++ ([cOb o0 C o_of]))))))))) H := hP
        have hD : va_D A (List.flatten ([cLockRail L0 (aU 0) (aR 0) (aR2 0) h_images (aS 0) n0 y0 o0 C ] ++ (wReader aU C us ua ++ (wRail aR C rs ra_6 ++ (wRail aR2 C rs2 ra2 ++ (wSlots aS C sa sl ++ (wNight n0 aN5 C ns_7 na_8 nl_9 ++ ([cYear y0 y1 y2 C y_isThere y_taken y_took] ++ ([cOb o0 C o_of]))))))))) := hD
        refine va_mmin hx hb (hml.trans hl.1.symm) hown (hw _ mw_4_184) (hw _ mw_2_206) (hw _ mw_1_14) (hw _ mw_2_207) (Nat.le_of_ble_eq_true rfl) (Nat.le_of_ble_eq_true rfl) (Nat.zero_le _) (Nat.zero_le _) dX11_settle_33 ?_
        rw [← hQ]
        exact cRetI (v := (if r10 < p1 then r10 else p1)) (aN5, ra_6, ns_7, na_8, nl_9) hx hb hr hlocks hS hP hD h dX11_settle_36
      · have h := h.2 c4
        refine lv_bipush (v := (-2)) hx hb dX11_settle_20 (by decide) ?_
        rw [← hQ]
        exact cRetI (v := (-2)) (aN, ra, ns, na, nl) hx hb hr hlocks hS hP hD h dX11_settle_22
