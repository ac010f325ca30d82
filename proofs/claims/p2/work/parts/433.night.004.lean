abbrev vsX3_bringBack : List Cond := Cond.code yX3_bringBack cX3_bringBack 2 none :: WS
abbrev rmX3_bringBack : Room := { frames := 1, cells := 0, slots := 0, locals := 26 }
set_option maxHeartbeats 4000000 in
set_option maxRecDepth 100000 in
theorem k_X3_bringBack (l : Launch) (D : va_G) (C : Nat → ClassId) (sz : Nat) (n0 : Nat) (aN : Nat → Nat)  (ns : Nat → Int32) (na : Nat → Nat → Int32) (nl : Nat → Nat → Int64)  {post : (Nat → Int32) → (Nat → Nat → Int32) → (Nat → Nat → Int64) → Prop} (h : P_X3_bringBack ns na nl post) : Met l yX3_bringBack vsX3_bringBack rmX3_bringBack (cPre D C [.ref n0] sz (wNight n0 aN C ns na nl)) (cQv D (fun (u : (Nat → Nat) × (Nat → Int32) × (Nat → Nat → Int32) × (Nat → Nat → Int64)) => post u.2.1 u.2.2.1 u.2.2.2) (fun u => wNight n0 u.1 C u.2.1 u.2.2.1 u.2.2.2) (va_A (List.flatten (wNight n0 aN C ns na nl)) sz)) 0 0 (va_A (List.flatten (wNight n0 aN C ns na nl)) sz) := by
  refine cStart (QA := fun A => cQv D (fun (u : (Nat → Nat) × (Nat → Int32) × (Nat → Nat → Int32) × (Nat → Nat → Int64)) => post u.2.1 u.2.2.1 u.2.2.2) (fun u => wNight n0 u.1 C u.2.1 u.2.2.1 u.2.2.2) A) (cc := cX3_bringBack) (maxL := 2) (ret := none) (by decide) (Nat.le_of_ble_eq_true rfl) ?_
  intro p e s m args below meth c A ls hx hb hr hml hown hw hlocks hname hK hN hA hP hD hS hl
  generalize hQ : MQ below _ args s 0 0 A = Q
  have hl : lv_has ls 2 [(0, .ref n0)] := hl
  have hn123 : (Cond.fieldLinkNest "LockRail$Night" 123 "LockRail$Spread" "size" "I" "LockRail").before args s = true := hN.f 75 rfl
  have hn126 : (Cond.fieldLinkNest "LockRail$Night" 126 "LockRail$Spread" "states" "[I" "LockRail").before args s = true := hN.f 76 rfl
  have hn129 : (Cond.fieldLinkNest "LockRail$Night" 129 "LockRail$Spread" "parts" "[J" "LockRail").before args s = true := hN.f 77 rfl
  obtain ⟨H, hH⟩ : ∃ H, H = s.heap := ⟨_, rfl⟩
  obtain ⟨locs, hlo⟩ : ∃ z : List Loc, z = [] := ⟨_, rfl⟩
  have hP : va_P D vwCl (List.flatten (wNight n0 aN C ns na nl)) H := by rw [hH]; exact hP
  have hS : va_S A s.heap H locs := by rw [hH, hlo]; exact hS
  rw [show W p l e rmX3_bringBack s m args below meth c s.heap [] 0 0 Q (F0 m 0 ls []) = W p l e rmX3_bringBack s m args below meth c H locs 0 0 Q (F0 m 0 ls []) from by rw [hH, hlo]]
  have N55 : ∀ (ns : Nat → Int32) (na : Nat → Nat → Int32) (nl : Nat → Nat → Int64) (aN : Nat → Nat) (H : Heap) (locs : List Loc) (ls : Array Slot), P_X3_bringBack_55  post  ns na nl → va_P D vwCl (List.flatten (wNight n0 aN C ns na nl)) H → va_D A (List.flatten (wNight n0 aN C ns na nl)) → va_S A s.heap H locs → lv_has ls 2 [(0, .ref n0)] → W p l e rmX3_bringBack s m args below meth c H locs 0 0 Q (F0 m 55 ls []) := by
    intro ns na nl aN H locs ls h hP hD hS hl
    refine lv_aload_n hx hb dX3_bringBack_55 rfl (lv_at hl 0 rfl) ?_
    refine cGoV (wo := fun u => wNight n0 u.1 C u.2.1 u.2.2.1 u.2.2.2) (cRunV (As := []) (rest := []) ⟨hx, hb, hml, hown, hw⟩ hK hN hP hD [0, 1, 2] rfl rfl (k_X3_turn l D C _ n0 aN  ns na nl  h) (cwV 0 hw (goodV mw_4_55 mw_4_57 mw_s54 mw_1_11 mw_4_58) rfl rfl rfl (by decide +kernel) ⟨Nat.le_of_ble_eq_true rfl, Nat.le_of_ble_eq_true rfl⟩) rfl rfl rfl hl.1 rfl (Nat.le_of_ble_eq_true rfl) dX3_bringBack_56 ⟨Nat.zero_le _, Nat.zero_le _⟩) hP hD hS hA [0, 1, 2] [] [0, 1, 2] rfl rfl rfl (by decide) rfl (fun _ => rfl) (fun u H locs h hP hD hS => ?_)
    obtain ⟨aN1, ns_2, na_3, nl_4⟩ := u
    have hP : va_P D vwCl (List.flatten (wNight n0 aN1 C ns_2 na_3 nl_4)) H := hP
    have hD : va_D A (List.flatten (wNight n0 aN1 C ns_2 na_3 nl_4)) := hD
    rw [← hQ]
    exact cRetV (aN1, ns_2, na_3, nl_4) hx hb hr hlocks hS hP hD h dX3_bringBack_59
  have N9 : ∀  (n9 : Nat) (x1_ : Int32) (ns : Nat → Int32) (na : Nat → Nat → Int32) (nl : Nat → Nat → Int64) (aN : Nat → Nat) (H : Heap) (locs : List Loc) (ls : Array Slot), P_X3_bringBack_9  post (fun (ns : Nat → Int32) (na : Nat → Nat → Int32) (nl : Nat → Nat → Int64) => P_X3_bringBack_55  post  ns na nl)  n9 x1_ ns na nl → va_P D vwCl (List.flatten (wNight n0 aN C ns na nl)) H → va_D A (List.flatten (wNight n0 aN C ns na nl)) → va_S A s.heap H locs → lv_has ls 2 [(0, .ref n0), (1, .int x1_)] → W p l e rmX3_bringBack s m args below meth c H locs 0 0 Q (F0 m 9 ls []) := by
    intro n9
    induction n9 with
    | zero => intro x1_ ns na nl aN H locs ls h hP hD hS hl; exact False.elim h
    | succ n9 ih9 =>
      intro x1_ ns na nl aN H locs ls h hP hD hS hl
      refine lv_iload_n hx hb dX3_bringBack_9 rfl (lv_at hl 1 rfl) ?_
      refine lv_aload_n hx hb dX3_bringBack_10 rfl (lv_at hl 0 rfl) ?_
      refine va_get (D := D) (ci := 3) (v := .ref (aN 7)) (C := RX3) (T := TX3) (N := 10) hx hb hw inW_X3 hown hK hP 0 rfl rfl 6 (by decide) (hw _ mw_2_116) (fun _ h9 => h9) rfl dX3_bringBack_11 ?_
      refine va_getN (D := D) (ci := 7) (v := .int (ns 2)) (C := RX7) (T := TX7) (N := 5) hx hb hw inW_X7 hown hK hP 7 rfl rfl 0 (by decide) hn123 (fun _ h9 => h9) rfl dX3_bringBack_14 ?_
      refine lv_icmp_ge (tgt := 55) hx hb dX3_bringBack_17 (by decide) (fun c5 => ?_) (fun c5 => ?_)
      · have h := h.1 c5
        exact N55 ns na nl aN _ _ _ h hP hD hS (lv_sub hl [0] rfl)
      · have h := h.2 c5
        refine lv_aload_n hx hb dX3_bringBack_20 rfl (lv_at hl 0 rfl) ?_
        refine va_get (D := D) (ci := 3) (v := .ref (aN 12)) (C := RX3) (T := TX3) (N := 10) hx hb hw inW_X3 hown hK hP 0 rfl rfl 7 (by decide) (hw _ mw_2_117) (fun _ h9 => h9) rfl dX3_bringBack_21 ?_
        refine lv_aload_n hx hb dX3_bringBack_24 rfl (lv_at hl 0 rfl) ?_
        refine va_get (D := D) (ci := 3) (v := .ref (aN 7)) (C := RX3) (T := TX3) (N := 10) hx hb hw inW_X3 hown hK hP 0 rfl rfl 6 (by decide) (hw _ mw_2_116) (fun _ h9 => h9) rfl dX3_bringBack_25 ?_
        refine va_getN (D := D) (ci := 7) (v := .ref (aN 8)) (C := RX7) (T := TX7) (N := 5) hx hb hw inW_X7 hown hK hP 7 rfl rfl 1 (by decide) hn126 (fun _ h9 => h9) rfl dX3_bringBack_28 ?_
        refine lv_iload_n hx hb dX3_bringBack_31 rfl (lv_at hl 1 rfl) ?_
        refine cIald hx hb hK hP 8 0 rfl rfl x1_.toNatClampNeg rfl h.1 dX3_bringBack_32 ?_
        have h := h.2
        refine lv_sipush (v := (-2048)) hx hb dX3_bringBack_33 (by decide) ?_
        refine lv_iand hx hb dX3_bringBack_36 ?_
        refine lv_aload_n hx hb dX3_bringBack_37 rfl (lv_at hl 0 rfl) ?_
        refine va_get (D := D) (ci := 3) (v := .ref (aN 7)) (C := RX3) (T := TX3) (N := 10) hx hb hw inW_X3 hown hK hP 0 rfl rfl 6 (by decide) (hw _ mw_2_116) (fun _ h9 => h9) rfl dX3_bringBack_38 ?_
        refine va_getN (D := D) (ci := 7) (v := .ref (aN 9)) (C := RX7) (T := TX7) (N := 5) hx hb hw inW_X7 hown hK hP 7 rfl rfl 2 (by decide) hn129 (fun _ h9 => h9) rfl dX3_bringBack_41 ?_
        refine lv_iload_n hx hb dX3_bringBack_44 rfl (lv_at hl 1 rfl) ?_
        refine cLald hx hb hK hP 9 1 rfl rfl x1_.toNatClampNeg rfl h.1 dX3_bringBack_45 ?_
        have h := h.2
        refine cGoV (wo := fun u => wNight n0 aN C (va_up ns 3 u.1) (va_up (va_up (va_up na 8 u.2.1) 9 u.2.2.2.1) 10 u.2.2.2.2) (va_up nl 2 u.2.2.1)) (cRunVN (As := [.int ((na 5 x1_.toNatClampNeg) &&& (-2048)), .long (nl 1 x1_.toNatClampNeg)]) (rest := []) ⟨hx, hb, hml, hown, hw⟩ hK hN hP hD [2] rfl rfl (k_X7_put l D C _ (aN 12) (aN 13) (aN 14) (aN 15) (aN 16)  (ns 3) (na 8) (nl 2) (na 9) (na 10) ((na 5 x1_.toNatClampNeg) &&& (-2048)) (nl 1 x1_.toNatClampNeg) h) ⟨va_cnB 2 hw (goodN mw_4_37) rfl rfl rfl (hN.m 47 rfl) (hw _ mw_1_12) (by decide +kernel) ⟨Nat.le_of_ble_eq_true rfl, Nat.le_of_ble_eq_true rfl⟩, hw _ mw_4_36, hw _ mw_s51⟩ rfl rfl rfl hl.1 rfl (Nat.le_of_ble_eq_true rfl) dX3_bringBack_46 ⟨Nat.zero_le _, Nat.zero_le _⟩) hP hD hS hA [2] [0, 1] [0, 1, 2] rfl rfl rfl (by decide) rfl (fun _ => rfl) (fun u H locs h hP hD hS => ?_)
        obtain ⟨siz_6, sta_7, par_8, slo_9, tab_10⟩ := u
        have hP : va_P D vwCl (List.flatten (wNight n0 aN C (va_up ns 3 siz_6) (va_up (va_up (va_up na 8 sta_7) 9 slo_9) 10 tab_10) (va_up nl 2 par_8))) H := hP
        have hD : va_D A (List.flatten (wNight n0 aN C (va_up ns 3 siz_6) (va_up (va_up (va_up na 8 sta_7) 9 slo_9) 10 tab_10) (va_up nl 2 par_8))) := hD
        refine lv_iinc (v := (x1_ + 1)) (lv' := [(1, .int (x1_ + 1)), (0, .ref n0)]) hx hb dX3_bringBack_49 hl (k := 1) rfl rfl (by decide) rfl (fun ls hl => ?_)
        refine lv_goto (tgt := 9) hx hb dX3_bringBack_52 (by decide) ?_
        exact ih9 (x1_ + 1) (va_up ns 3 siz_6) (va_up (va_up (va_up na 8 sta_7) 9 slo_9) 10 tab_10) (va_up nl 2 par_8) aN _ _ _ h hP hD hS (lv_sub hl [1, 0] rfl)
  refine lv_aload_n hx hb dX3_bringBack_0 rfl (lv_at hl 0 rfl) ?_
  refine va_get (D := D) (ci := 3) (v := .ref (aN 12)) (C := RX3) (T := TX3) (N := 10) hx hb hw inW_X3 hown hK hP 0 rfl rfl 7 (by decide) (hw _ mw_2_117) (fun _ h9 => h9) rfl dX3_bringBack_1 ?_
  refine cGoV (wo := fun u => wNight n0 aN C (va_up ns 3 u.1) (va_up na 10 u.2) nl) (cRunVN (As := []) (rest := []) ⟨hx, hb, hml, hown, hw⟩ hK hN hP hD [2] rfl rfl (k_X7_wipe l D C _ (aN 12) (aN 13) (aN 14) (aN 15) (aN 16)  (ns 3) (na 8) (nl 2) (na 9) (na 10)  h) ⟨va_cnB 0 hw (goodN mw_4_32) rfl rfl rfl (hN.m 46 rfl) (hw _ mw_1_12) (by decide +kernel) ⟨Nat.le_of_ble_eq_true rfl, Nat.le_of_ble_eq_true rfl⟩, hw _ mw_4_31, hw _ mw_s50⟩ rfl rfl rfl hl.1 rfl (Nat.le_of_ble_eq_true rfl) dX3_bringBack_4 ⟨Nat.zero_le _, Nat.zero_le _⟩) hP hD hS hA [2] [0, 1] [0, 1, 2] rfl rfl rfl (by decide) rfl (fun _ => rfl) (fun u H locs h hP hD hS => ?_)
  obtain ⟨siz_11, tab_12⟩ := u
  have hP : va_P D vwCl (List.flatten (wNight n0 aN C (va_up ns 3 siz_11) (va_up na 10 tab_12) nl)) H := hP
  have hD : va_D A (List.flatten (wNight n0 aN C (va_up ns 3 siz_11) (va_up na 10 tab_12) nl)) := hD
  refine lv_iconst (v := 0) hx hb dX3_bringBack_7 (by decide) ?_
  refine lv_istore_n (lv' := [(1, .int 0), (0, .ref n0)]) hx hb dX3_bringBack_8 rfl hl (by decide) rfl (fun ls hl => ?_)
  obtain ⟨n, h⟩ := h
  exact N9  n 0 (va_up ns 3 siz_11) (va_up na 10 tab_12) nl aN _ _ _ h hP hD hS (lv_sub hl [1, 0] rfl)
abbrev vsX3_playBaited : List Cond := Cond.code yX3_playBaited cX3_playBaited 6 none :: WS
abbrev rmX3_playBaited : Room := { frames := 3, cells := 0, slots := 0, locals := 83 }
set_option maxHeartbeats 4000000 in
set_option maxRecDepth 100000 in
theorem k_X3_playBaited (l : Launch) (D : va_G) (C : Nat → ClassId) (sz : Nat) (n0 : Nat) (aN : Nat → Nat) (aR : Nat → Nat)  (ns : Nat → Int32) (na : Nat → Nat → Int32) (nl : Nat → Nat → Int64) (rs : Nat → Int32) (ra : Nat → Nat → Int32) (p2 : Int32) (p3 : Int32) {post : (Nat → Int32) → (Nat → Nat → Int32) → (Nat → Nat → Int64) → Prop} (h : P_X3_playBaited ns na nl rs ra p2 p3 post) : Met l yX3_playBaited vsX3_playBaited rmX3_playBaited (cPre D C [.ref n0, .ref (aR 0), .int p2, .int p3] sz (wNight n0 aN C ns na nl ++ (wRail aR C rs ra))) (cQv D (fun (u : (Nat → Nat) × (Nat → Int32) × (Nat → Nat → Int32) × (Nat → Nat → Int64)) => post u.2.1 u.2.2.1 u.2.2.2) (fun u => wNight n0 u.1 C u.2.1 u.2.2.1 u.2.2.2 ++ (wRail aR C rs ra)) (va_A (List.flatten (wNight n0 aN C ns na nl ++ (wRail aR C rs ra))) sz)) 0 0 (va_A (List.flatten (wNight n0 aN C ns na nl ++ (wRail aR C rs ra))) sz) := by
  refine cStart (QA := fun A => cQv D (fun (u : (Nat → Nat) × (Nat → Int32) × (Nat → Nat → Int32) × (Nat → Nat → Int64)) => post u.2.1 u.2.2.1 u.2.2.2) (fun u => wNight n0 u.1 C u.2.1 u.2.2.1 u.2.2.2 ++ (wRail aR C rs ra)) A) (cc := cX3_playBaited) (maxL := 6) (ret := none) (by decide) (Nat.le_of_ble_eq_true rfl) ?_
  intro p e s m args below meth c A ls hx hb hr hml hown hw hlocks hname hK hN hA hP hD hS hl
  generalize hQ : MQ below _ args s 0 0 A = Q
  have hl : lv_has ls 6 [(0, .ref n0), (1, .ref (aR 0)), (2, .int p2), (3, .int p3)] := hl
  have hn75 : (Cond.fieldLinkNest "LockRail$Night" 75 "LockRail$Rail" "thieves" "LLockRail$Thieves;" "LockRail").before args s = true := hN.f 62 rfl
  have hn79 : (Cond.fieldLinkNest "LockRail$Night" 79 "LockRail$Thieves" "count" "I" "LockRail").before args s = true := hN.f 33 rfl
  have hn107 : (Cond.fieldLinkNest "LockRail$Night" 107 "LockRail$Thieves" "comes" "[I" "LockRail").before args s = true := hN.f 37 rfl
  have hn154 : (Cond.fieldLinkNest "LockRail$Night" 154 "LockRail$Rail" "nights" "I" "LockRail").before args s = true := hN.f 51 rfl
  obtain ⟨H, hH⟩ : ∃ H, H = s.heap := ⟨_, rfl⟩
  obtain ⟨locs, hlo⟩ : ∃ z : List Loc, z = [] := ⟨_, rfl⟩
  have hP : va_P D vwCl (List.flatten (wNight n0 aN C ns na nl ++ (wRail aR C rs ra))) H := by rw [hH]; exact hP
  have hS : va_S A s.heap H locs := by rw [hH, hlo]; exact hS
  rw [show W p l e rmX3_playBaited s m args below meth c s.heap [] 0 0 Q (F0 m 0 ls []) = W p l e rmX3_playBaited s m args below meth c H locs 0 0 Q (F0 m 0 ls []) from by rw [hH, hlo]]
  have N18 : ∀  (n18 : Nat) (x4_ : Int32) (ns : Nat → Int32) (na : Nat → Nat → Int32) (nl : Nat → Nat → Int64) (aN : Nat → Nat) (H : Heap) (locs : List Loc) (ls : Array Slot), P_X3_playBaited_18 rs ra p2 p3 post   n18 x4_ ns na nl → va_P D vwCl (List.flatten (wNight n0 aN C ns na nl ++ (wRail aR C rs ra))) H → va_D A (List.flatten (wNight n0 aN C ns na nl ++ (wRail aR C rs ra))) → va_S A s.heap H locs → lv_has ls 6 [(0, .ref n0), (1, .ref (aR 0)), (4, .int x4_)] → W p l e rmX3_playBaited s m args below meth c H locs 0 0 Q (F0 m 18 ls []) := by
    intro n18
    induction n18 with
    | zero => intro x4_ ns na nl aN H locs ls h hP hD hS hl; exact False.elim h
    | succ n18 ih18 =>
      have N64 : ∀ (x4_ : Int32) (ns : Nat → Int32) (na : Nat → Nat → Int32) (nl : Nat → Nat → Int64) (aN : Nat → Nat) (H : Heap) (locs : List Loc) (ls : Array Slot), P_X3_playBaited_64 rs ra p2 p3 post (P_X3_playBaited_18 rs ra p2 p3 post   n18) x4_ ns na nl → va_P D vwCl (List.flatten (wNight n0 aN C ns na nl ++ (wRail aR C rs ra))) H → va_D A (List.flatten (wNight n0 aN C ns na nl ++ (wRail aR C rs ra))) → va_S A s.heap H locs → lv_has ls 6 [(0, .ref n0), (1, .ref (aR 0)), (4, .int x4_)] → W p l e rmX3_playBaited s m args below meth c H locs 0 0 Q (F0 m 64 ls []) := by
        intro x4_ ns na nl aN H locs ls h hP hD hS hl
        refine lv_aload_n hx hb dX3_playBaited_64 rfl (lv_at hl 0 rfl) ?_
        refine cGoV (wo := fun u => wNight n0 u.1 C u.2.1 u.2.2.1 u.2.2.2 ++ (wRail aR C rs ra)) (cRunV (As := []) (rest := []) ⟨hx, hb, hml, hown, hw⟩ hK hN hP hD [0, 1, 2] rfl rfl (k_X3_bringBack l D C _ n0 aN  ns na nl  h) (cwV 0 hw (goodV mw_5_77 mw_5_79 mw_s83 mw_1_11 mw_5_80) rfl rfl rfl (by decide +kernel) ⟨Nat.le_of_ble_eq_true rfl, Nat.le_of_ble_eq_true rfl⟩) rfl rfl rfl hl.1 rfl (Nat.le_of_ble_eq_true rfl) dX3_playBaited_65 ⟨Nat.zero_le _, Nat.zero_le _⟩) hP hD hS hA [0, 1, 2] [3, 4, 5, 6, 7, 8] [6, 7, 8, 0, 1, 2, 3, 4, 5] rfl rfl rfl (by decide) rfl (fun _ => rfl) (fun u H locs h hP hD hS => ?_)
        obtain ⟨aN1, ns_2, na_3, nl_4⟩ := u
        have hP : va_P D vwCl (List.flatten (wNight n0 aN1 C ns_2 na_3 nl_4 ++ (wRail aR C rs ra))) H := hP
        have hD : va_D A (List.flatten (wNight n0 aN1 C ns_2 na_3 nl_4 ++ (wRail aR C rs ra))) := hD
        refine lv_iinc (v := (x4_ + 1)) (lv' := [(4, .int (x4_ + 1)), (0, .ref n0), (1, .ref (aR 0))]) hx hb dX3_playBaited_68 hl (k := 2) rfl rfl (by decide) rfl (fun ls hl => ?_)
        refine lv_goto (tgt := 18) hx hb dX3_playBaited_71 (by decide) ?_
        exact ih18 (x4_ + 1) ns_2 na_3 nl_4 aN1 _ _ _ h hP hD hS (lv_sub hl [1, 2, 0] rfl)
      have N30 : ∀ (x4_ : Int32) (n30 : Nat) (x5_ : Int32) (ns : Nat → Int32) (na : Nat → Nat → Int32) (nl : Nat → Nat → Int64) (aN : Nat → Nat) (H : Heap) (locs : List Loc) (ls : Array Slot), P_X3_playBaited_30 rs ra p2 p3 post (fun (x4_ : Int32) (ns : Nat → Int32) (na : Nat → Nat → Int32) (nl : Nat → Nat → Int64) => P_X3_playBaited_64 rs ra p2 p3 post (P_X3_playBaited_18 rs ra p2 p3 post   n18) x4_ ns na nl) x4_ n30 x5_ ns na nl → va_P D vwCl (List.flatten (wNight n0 aN C ns na nl ++ (wRail aR C rs ra))) H → va_D A (List.flatten (wNight n0 aN C ns na nl ++ (wRail aR C rs ra))) → va_S A s.heap H locs → lv_has ls 6 [(0, .ref n0), (1, .ref (aR 0)), (4, .int x4_), (5, .int x5_)] → W p l e rmX3_playBaited s m args below meth c H locs 0 0 Q (F0 m 30 ls []) := by
        intro x4_
        intro n30
        induction n30 with
        | zero => intro x5_ ns na nl aN H locs ls h hP hD hS hl; exact False.elim h
        | succ n30 ih30 =>
          intro x5_ ns na nl aN H locs ls h hP hD hS hl
          refine lv_iload hx hb dX3_playBaited_30 (lv_at hl 3 rfl) ?_
          refine lv_aload_n hx hb dX3_playBaited_32 rfl (lv_at hl 1 rfl) ?_
          refine va_getN (D := D) (ci := 4) (v := .ref (aR 13)) (C := RX4) (T := TX4) (N := 16) hx hb hw inW_X4 hown hK hP 17 rfl rfl 6 (by decide) hn75 (fun _ h9 => h9) rfl dX3_playBaited_33 ?_
          refine va_getN (D := D) (ci := 9) (v := .int (rs 14)) (C := RX9) (T := TX9) (N := 6) hx hb hw inW_X9 hown hK hP 30 rfl rfl 0 (by decide) hn79 (fun _ h9 => h9) rfl dX3_playBaited_36 ?_
          refine lv_icmp_ge (tgt := 64) hx hb dX3_playBaited_39 (by decide) (fun c5 => ?_) (fun c5 => ?_)
          · have h := h.1 c5
            exact N64 x4_ ns na nl aN _ _ _ h hP hD hS (lv_sub hl [0, 1, 2] rfl)
          · have h := h.2 c5
            refine lv_aload_n hx hb dX3_playBaited_42 rfl (lv_at hl 0 rfl) ?_
            refine lv_iload hx hb dX3_playBaited_43 (lv_at hl 3 rfl) ?_
            refine lv_aload_n hx hb dX3_playBaited_45 rfl (lv_at hl 1 rfl) ?_
            refine va_getN (D := D) (ci := 4) (v := .ref (aR 13)) (C := RX4) (T := TX4) (N := 16) hx hb hw inW_X4 hown hK hP 17 rfl rfl 6 (by decide) hn75 (fun _ h9 => h9) rfl dX3_playBaited_46 ?_
            refine va_getN (D := D) (ci := 9) (v := .ref (aR 15)) (C := RX9) (T := TX9) (N := 6) hx hb hw inW_X9 hown hK hP 30 rfl rfl 2 (by decide) hn107 (fun _ h9 => h9) rfl dX3_playBaited_49 ?_
            refine lv_iload hx hb dX3_playBaited_52 (lv_at hl 3 rfl) ?_
            refine cIald hx hb hK hP 32 0 rfl rfl x5_.toNatClampNeg rfl h.1 dX3_playBaited_54 ?_
            have h := h.2
            refine cGoV (wo := fun u => wNight n0 u.1 C u.2.1 u.2.2.1 u.2.2.2 ++ (wRail aR C rs ra)) (cRunV (As := [.int x5_, .int (ra 10 x5_.toNatClampNeg)]) (rest := []) ⟨hx, hb, hml, hown, hw⟩ hK hN hP hD [0, 1, 2] rfl rfl (k_X3_letCome l D C _ n0 aN  ns na nl x5_ (ra 10 x5_.toNatClampNeg) h) (cwV 2 hw (goodV mw_4_39 mw_4_41 mw_s52 mw_1_11 mw_4_42) rfl rfl rfl (by decide +kernel) ⟨Nat.le_of_ble_eq_true rfl, Nat.le_of_ble_eq_true rfl⟩) rfl rfl rfl hl.1 rfl (Nat.le_of_ble_eq_true rfl) dX3_playBaited_55 ⟨Nat.zero_le _, Nat.zero_le _⟩) hP hD hS hA [0, 1, 2] [3, 4, 5, 6, 7, 8] [6, 7, 8, 0, 1, 2, 3, 4, 5] rfl rfl rfl (by decide) rfl (fun _ => rfl) (fun u H locs h hP hD hS => ?_)
            obtain ⟨aN6, ns_7, na_8, nl_9⟩ := u
            have hP : va_P D vwCl (List.flatten (wNight n0 aN6 C ns_7 na_8 nl_9 ++ (wRail aR C rs ra))) H := hP
            have hD : va_D A (List.flatten (wNight n0 aN6 C ns_7 na_8 nl_9 ++ (wRail aR C rs ra))) := hD
            refine lv_iinc (v := (x5_ + 1)) (lv' := [(5, .int (x5_ + 1)), (0, .ref n0), (1, .ref (aR 0)), (4, .int x4_)]) hx hb dX3_playBaited_58 hl (k := 3) rfl rfl (by decide) rfl (fun ls hl => ?_)
            refine lv_goto (tgt := 30) hx hb dX3_playBaited_61 (by decide) ?_
            exact ih30 (x5_ + 1) ns_7 na_8 nl_9 aN6 _ _ _ h hP hD hS (lv_sub hl [1, 2, 3, 0] rfl)
      intro x4_ ns na nl aN H locs ls h hP hD hS hl
      refine lv_iload hx hb dX3_playBaited_18 (lv_at hl 2 rfl) ?_
      refine lv_aload_n hx hb dX3_playBaited_20 rfl (lv_at hl 1 rfl) ?_
      refine va_getN (D := D) (ci := 4) (v := .int (rs 1)) (C := RX4) (T := TX4) (N := 16) hx hb hw inW_X4 hown hK hP 17 rfl rfl 1 (by decide) hn154 (fun _ h9 => h9) rfl dX3_playBaited_21 ?_
      refine lv_icmp_ge (tgt := 74) hx hb dX3_playBaited_24 (by decide) (fun c10 => ?_) (fun c10 => ?_)
      · have h := h.1 c10
        rw [← hQ]
        exact cRetV (aN, ns, na, nl) hx hb hr hlocks hS hP hD h dX3_playBaited_74
      · have h := h.2 c10
        refine lv_iconst (v := 0) hx hb dX3_playBaited_27 (by decide) ?_
        refine lv_istore (lv' := [(5, .int 0), (0, .ref n0), (1, .ref (aR 0)), (4, .int x4_)]) hx hb dX3_playBaited_28 hl (by decide) rfl (fun ls hl => ?_)
        obtain ⟨n, h⟩ := h
        exact N30 x4_ n 0 ns na nl aN _ _ _ h hP hD hS (lv_sub hl [1, 2, 3, 0] rfl)
  refine lv_aload_n hx hb dX3_playBaited_0 rfl (lv_at hl 0 rfl) ?_
  refine lv_aload_n hx hb dX3_playBaited_1 rfl (lv_at hl 1 rfl) ?_
  refine lv_iload_n hx hb dX3_playBaited_2 rfl (lv_at hl 2 rfl) ?_
  refine cGoV (wo := fun u => wNight n0 aN C u.1 u.2 nl ++ (wRail aR C rs ra)) (cRunV (As := [.ref (aR 0), .int p2]) (rest := []) ⟨hx, hb, hml, hown, hw⟩ hK hN hP hD [0, 1, 2, 3, 4, 5, 6, 7, 8] rfl rfl (k_X3_lookAtBaited l D C _ n0 aN aR  ns na nl rs ra p2 h) (cwV 2 hw (goodV mw_3_220 mw_3_222 mw_s41 mw_1_11 mw_3_223) rfl rfl rfl (by decide +kernel) ⟨Nat.le_of_ble_eq_true rfl, Nat.le_of_ble_eq_true rfl⟩) rfl rfl rfl hl.1 rfl (Nat.le_of_ble_eq_true rfl) dX3_playBaited_3 ⟨Nat.zero_le _, Nat.zero_le _⟩) hP hD hS hA [0, 1, 2, 3, 4, 5, 6, 7, 8] [] [0, 1, 2, 3, 4, 5, 6, 7, 8] rfl rfl rfl (by decide) rfl (fun _ => rfl) (fun u H locs h hP hD hS => ?_)
  obtain ⟨ns_11, na_12⟩ := u
  have hP : va_P D vwCl (List.flatten (wNight n0 aN C ns_11 na_12 nl ++ (wRail aR C rs ra))) H := hP
  have hD : va_D A (List.flatten (wNight n0 aN C ns_11 na_12 nl ++ (wRail aR C rs ra))) := hD
  refine lv_aload_n hx hb dX3_playBaited_6 rfl (lv_at hl 0 rfl) ?_
  refine lv_iload_n hx hb dX3_playBaited_7 rfl (lv_at hl 3 rfl) ?_
  refine va_put (D := D) (ci := 3) (v := .int p3) (ty := .int) (C := RX3) (T := TX3) (N := 10) hx hb hw inW_X3 tyX3 tyX3_ok nmX3 hown hK hP hD hS 0 rfl rfl 9 (by decide) (hw _ mw_2_119) (fun _ h9 => h9) rfl (by decide +kernel) rfl rfl (Nat.le_of_ble_eq_true rfl) dX3_playBaited_8 (fun H locs hP hD hS => ?_)
  refine lv_aload_n hx hb dX3_playBaited_11 rfl (lv_at hl 0 rfl) ?_
  have hP : va_P D vwCl (List.flatten (wNight n0 aN C (va_up ns_11 1 p3) na_12 nl ++ (wRail aR C rs ra))) H := hP
  have hD : va_D A (List.flatten (wNight n0 aN C (va_up ns_11 1 p3) na_12 nl ++ (wRail aR C rs ra))) := hD
  refine cGoV (wo := fun u => wNight n0 aN C u.1 u.2.1 u.2.2 ++ (wRail aR C rs ra)) (cRunV (As := []) (rest := []) ⟨hx, hb, hml, hown, hw⟩ hK hN hP hD [0, 1, 2] rfl rfl (k_X3_begin l D C _ n0 aN  (va_up ns_11 1 p3) na_12 nl  h) (cwV 0 hw (goodV mw_4_25 mw_4_27 mw_s49 mw_1_11 mw_4_28) rfl rfl rfl (by decide +kernel) ⟨Nat.le_of_ble_eq_true rfl, Nat.le_of_ble_eq_true rfl⟩) rfl rfl rfl hl.1 rfl (Nat.le_of_ble_eq_true rfl) dX3_playBaited_12 ⟨Nat.zero_le _, Nat.zero_le _⟩) hP hD hS hA [0, 1, 2] [3, 4, 5, 6, 7, 8] [6, 7, 8, 0, 1, 2, 3, 4, 5] rfl rfl rfl (by decide) rfl (fun _ => rfl) (fun u H locs h hP hD hS => ?_)
  obtain ⟨ns_13, na_14, nl_15⟩ := u
  have hP : va_P D vwCl (List.flatten (wNight n0 aN C ns_13 na_14 nl_15 ++ (wRail aR C rs ra))) H := hP
  have hD : va_D A (List.flatten (wNight n0 aN C ns_13 na_14 nl_15 ++ (wRail aR C rs ra))) := hD
  refine lv_iconst (v := 0) hx hb dX3_playBaited_15 (by decide) ?_
  refine lv_istore (lv' := [(4, .int 0), (0, .ref n0), (1, .ref (aR 0)), (2, .int p2), (3, .int p3)]) hx hb dX3_playBaited_16 hl (by decide) rfl (fun ls hl => ?_)
  obtain ⟨n, h⟩ := h
  exact N18  n 0 ns_13 na_14 nl_15 aN _ _ _ h hP hD hS (lv_sub hl [1, 2, 0] rfl)
abbrev vsX3_baitedLoss : List Cond := Cond.code yX3_baitedLoss cX3_baitedLoss 5 (some .long) :: WS
abbrev rmX3_baitedLoss : Room := { frames := 2, cells := 0, slots := 0, locals := 46 }
set_option maxHeartbeats 4000000 in
set_option maxRecDepth 100000 in
theorem k_X3_baitedLoss (l : Launch) (D : va_G) (C : Nat → ClassId) (sz : Nat) (n0 : Nat) (aN : Nat → Nat) (aR : Nat → Nat)  (ns : Nat → Int32) (na : Nat → Nat → Int32) (nl : Nat → Nat → Int64) (rs : Nat → Int32) (ra : Nat → Nat → Int32)  {post : Int64 → Prop} (h : P_X3_baitedLoss nl rs ra post) : Met l yX3_baitedLoss vsX3_baitedLoss rmX3_baitedLoss (cPre D C [.ref n0, .ref (aR 0)] sz (wNight n0 aN C ns na nl ++ (wRail aR C rs ra))) (cQl D (fun (r : Int64) (u : Unit) => post r ) (fun u => wNight n0 aN C ns na nl ++ (wRail aR C rs ra)) (va_A (List.flatten (wNight n0 aN C ns na nl ++ (wRail aR C rs ra))) sz)) 0 0 (va_A (List.flatten (wNight n0 aN C ns na nl ++ (wRail aR C rs ra))) sz) := by
  refine cStart (QA := fun A => cQl D (fun (r : Int64) (u : Unit) => post r ) (fun u => wNight n0 aN C ns na nl ++ (wRail aR C rs ra)) A) (cc := cX3_baitedLoss) (maxL := 5) (ret := (some .long)) (by decide) (Nat.le_of_ble_eq_true rfl) ?_
  intro p e s m args below meth c A ls hx hb hr hml hown hw hlocks hname hK hN hA hP hD hS hl
  generalize hQ : MQ below _ args s 0 0 A = Q
  have hl : lv_has ls 5 [(0, .ref n0), (1, .ref (aR 0))] := hl
  have hn45 : (Cond.fieldLinkNest "LockRail$Night" 45 "LockRail$Rail" "bikes" "LLockRail$Bikes;" "LockRail").before args s = true := hN.f 59 rfl
  have hn51 : (Cond.fieldLinkNest "LockRail$Night" 51 "LockRail$Bikes" "count" "I" "LockRail").before args s = true := hN.f 18 rfl
  have hn173 : (Cond.fieldLinkNest "LockRail$Night" 173 "LockRail$Bikes" "worth" "[I" "LockRail").before args s = true := hN.f 23 rfl
  obtain ⟨H, hH⟩ : ∃ H, H = s.heap := ⟨_, rfl⟩
  obtain ⟨locs, hlo⟩ : ∃ z : List Loc, z = [] := ⟨_, rfl⟩
  have hP : va_P D vwCl (List.flatten (wNight n0 aN C ns na nl ++ (wRail aR C rs ra))) H := by rw [hH]; exact hP
  have hS : va_S A s.heap H locs := by rw [hH, hlo]; exact hS
  rw [show W p l e rmX3_baitedLoss s m args below meth c s.heap [] 0 0 Q (F0 m 0 ls []) = W p l e rmX3_baitedLoss s m args below meth c H locs 0 0 Q (F0 m 0 ls []) from by rw [hH, hlo]]
  have N5 : ∀  (n5 : Nat) (x2_ : Int64) (x4_ : Int32) (H : Heap) (locs : List Loc) (ls : Array Slot), P_X3_baitedLoss_5 nl rs ra post   n5 x2_ x4_ → va_P D vwCl (List.flatten (wNight n0 aN C ns na nl ++ (wRail aR C rs ra))) H → va_D A (List.flatten (wNight n0 aN C ns na nl ++ (wRail aR C rs ra))) → va_S A s.heap H locs → lv_has ls 5 [(0, .ref n0), (1, .ref (aR 0)), (2, .long x2_), (4, .int x4_)] → W p l e rmX3_baitedLoss s m args below meth c H locs 0 0 Q (F0 m 5 ls []) := by
    intro n5
    induction n5 with
    | zero => intro x2_ x4_ H locs ls h hP hD hS hl; exact False.elim h
    | succ n5 ih5 =>
      intro x2_ x4_ H locs ls h hP hD hS hl
      refine lv_iload hx hb dX3_baitedLoss_5 (lv_at hl 3 rfl) ?_
      refine lv_aload_n hx hb dX3_baitedLoss_7 rfl (lv_at hl 1 rfl) ?_
      refine va_getN (D := D) (ci := 4) (v := .ref (aR 7)) (C := RX4) (T := TX4) (N := 16) hx hb hw inW_X4 hown hK hP 17 rfl rfl 5 (by decide) hn45 (fun _ h9 => h9) rfl dX3_baitedLoss_8 ?_
      refine va_getN (D := D) (ci := 0) (v := .int (rs 13)) (C := RX0) (T := TX0) (N := 6) hx hb hw inW_X0 hown hK hP 24 rfl rfl 0 (by decide) hn51 (fun _ h9 => h9) rfl dX3_baitedLoss_11 ?_
      refine lv_icmp_ge (tgt := 44) hx hb dX3_baitedLoss_14 (by decide) (fun c1 => ?_) (fun c1 => ?_)
      · have h := h.1 c1
        refine lv_lload_n hx hb dX3_baitedLoss_44 rfl (lv_at hl 2 rfl) ?_
        refine lv_ldc2 (v := 1000000000) hx hb hown (hw _ mw_4_111) dX3_baitedLoss_45 ?_
        refine lv_ldiv hx hb dX3_baitedLoss_48 (by decide) ?_
        rw [← hQ]
        exact cRetL (v := (x2_ / 1000000000)) () hx hb hr hlocks hS hP hD h dX3_baitedLoss_49
      · have h := h.2 c1
        refine lv_lload_n hx hb dX3_baitedLoss_17 rfl (lv_at hl 2 rfl) ?_
        refine lv_aload_n hx hb dX3_baitedLoss_18 rfl (lv_at hl 1 rfl) ?_
        refine va_getN (D := D) (ci := 4) (v := .ref (aR 7)) (C := RX4) (T := TX4) (N := 16) hx hb hw inW_X4 hown hK hP 17 rfl rfl 5 (by decide) hn45 (fun _ h9 => h9) rfl dX3_baitedLoss_19 ?_
        refine va_getN (D := D) (ci := 0) (v := .ref (aR 8)) (C := RX0) (T := TX0) (N := 6) hx hb hw inW_X0 hown hK hP 24 rfl rfl 1 (by decide) hn173 (fun _ h9 => h9) rfl dX3_baitedLoss_22 ?_
        refine lv_iload hx hb dX3_baitedLoss_25 (lv_at hl 3 rfl) ?_
        refine cIald hx hb hK hP 25 0 rfl rfl x4_.toNatClampNeg rfl h.1 dX3_baitedLoss_27 ?_
        have h := h.2
        refine lv_i2l hx hb dX3_baitedLoss_28 rfl ?_
        refine lv_aload_n hx hb dX3_baitedLoss_29 rfl (lv_at hl 0 rfl) ?_
        refine lv_iload hx hb dX3_baitedLoss_30 (lv_at hl 3 rfl) ?_
        refine cGoL (wo := fun u => wNight n0 aN C ns na nl ++ (wRail aR C rs ra)) (cRunV (As := [.int x4_]) (rest := [.long ((ra 4 x4_.toNatClampNeg).toInt64), .long x2_]) ⟨hx, hb, hml, hown, hw⟩ hK hN hP hD [0, 1, 2] rfl rfl (k_X3_riskOf l D C _ n0 aN  ns na nl x4_ h) (cwV 1 hw (goodV mw_4_110 mw_4_83 mw_s57 mw_1_11 mw_4_84) rfl rfl rfl (by decide +kernel) ⟨Nat.le_of_ble_eq_true rfl, Nat.le_of_ble_eq_true rfl⟩) rfl rfl rfl hl.1 rfl (Nat.le_of_ble_eq_true rfl) dX3_baitedLoss_32 ⟨Nat.zero_le _, Nat.zero_le _⟩) hP hD hS hA [0, 1, 2] [3, 4, 5, 6, 7, 8] [6, 7, 8, 0, 1, 2, 3, 4, 5] rfl rfl rfl (by decide) rfl (fun _ => rfl) (fun r2 u H locs h hP hD hS => ?_)
        have hP : va_P D vwCl (List.flatten (wNight n0 aN C ns na nl ++ (wRail aR C rs ra))) H := hP
        have hD : va_D A (List.flatten (wNight n0 aN C ns na nl ++ (wRail aR C rs ra))) := hD
        refine lv_lmul hx hb dX3_baitedLoss_35 ?_
        refine lv_ladd hx hb dX3_baitedLoss_36 ?_
        refine lv_topl (fun x3 ex3 => ?_)
        have h := h x3 ex3
        refine lv_lstore_n (lv' := [(2, .long x3), (0, .ref n0), (1, .ref (aR 0)), (4, .int x4_)]) hx hb dX3_baitedLoss_37 rfl hl (by decide) rfl (fun ls hl => ?_)
        refine lv_iinc (v := (x4_ + 1)) (lv' := [(4, .int (x4_ + 1)), (2, .long x3), (0, .ref n0), (1, .ref (aR 0))]) hx hb dX3_baitedLoss_38 hl (k := 3) rfl rfl (by decide) rfl (fun ls hl => ?_)
        refine lv_goto (tgt := 5) hx hb dX3_baitedLoss_41 (by decide) ?_
        exact ih5 x3 (x4_ + 1) _ _ _ h hP hD hS (lv_sub hl [2, 3, 1, 0] rfl)
  refine lv_lconst (v := 0) hx hb dX3_baitedLoss_0 (by decide) ?_
  refine lv_lstore_n (lv' := [(2, .long 0), (0, .ref n0), (1, .ref (aR 0))]) hx hb dX3_baitedLoss_1 rfl hl (by decide) rfl (fun ls hl => ?_)
  refine lv_iconst (v := 0) hx hb dX3_baitedLoss_2 (by decide) ?_
  refine lv_istore (lv' := [(4, .int 0), (2, .long 0), (0, .ref n0), (1, .ref (aR 0))]) hx hb dX3_baitedLoss_3 hl (by decide) rfl (fun ls hl => ?_)
  obtain ⟨n, h⟩ := h
  exact N5  n 0 0 _ _ _ h hP hD hS (lv_sub hl [2, 3, 1, 0] rfl)
abbrev vsX3_partsCaught : List Cond := Cond.code yX3_partsCaught cX3_partsCaught 5 (some .long) :: WS
abbrev rmX3_partsCaught : Room := { frames := 2, cells := 0, slots := 0, locals := 41 }
set_option maxHeartbeats 4000000 in
set_option maxRecDepth 100000 in
theorem k_X3_partsCaught (l : Launch) (D : va_G) (C : Nat → ClassId) (sz : Nat) (n0 : Nat) (aN : Nat → Nat)  (ns : Nat → Int32) (na : Nat → Nat → Int32) (nl : Nat → Nat → Int64) (p1 : Int32) {post : Int64 → Prop} (h : P_X3_partsCaught ns na nl p1 post) : Met l yX3_partsCaught vsX3_partsCaught rmX3_partsCaught (cPre D C [.ref n0, .int p1] sz (wNight n0 aN C ns na nl)) (cQl D (fun (r : Int64) (u : Unit) => post r ) (fun u => wNight n0 aN C ns na nl) (va_A (List.flatten (wNight n0 aN C ns na nl)) sz)) 0 0 (va_A (List.flatten (wNight n0 aN C ns na nl)) sz) := by
  refine cStart (QA := fun A => cQl D (fun (r : Int64) (u : Unit) => post r ) (fun u => wNight n0 aN C ns na nl) A) (cc := cX3_partsCaught) (maxL := 5) (ret := (some .long)) (by decide) (Nat.le_of_ble_eq_true rfl) ?_
  intro p e s m args below meth c A ls hx hb hr hml hown hw hlocks hname hK hN hA hP hD hS hl
  generalize hQ : MQ below _ args s 0 0 A = Q
  have hl : lv_has ls 5 [(0, .ref n0), (1, .int p1)] := hl
  have hn123 : (Cond.fieldLinkNest "LockRail$Night" 123 "LockRail$Spread" "size" "I" "LockRail").before args s = true := hN.f 75 rfl
  have hn126 : (Cond.fieldLinkNest "LockRail$Night" 126 "LockRail$Spread" "states" "[I" "LockRail").before args s = true := hN.f 76 rfl
  have hn129 : (Cond.fieldLinkNest "LockRail$Night" 129 "LockRail$Spread" "parts" "[J" "LockRail").before args s = true := hN.f 77 rfl
  obtain ⟨H, hH⟩ : ∃ H, H = s.heap := ⟨_, rfl⟩
  obtain ⟨locs, hlo⟩ : ∃ z : List Loc, z = [] := ⟨_, rfl⟩
  have hP : va_P D vwCl (List.flatten (wNight n0 aN C ns na nl)) H := by rw [hH]; exact hP
  have hS : va_S A s.heap H locs := by rw [hH, hlo]; exact hS
  rw [show W p l e rmX3_partsCaught s m args below meth c s.heap [] 0 0 Q (F0 m 0 ls []) = W p l e rmX3_partsCaught s m args below meth c H locs 0 0 Q (F0 m 0 ls []) from by rw [hH, hlo]]
  have N5 : ∀  (n5 : Nat) (x2_ : Int64) (x4_ : Int32) (H : Heap) (locs : List Loc) (ls : Array Slot), P_X3_partsCaught_5 ns na nl p1 post   n5 x2_ x4_ → va_P D vwCl (List.flatten (wNight n0 aN C ns na nl)) H → va_D A (List.flatten (wNight n0 aN C ns na nl)) → va_S A s.heap H locs → lv_has ls 5 [(0, .ref n0), (1, .int p1), (2, .long x2_), (4, .int x4_)] → W p l e rmX3_partsCaught s m args below meth c H locs 0 0 Q (F0 m 5 ls []) := by
    intro n5
    induction n5 with
    | zero => intro x2_ x4_ H locs ls h hP hD hS hl; exact False.elim h
    | succ n5 ih5 =>
      intro x2_ x4_ H locs ls h hP hD hS hl
      refine lv_iload hx hb dX3_partsCaught_5 (lv_at hl 3 rfl) ?_
      refine lv_aload_n hx hb dX3_partsCaught_7 rfl (lv_at hl 0 rfl) ?_
      refine va_get (D := D) (ci := 3) (v := .ref (aN 7)) (C := RX3) (T := TX3) (N := 10) hx hb hw inW_X3 hown hK hP 0 rfl rfl 6 (by decide) (hw _ mw_2_116) (fun _ h9 => h9) rfl dX3_partsCaught_8 ?_
      refine va_getN (D := D) (ci := 7) (v := .int (ns 2)) (C := RX7) (T := TX7) (N := 5) hx hb hw inW_X7 hown hK hP 7 rfl rfl 0 (by decide) hn123 (fun _ h9 => h9) rfl dX3_partsCaught_11 ?_
      refine lv_icmp_ge (tgt := 53) hx hb dX3_partsCaught_14 (by decide) (fun c1 => ?_) (fun c1 => ?_)
      · have h := h.1 c1
        refine lv_lload_n hx hb dX3_partsCaught_53 rfl (lv_at hl 2 rfl) ?_
        rw [← hQ]
        exact cRetL (v := x2_) () hx hb hr hlocks hS hP hD h dX3_partsCaught_54
      · have h := h.2 c1
        refine lv_aload_n hx hb dX3_partsCaught_17 rfl (lv_at hl 0 rfl) ?_
        refine va_get (D := D) (ci := 3) (v := .ref (aN 7)) (C := RX3) (T := TX3) (N := 10) hx hb hw inW_X3 hown hK hP 0 rfl rfl 6 (by decide) (hw _ mw_2_116) (fun _ h9 => h9) rfl dX3_partsCaught_18 ?_
        refine va_getN (D := D) (ci := 7) (v := .ref (aN 8)) (C := RX7) (T := TX7) (N := 5) hx hb hw inW_X7 hown hK hP 7 rfl rfl 1 (by decide) hn126 (fun _ h9 => h9) rfl dX3_partsCaught_21 ?_
        refine lv_iload hx hb dX3_partsCaught_24 (lv_at hl 3 rfl) ?_
        refine cIald hx hb hK hP 8 0 rfl rfl x4_.toNatClampNeg rfl h.1 dX3_partsCaught_26 ?_
        have h := h.2
        refine lv_iload_n hx hb dX3_partsCaught_27 rfl (lv_at hl 1 rfl) ?_
        refine cGoI (wo := fun u => wNight n0 aN C ns na nl) (cRunS (As := [.int (na 5 x4_.toNatClampNeg), .int p1]) (rest := []) ⟨hx, hb, hml, hown, hw⟩ hK hN hP hD [] rfl rfl (k_X3_isCaught l D C _    (na 5 x4_.toNatClampNeg) p1 h) (va_cwS 2 hw (goodS mw_4_43 mw_4_44 mw_1_11 mw_4_45) rfl rfl rfl (by decide +kernel) ⟨Nat.le_of_ble_eq_true rfl, Nat.le_of_ble_eq_true rfl⟩) rfl hl.1 rfl (Nat.le_of_ble_eq_true rfl) dX3_partsCaught_28 ⟨Nat.zero_le _, Nat.zero_le _⟩) hP hD hS hA [] [0, 1, 2] [0, 1, 2] rfl rfl rfl (by decide) rfl (fun _ => rfl) (fun r2 u H locs h hP hD hS => ?_)
        have hP : va_P D vwCl (List.flatten (wNight n0 aN C ns na nl)) H := hP
        have hD : va_D A (List.flatten (wNight n0 aN C ns na nl)) := hD
        refine lv_if_eq (tgt := 47) hx hb dX3_partsCaught_31 (by decide) (fun c3 => ?_) (fun c3 => ?_)
        · have h := h.1 c3
          refine lv_iinc (v := (x4_ + 1)) (lv' := [(4, .int (x4_ + 1)), (0, .ref n0), (1, .int p1), (2, .long x2_)]) hx hb dX3_partsCaught_47 hl (k := 3) rfl rfl (by decide) rfl (fun ls hl => ?_)
          refine lv_goto (tgt := 5) hx hb dX3_partsCaught_50 (by decide) ?_
          exact ih5 x2_ (x4_ + 1) _ _ _ h hP hD hS (lv_sub hl [1, 2, 3, 0] rfl)
        · have h := h.2 c3
          refine lv_lload_n hx hb dX3_partsCaught_34 rfl (lv_at hl 2 rfl) ?_
          refine lv_aload_n hx hb dX3_partsCaught_35 rfl (lv_at hl 0 rfl) ?_
          refine va_get (D := D) (ci := 3) (v := .ref (aN 7)) (C := RX3) (T := TX3) (N := 10) hx hb hw inW_X3 hown hK hP 0 rfl rfl 6 (by decide) (hw _ mw_2_116) (fun _ h9 => h9) rfl dX3_partsCaught_36 ?_
          refine va_getN (D := D) (ci := 7) (v := .ref (aN 9)) (C := RX7) (T := TX7) (N := 5) hx hb hw inW_X7 hown hK hP 7 rfl rfl 2 (by decide) hn129 (fun _ h9 => h9) rfl dX3_partsCaught_39 ?_
          refine lv_iload hx hb dX3_partsCaught_42 (lv_at hl 3 rfl) ?_
          refine cLald hx hb hK hP 9 1 rfl rfl x4_.toNatClampNeg rfl h.1 dX3_partsCaught_44 ?_
          have h := h.2
          refine lv_ladd hx hb dX3_partsCaught_45 ?_
          refine lv_topl (fun x4 ex4 => ?_)
          have h := h x4 ex4
          refine lv_lstore_n (lv' := [(2, .long x4), (0, .ref n0), (1, .int p1), (4, .int x4_)]) hx hb dX3_partsCaught_46 rfl hl (by decide) rfl (fun ls hl => ?_)
          refine lv_iinc (v := (x4_ + 1)) (lv' := [(4, .int (x4_ + 1)), (2, .long x4), (0, .ref n0), (1, .int p1)]) hx hb dX3_partsCaught_47 hl (k := 3) rfl rfl (by decide) rfl (fun ls hl => ?_)
          refine lv_goto (tgt := 5) hx hb dX3_partsCaught_50 (by decide) ?_
          exact ih5 x4 (x4_ + 1) _ _ _ h hP hD hS (lv_sub hl [2, 3, 1, 0] rfl)
  refine lv_lconst (v := 0) hx hb dX3_partsCaught_0 (by decide) ?_
  refine lv_lstore_n (lv' := [(2, .long 0), (0, .ref n0), (1, .int p1)]) hx hb dX3_partsCaught_1 rfl hl (by decide) rfl (fun ls hl => ?_)
  refine lv_iconst (v := 0) hx hb dX3_partsCaught_2 (by decide) ?_
  refine lv_istore (lv' := [(4, .int 0), (2, .long 0), (0, .ref n0), (1, .int p1)]) hx hb dX3_partsCaught_3 hl (by decide) rfl (fun ls hl => ?_)
  obtain ⟨n, h⟩ := h
  exact N5  n 0 0 _ _ _ h hP hD hS (lv_sub hl [2, 3, 1, 0] rfl)
abbrev vsX3_leastLure : List Cond := Cond.code yX3_leastLure cX3_leastLure 5 (some .int) :: WS
abbrev rmX3_leastLure : Room := { frames := 2, cells := 0, slots := 0, locals := 48 }
set_option maxHeartbeats 4000000 in
set_option maxRecDepth 100000 in
theorem k_X3_leastLure (l : Launch) (D : va_G) (C : Nat → ClassId) (sz : Nat) (n0 : Nat) (aN : Nat → Nat) (aR : Nat → Nat)  (ns : Nat → Int32) (na : Nat → Nat → Int32) (nl : Nat → Nat → Int64) (rs : Nat → Int32) (ra : Nat → Nat → Int32) (p2 : Int32) {post : Int32 → Prop} (h : P_X3_leastLure na ra p2 post) : Met l yX3_leastLure vsX3_leastLure rmX3_leastLure (cPre D C [.ref n0, .ref (aR 0), .int p2] sz (wNight n0 aN C ns na nl ++ (wRail aR C rs ra))) (cQi D (fun (r : Int32) (u : Unit) => post r ) (fun u => wNight n0 aN C ns na nl ++ (wRail aR C rs ra)) (va_A (List.flatten (wNight n0 aN C ns na nl ++ (wRail aR C rs ra))) sz)) 0 0 (va_A (List.flatten (wNight n0 aN C ns na nl ++ (wRail aR C rs ra))) sz) := by
  refine cStart (QA := fun A => cQi D (fun (r : Int32) (u : Unit) => post r ) (fun u => wNight n0 aN C ns na nl ++ (wRail aR C rs ra)) A) (cc := cX3_leastLure) (maxL := 5) (ret := (some .int)) (by decide) (Nat.le_of_ble_eq_true rfl) ?_
  intro p e s m args below meth c A ls hx hb hr hml hown hw hlocks hname hK hN hA hP hD hS hl
  generalize hQ : MQ below _ args s 0 0 A = Q
  have hl : lv_has ls 5 [(0, .ref n0), (1, .ref (aR 0)), (2, .int p2)] := hl
  have hn75 : (Cond.fieldLinkNest "LockRail$Night" 75 "LockRail$Rail" "thieves" "LLockRail$Thieves;" "LockRail").before args s = true := hN.f 62 rfl
  have hn86 : (Cond.fieldLinkNest "LockRail$Night" 86 "LockRail$Thieves" "kind" "[I" "LockRail").before args s = true := hN.f 39 rfl
  obtain ⟨H, hH⟩ : ∃ H, H = s.heap := ⟨_, rfl⟩
  obtain ⟨locs, hlo⟩ : ∃ z : List Loc, z = [] := ⟨_, rfl⟩
  have hP : va_P D vwCl (List.flatten (wNight n0 aN C ns na nl ++ (wRail aR C rs ra))) H := by rw [hH]; exact hP
  have hS : va_S A s.heap H locs := by rw [hH, hlo]; exact hS
  rw [show W p l e rmX3_leastLure s m args below meth c s.heap [] 0 0 Q (F0 m 0 ls []) = W p l e rmX3_leastLure s m args below meth c H locs 0 0 Q (F0 m 0 ls []) from by rw [hH, hlo]]
  refine lv_aload_n hx hb dX3_leastLure_0 rfl (lv_at hl 0 rfl) ?_
  refine lv_iload_n hx hb dX3_leastLure_1 rfl (lv_at hl 2 rfl) ?_
  refine lv_iconst (v := 0) hx hb dX3_leastLure_2 (by decide) ?_
  refine cGoI (wo := fun u => wNight n0 aN C ns na nl ++ (wRail aR C rs ra)) (cRunV (As := [.int p2, .int 0]) (rest := []) ⟨hx, hb, hml, hown, hw⟩ hK hN hP hD [0, 1, 2] rfl rfl (k_X3_pick l D C _ n0 aN  ns na nl p2 0 h) (cwV 2 hw (goodV mw_4_49 mw_3_238 mw_s44 mw_1_11 mw_3_239) rfl rfl rfl (by decide +kernel) ⟨Nat.le_of_ble_eq_true rfl, Nat.le_of_ble_eq_true rfl⟩) rfl rfl rfl hl.1 rfl (Nat.le_of_ble_eq_true rfl) dX3_leastLure_3 ⟨Nat.zero_le _, Nat.zero_le _⟩) hP hD hS hA [0, 1, 2] [3, 4, 5, 6, 7, 8] [6, 7, 8, 0, 1, 2, 3, 4, 5] rfl rfl rfl (by decide) rfl (fun _ => rfl) (fun r1 u H locs h hP hD hS => ?_)
  have hP : va_P D vwCl (List.flatten (wNight n0 aN C ns na nl ++ (wRail aR C rs ra))) H := hP
  have hD : va_D A (List.flatten (wNight n0 aN C ns na nl ++ (wRail aR C rs ra))) := hD
  refine lv_istore_n (lv' := [(3, .int r1), (0, .ref n0), (1, .ref (aR 0)), (2, .int p2)]) hx hb dX3_leastLure_6 rfl hl (by decide) rfl (fun ls hl => ?_)
  refine lv_aload_n hx hb dX3_leastLure_7 rfl (lv_at hl 2 rfl) ?_
  refine va_getN (D := D) (ci := 4) (v := .ref (aR 13)) (C := RX4) (T := TX4) (N := 16) hx hb hw inW_X4 hown hK hP 17 rfl rfl 6 (by decide) hn75 (fun _ h9 => h9) rfl dX3_leastLure_8 ?_
  refine va_getN (D := D) (ci := 9) (v := .ref (aR 17)) (C := RX9) (T := TX9) (N := 6) hx hb hw inW_X9 hown hK hP 30 rfl rfl 4 (by decide) hn86 (fun _ h9 => h9) rfl dX3_leastLure_11 ?_
  refine lv_iload_n hx hb dX3_leastLure_14 rfl (lv_at hl 3 rfl) ?_
  refine cIald hx hb hK hP 34 0 rfl rfl p2.toNatClampNeg rfl h.1 dX3_leastLure_15 ?_
  have h := h.2
  refine lv_topi (fun x2 ex2 => ?_)
  have h := h x2 ex2
  refine lv_istore (lv' := [(4, .int x2), (3, .int r1), (0, .ref n0), (1, .ref (aR 0)), (2, .int p2)]) hx hb dX3_leastLure_16 hl (by decide) rfl (fun ls hl => ?_)
  refine lv_iload hx hb dX3_leastLure_18 (lv_at hl 0 rfl) ?_
  refine lv_iconst (v := 2) hx hb dX3_leastLure_20 (by decide) ?_
  refine lv_icmp_ne (tgt := 28) hx hb dX3_leastLure_21 (by decide) (fun c3 => ?_) (fun c3 => ?_)
  · have h := h.1 c3
    refine lv_iload_n hx hb dX3_leastLure_28 rfl (lv_at hl 1 rfl) ?_
    refine lv_iconst (v := (-1)) hx hb dX3_leastLure_29 (by decide) ?_
    refine lv_icmp_ne (tgt := 35) hx hb dX3_leastLure_30 (by decide) (fun c4 => ?_) (fun c4 => ?_)
    · have h := h.1 c4
      refine lv_iload hx hb dX3_leastLure_35 (lv_at hl 0 rfl) ?_
      refine lv_if_ne (tgt := 50) hx hb dX3_leastLure_37 (by decide) (fun c5 => ?_) (fun c5 => ?_)
      · have h := h.1 c5
        refine lv_aload_n hx hb dX3_leastLure_50 rfl (lv_at hl 3 rfl) ?_
        refine lv_iload_n hx hb dX3_leastLure_51 rfl (lv_at hl 4 rfl) ?_
        refine lv_iload_n hx hb dX3_leastLure_52 rfl (lv_at hl 1 rfl) ?_
        refine lv_aload_n hx hb dX3_leastLure_53 rfl (lv_at hl 2 rfl) ?_
        refine va_get (D := D) (ci := 3) (v := .ref (aN 1)) (C := RX3) (T := TX3) (N := 10) hx hb hw inW_X3 hown hK hP 0 rfl rfl 0 (by decide) (hw _ mw_2_110) (fun _ h9 => h9) rfl dX3_leastLure_54 ?_
        refine lv_iload_n hx hb dX3_leastLure_57 rfl (lv_at hl 1 rfl) ?_
        refine cIald hx hb hK hP 1 0 rfl rfl r1.toNatClampNeg rfl h.1 dX3_leastLure_58 ?_
        have h := h.2
        refine cGoI (wo := fun u => wNight n0 aN C ns na nl ++ (wRail aR C rs ra)) (cRunVN (As := [.int p2, .int r1, .int (na 0 r1.toNatClampNeg)]) (rest := []) ⟨hx, hb, hml, hown, hw⟩ hK hN hP hD [3, 4, 5, 6, 7, 8] rfl rfl (k_X4_troubleOf l D C _ aR  rs ra p2 r1 (na 0 r1.toNatClampNeg) h) ⟨va_cnB 3 hw (goodN mw_3_195) rfl rfl rfl (hN.m 41 rfl) (hw _ mw_1_4) (by decide +kernel) ⟨Nat.le_of_ble_eq_true rfl, Nat.le_of_ble_eq_true rfl⟩, hw _ mw_3_194, hw _ mw_s36⟩ rfl rfl rfl hl.1 rfl (Nat.le_of_ble_eq_true rfl) dX3_leastLure_59 ⟨Nat.zero_le _, Nat.zero_le _⟩) hP hD hS hA [3, 4, 5, 6, 7, 8] [0, 1, 2] [0, 1, 2, 3, 4, 5, 6, 7, 8] rfl rfl rfl (by decide) rfl (fun _ => rfl) (fun r6 u H locs h hP hD hS => ?_)
        have hP : va_P D vwCl (List.flatten (wNight n0 aN C ns na nl ++ (wRail aR C rs ra))) H := hP
        have hD : va_D A (List.flatten (wNight n0 aN C ns na nl ++ (wRail aR C rs ra))) := hD
        refine lv_if_ne (tgt := 71) hx hb dX3_leastLure_62 (by decide) (fun c7 => ?_) (fun c7 => ?_)
        · have h := h.1 c7
          refine lv_iconst (v := 1) hx hb dX3_leastLure_71 (by decide) ?_
          rw [← hQ]
          exact cRetI (v := 1) () hx hb hr hlocks hS hP hD h dX3_leastLure_72
        · have h := h.2 c7
          refine lv_sipush (v := 10000) hx hb dX3_leastLure_65 (by decide) ?_
          refine lv_goto (tgt := 72) hx hb dX3_leastLure_68 (by decide) ?_
          rw [← hQ]
          exact cRetI (v := 10000) () hx hb hr hlocks hS hP hD h dX3_leastLure_72
      · have h := h.2 c5
        refine lv_aload_n hx hb dX3_leastLure_40 rfl (lv_at hl 2 rfl) ?_
        refine lv_aload_n hx hb dX3_leastLure_41 rfl (lv_at hl 3 rfl) ?_
        refine lv_iload_n hx hb dX3_leastLure_42 rfl (lv_at hl 4 rfl) ?_
        refine lv_iload_n hx hb dX3_leastLure_43 rfl (lv_at hl 1 rfl) ?_
        refine cGoI (wo := fun u => wNight n0 aN C ns na nl ++ (wRail aR C rs ra)) (cRunV (As := [.ref (aR 0), .int p2, .int r1]) (rest := []) ⟨hx, hb, hml, hown, hw⟩ hK hN hP hD [0, 1, 2, 3, 4, 5, 6, 7, 8] rfl rfl (k_X3_netOf l D C _ n0 aN aR  ns na nl rs ra p2 r1 h) (cwV 3 hw (goodV mw_4_8 mw_4_10 mw_s46 mw_1_11 mw_4_11) rfl rfl rfl (by decide +kernel) ⟨Nat.le_of_ble_eq_true rfl, Nat.le_of_ble_eq_true rfl⟩) rfl rfl rfl hl.1 rfl (Nat.le_of_ble_eq_true rfl) dX3_leastLure_44 ⟨Nat.zero_le _, Nat.zero_le _⟩) hP hD hS hA [0, 1, 2, 3, 4, 5, 6, 7, 8] [] [0, 1, 2, 3, 4, 5, 6, 7, 8] rfl rfl rfl (by decide) rfl (fun _ => rfl) (fun r8 u H locs h hP hD hS => ?_)
        have hP : va_P D vwCl (List.flatten (wNight n0 aN C ns na nl ++ (wRail aR C rs ra))) H := hP
        have hD : va_D A (List.flatten (wNight n0 aN C ns na nl ++ (wRail aR C rs ra))) := hD
        refine lv_iconst (v := 1) hx hb dX3_leastLure_47 (by decide) ?_
        refine lv_iadd hx hb dX3_leastLure_48 ?_
        rw [← hQ]
        exact cRetI (v := (r8 + 1)) () hx hb hr hlocks hS hP hD h dX3_leastLure_49
    · have h := h.2 c4
      refine lv_iconst (v := 1) hx hb dX3_leastLure_33 (by decide) ?_
      rw [← hQ]
      exact cRetI (v := 1) () hx hb hr hlocks hS hP hD h dX3_leastLure_34
  · have h := h.2 c3
    refine lv_sipush (v := 10000) hx hb dX3_leastLure_24 (by decide) ?_
    rw [← hQ]
    exact cRetI (v := 10000) () hx hb hr hlocks hS hP hD h dX3_leastLure_27
