abbrev vsX3_netOf : List Cond := Cond.code yX3_netOf cX3_netOf 4 (some .int) :: WS
abbrev rmX3_netOf : Room := { frames := 1, cells := 0, slots := 0, locals := 25 }
set_option maxHeartbeats 4000000 in
set_option maxRecDepth 100000 in
theorem k_X3_netOf (l : Launch) (D : va_G) (C : Nat → ClassId) (sz : Nat) (n0 : Nat) (aN : Nat → Nat) (aR : Nat → Nat)  (ns : Nat → Int32) (na : Nat → Nat → Int32) (nl : Nat → Nat → Int64) (rs : Nat → Int32) (ra : Nat → Nat → Int32) (p2 : Int32) (p3 : Int32) {post : Int32 → Prop} (h : P_X3_netOf na ra p2 p3 post) : Met l yX3_netOf vsX3_netOf rmX3_netOf (cPre D C [.ref n0, .ref (aR 0), .int p2, .int p3] sz (wNight n0 aN C ns na nl ++ (wRail aR C rs ra))) (cQi D (fun (r : Int32) (u : Unit) => post r ) (fun u => wNight n0 aN C ns na nl ++ (wRail aR C rs ra)) (va_A (List.flatten (wNight n0 aN C ns na nl ++ (wRail aR C rs ra))) sz)) 0 0 (va_A (List.flatten (wNight n0 aN C ns na nl ++ (wRail aR C rs ra))) sz) := by
  refine cStart (QA := fun A => cQi D (fun (r : Int32) (u : Unit) => post r ) (fun u => wNight n0 aN C ns na nl ++ (wRail aR C rs ra)) A) (cc := cX3_netOf) (maxL := 4) (ret := (some .int)) (by decide) (Nat.le_of_ble_eq_true rfl) ?_
  intro p e s m args below meth c A ls hx hb hr hml hown hw hlocks hname hK hN hA hP hD hS hl
  generalize hQ : MQ below _ args s 0 0 A = Q
  have hl : lv_has ls 4 [(0, .ref n0), (1, .ref (aR 0)), (2, .int p2), (3, .int p3)] := hl
  obtain ⟨H, hH⟩ : ∃ H, H = s.heap := ⟨_, rfl⟩
  obtain ⟨locs, hlo⟩ : ∃ z : List Loc, z = [] := ⟨_, rfl⟩
  have hP : va_P D vwCl (List.flatten (wNight n0 aN C ns na nl ++ (wRail aR C rs ra))) H := by rw [hH]; exact hP
  have hS : va_S A s.heap H locs := by rw [hH, hlo]; exact hS
  rw [show W p l e rmX3_netOf s m args below meth c s.heap [] 0 0 Q (F0 m 0 ls []) = W p l e rmX3_netOf s m args below meth c H locs 0 0 Q (F0 m 0 ls []) from by rw [hH, hlo]]
  refine lv_aload_n hx hb dX3_netOf_0 rfl (lv_at hl 0 rfl) ?_
  refine va_get (D := D) (ci := 3) (v := .ref (aN 2)) (C := RX3) (T := TX3) (N := 10) hx hb hw inW_X3 hown hK hP 0 rfl rfl 1 (by decide) (hw _ mw_2_111) (fun _ h9 => h9) rfl dX3_netOf_1 ?_
  refine lv_iload_n hx hb dX3_netOf_4 rfl (lv_at hl 3 rfl) ?_
  refine cIald hx hb hK hP 2 0 rfl rfl p3.toNatClampNeg rfl h.1 dX3_netOf_5 ?_
  have h := h.2
  refine lv_aload_n hx hb dX3_netOf_6 rfl (lv_at hl 1 rfl) ?_
  refine lv_iload_n hx hb dX3_netOf_7 rfl (lv_at hl 2 rfl) ?_
  refine lv_iload_n hx hb dX3_netOf_8 rfl (lv_at hl 3 rfl) ?_
  refine lv_aload_n hx hb dX3_netOf_9 rfl (lv_at hl 0 rfl) ?_
  refine va_get (D := D) (ci := 3) (v := .ref (aN 1)) (C := RX3) (T := TX3) (N := 10) hx hb hw inW_X3 hown hK hP 0 rfl rfl 0 (by decide) (hw _ mw_2_110) (fun _ h9 => h9) rfl dX3_netOf_10 ?_
  refine lv_iload_n hx hb dX3_netOf_13 rfl (lv_at hl 3 rfl) ?_
  refine cIald hx hb hK hP 1 0 rfl rfl p3.toNatClampNeg rfl h.1 dX3_netOf_14 ?_
  have h := h.2
  refine cGoI (wo := fun u => wNight n0 aN C ns na nl ++ (wRail aR C rs ra)) (cRunVN (As := [.int p2, .int p3, .int (na 0 p3.toNatClampNeg)]) (rest := [.int (na 1 p3.toNatClampNeg)]) ⟨hx, hb, hml, hown, hw⟩ hK hN hP hD [3, 4, 5, 6, 7, 8] rfl rfl (k_X4_troubleOf l D C _ aR  rs ra p2 p3 (na 0 p3.toNatClampNeg) h) ⟨va_cnB 3 hw (goodN mw_3_195) rfl rfl rfl (hN.m 41 rfl) (hw _ mw_1_4) (by decide +kernel) ⟨Nat.le_of_ble_eq_true rfl, Nat.le_of_ble_eq_true rfl⟩, hw _ mw_3_194, hw _ mw_s36⟩ rfl rfl rfl hl.1 rfl (Nat.le_of_ble_eq_true rfl) dX3_netOf_15 ⟨Nat.zero_le _, Nat.zero_le _⟩) hP hD hS hA [3, 4, 5, 6, 7, 8] [0, 1, 2] [0, 1, 2, 3, 4, 5, 6, 7, 8] rfl rfl rfl (by decide) rfl (fun _ => rfl) (fun r1 u H locs h hP hD hS => ?_)
  have hP : va_P D vwCl (List.flatten (wNight n0 aN C ns na nl ++ (wRail aR C rs ra))) H := hP
  have hD : va_D A (List.flatten (wNight n0 aN C ns na nl ++ (wRail aR C rs ra))) := hD
  refine lv_isub hx hb dX3_netOf_18 ?_
  rw [← hQ]
  exact cRetI (v := ((na 1 p3.toNatClampNeg) - r1)) () hx hb hr hlocks hS hP hD h dX3_netOf_19
abbrev vsX3_wantedBy : List Cond := Cond.code yX3_wantedBy cX3_wantedBy 5 (some .int) :: WS
abbrev rmX3_wantedBy : Room := { frames := 2, cells := 0, slots := 0, locals := 48 }
set_option maxHeartbeats 4000000 in
set_option maxRecDepth 100000 in
theorem k_X3_wantedBy (l : Launch) (D : va_G) (C : Nat → ClassId) (sz : Nat) (n0 : Nat) (aN : Nat → Nat) (aR : Nat → Nat)  (ns : Nat → Int32) (na : Nat → Nat → Int32) (nl : Nat → Nat → Int64) (rs : Nat → Int32) (ra : Nat → Nat → Int32) (p2 : Int32) {post : Int32 → Prop} (h : P_X3_wantedBy na rs ra p2 post) : Met l yX3_wantedBy vsX3_wantedBy rmX3_wantedBy (cPre D C [.ref n0, .ref (aR 0), .int p2] sz (wNight n0 aN C ns na nl ++ (wRail aR C rs ra))) (cQi D (fun (r : Int32) (u : Unit) => post r ) (fun u => wNight n0 aN C ns na nl ++ (wRail aR C rs ra)) (va_A (List.flatten (wNight n0 aN C ns na nl ++ (wRail aR C rs ra))) sz)) 0 0 (va_A (List.flatten (wNight n0 aN C ns na nl ++ (wRail aR C rs ra))) sz) := by
  refine cStart (QA := fun A => cQi D (fun (r : Int32) (u : Unit) => post r ) (fun u => wNight n0 aN C ns na nl ++ (wRail aR C rs ra)) A) (cc := cX3_wantedBy) (maxL := 5) (ret := (some .int)) (by decide) (Nat.le_of_ble_eq_true rfl) ?_
  intro p e s m args below meth c A ls hx hb hr hml hown hw hlocks hname hK hN hA hP hD hS hl
  generalize hQ : MQ below _ args s 0 0 A = Q
  have hl : lv_has ls 5 [(0, .ref n0), (1, .ref (aR 0)), (2, .int p2)] := hl
  have hn45 : (Cond.fieldLinkNest "LockRail$Night" 45 "LockRail$Rail" "bikes" "LLockRail$Bikes;" "LockRail").before args s = true := hN.f 59 rfl
  have hn51 : (Cond.fieldLinkNest "LockRail$Night" 51 "LockRail$Bikes" "count" "I" "LockRail").before args s = true := hN.f 18 rfl
  obtain ⟨H, hH⟩ : ∃ H, H = s.heap := ⟨_, rfl⟩
  obtain ⟨locs, hlo⟩ : ∃ z : List Loc, z = [] := ⟨_, rfl⟩
  have hP : va_P D vwCl (List.flatten (wNight n0 aN C ns na nl ++ (wRail aR C rs ra))) H := by rw [hH]; exact hP
  have hS : va_S A s.heap H locs := by rw [hH, hlo]; exact hS
  rw [show W p l e rmX3_wantedBy s m args below meth c s.heap [] 0 0 Q (F0 m 0 ls []) = W p l e rmX3_wantedBy s m args below meth c H locs 0 0 Q (F0 m 0 ls []) from by rw [hH, hlo]]
  have N5 : ∀  (n5 : Nat) (x3_ : Int32) (x4_ : Int32) (H : Heap) (locs : List Loc) (ls : Array Slot), P_X3_wantedBy_5 na rs ra p2 post   n5 x3_ x4_ → va_P D vwCl (List.flatten (wNight n0 aN C ns na nl ++ (wRail aR C rs ra))) H → va_D A (List.flatten (wNight n0 aN C ns na nl ++ (wRail aR C rs ra))) → va_S A s.heap H locs → lv_has ls 5 [(0, .ref n0), (1, .ref (aR 0)), (2, .int p2), (3, .int x3_), (4, .int x4_)] → W p l e rmX3_wantedBy s m args below meth c H locs 0 0 Q (F0 m 5 ls []) := by
    intro n5
    induction n5 with
    | zero => intro x3_ x4_ H locs ls h hP hD hS hl; exact False.elim h
    | succ n5 ih5 =>
      intro x3_ x4_ H locs ls h hP hD hS hl
      refine lv_iload hx hb dX3_wantedBy_5 (lv_at hl 4 rfl) ?_
      refine lv_aload_n hx hb dX3_wantedBy_7 rfl (lv_at hl 1 rfl) ?_
      refine va_getN (D := D) (ci := 4) (v := .ref (aR 7)) (C := RX4) (T := TX4) (N := 16) hx hb hw inW_X4 hown hK hP 17 rfl rfl 5 (by decide) hn45 (fun _ h9 => h9) rfl dX3_wantedBy_8 ?_
      refine va_getN (D := D) (ci := 0) (v := .int (rs 13)) (C := RX0) (T := TX0) (N := 6) hx hb hw inW_X0 hown hK hP 24 rfl rfl 0 (by decide) hn51 (fun _ h9 => h9) rfl dX3_wantedBy_11 ?_
      refine lv_icmp_ge (tgt := 37) hx hb dX3_wantedBy_14 (by decide) (fun c1 => ?_) (fun c1 => ?_)
      · have h := h.1 c1
        refine lv_iload_n hx hb dX3_wantedBy_37 rfl (lv_at hl 3 rfl) ?_
        rw [← hQ]
        exact cRetI (v := x3_) () hx hb hr hlocks hS hP hD h dX3_wantedBy_38
      · have h := h.2 c1
        refine lv_aload_n hx hb dX3_wantedBy_17 rfl (lv_at hl 0 rfl) ?_
        refine lv_aload_n hx hb dX3_wantedBy_18 rfl (lv_at hl 1 rfl) ?_
        refine lv_iload_n hx hb dX3_wantedBy_19 rfl (lv_at hl 2 rfl) ?_
        refine lv_iload hx hb dX3_wantedBy_20 (lv_at hl 4 rfl) ?_
        refine cGoI (wo := fun u => wNight n0 aN C ns na nl ++ (wRail aR C rs ra)) (cRunV (As := [.ref (aR 0), .int p2, .int x4_]) (rest := []) ⟨hx, hb, hml, hown, hw⟩ hK hN hP hD [0, 1, 2, 3, 4, 5, 6, 7, 8] rfl rfl (k_X3_netOf l D C _ n0 aN aR  ns na nl rs ra p2 x4_ h) (cwV 3 hw (goodV mw_4_8 mw_4_10 mw_s46 mw_1_11 mw_4_11) rfl rfl rfl (by decide +kernel) ⟨Nat.le_of_ble_eq_true rfl, Nat.le_of_ble_eq_true rfl⟩) rfl rfl rfl hl.1 rfl (Nat.le_of_ble_eq_true rfl) dX3_wantedBy_22 ⟨Nat.zero_le _, Nat.zero_le _⟩) hP hD hS hA [0, 1, 2, 3, 4, 5, 6, 7, 8] [] [0, 1, 2, 3, 4, 5, 6, 7, 8] rfl rfl rfl (by decide) rfl (fun _ => rfl) (fun r2 u H locs h hP hD hS => ?_)
        have hP : va_P D vwCl (List.flatten (wNight n0 aN C ns na nl ++ (wRail aR C rs ra))) H := hP
        have hD : va_D A (List.flatten (wNight n0 aN C ns na nl ++ (wRail aR C rs ra))) := hD
        refine lv_if_le (tgt := 31) hx hb dX3_wantedBy_25 (by decide) (fun c3 => ?_) (fun c3 => ?_)
        · have h := h.1 c3
          refine lv_iinc (v := (x4_ + 1)) (lv' := [(4, .int (x4_ + 1)), (0, .ref n0), (1, .ref (aR 0)), (2, .int p2), (3, .int x3_)]) hx hb dX3_wantedBy_31 hl (k := 4) rfl rfl (by decide) rfl (fun ls hl => ?_)
          refine lv_goto (tgt := 5) hx hb dX3_wantedBy_34 (by decide) ?_
          exact ih5 x3_ (x4_ + 1) _ _ _ h hP hD hS (lv_sub hl [1, 2, 3, 4, 0] rfl)
        · have h := h.2 c3
          refine lv_iinc (v := (x3_ + 1)) (lv' := [(3, .int (x3_ + 1)), (0, .ref n0), (1, .ref (aR 0)), (2, .int p2), (4, .int x4_)]) hx hb dX3_wantedBy_28 hl (k := 3) rfl rfl (by decide) rfl (fun ls hl => ?_)
          refine lv_iinc (v := (x4_ + 1)) (lv' := [(4, .int (x4_ + 1)), (3, .int (x3_ + 1)), (0, .ref n0), (1, .ref (aR 0)), (2, .int p2)]) hx hb dX3_wantedBy_31 hl (k := 4) rfl rfl (by decide) rfl (fun ls hl => ?_)
          refine lv_goto (tgt := 5) hx hb dX3_wantedBy_34 (by decide) ?_
          exact ih5 (x3_ + 1) (x4_ + 1) _ _ _ h hP hD hS (lv_sub hl [2, 3, 4, 1, 0] rfl)
  refine lv_iconst (v := 0) hx hb dX3_wantedBy_0 (by decide) ?_
  refine lv_istore_n (lv' := [(3, .int 0), (0, .ref n0), (1, .ref (aR 0)), (2, .int p2)]) hx hb dX3_wantedBy_1 rfl hl (by decide) rfl (fun ls hl => ?_)
  refine lv_iconst (v := 0) hx hb dX3_wantedBy_2 (by decide) ?_
  refine lv_istore (lv' := [(4, .int 0), (3, .int 0), (0, .ref n0), (1, .ref (aR 0)), (2, .int p2)]) hx hb dX3_wantedBy_3 hl (by decide) rfl (fun ls hl => ?_)
  obtain ⟨n, h⟩ := h
  exact N5  n 0 0 _ _ _ h hP hD hS (lv_sub hl [2, 3, 4, 1, 0] rfl)
abbrev vsX3_begin : List Cond := Cond.code yX3_begin cX3_begin 2 none :: WS
abbrev rmX3_begin : Room := { frames := 1, cells := 0, slots := 0, locals := 26 }
set_option maxHeartbeats 4000000 in
set_option maxRecDepth 100000 in
theorem k_X3_begin (l : Launch) (D : va_G) (C : Nat → ClassId) (sz : Nat) (n0 : Nat) (aN : Nat → Nat)  (ns : Nat → Int32) (na : Nat → Nat → Int32) (nl : Nat → Nat → Int64)  {post : (Nat → Int32) → (Nat → Nat → Int32) → (Nat → Nat → Int64) → Prop} (h : P_X3_begin ns na nl post) : Met l yX3_begin vsX3_begin rmX3_begin (cPre D C [.ref n0] sz (wNight n0 aN C ns na nl)) (cQv D (fun (u : (Nat → Int32) × (Nat → Nat → Int32) × (Nat → Nat → Int64)) => post u.1 u.2.1 u.2.2) (fun u => wNight n0 aN C u.1 u.2.1 u.2.2) (va_A (List.flatten (wNight n0 aN C ns na nl)) sz)) 0 0 (va_A (List.flatten (wNight n0 aN C ns na nl)) sz) := by
  refine cStart (QA := fun A => cQv D (fun (u : (Nat → Int32) × (Nat → Nat → Int32) × (Nat → Nat → Int64)) => post u.1 u.2.1 u.2.2) (fun u => wNight n0 aN C u.1 u.2.1 u.2.2) A) (cc := cX3_begin) (maxL := 2) (ret := none) (by decide) (Nat.le_of_ble_eq_true rfl) ?_
  intro p e s m args below meth c A ls hx hb hr hml hown hw hlocks hname hK hN hA hP hD hS hl
  generalize hQ : MQ below _ args s 0 0 A = Q
  have hl : lv_has ls 2 [(0, .ref n0)] := hl
  obtain ⟨H, hH⟩ : ∃ H, H = s.heap := ⟨_, rfl⟩
  obtain ⟨locs, hlo⟩ : ∃ z : List Loc, z = [] := ⟨_, rfl⟩
  have hP : va_P D vwCl (List.flatten (wNight n0 aN C ns na nl)) H := by rw [hH]; exact hP
  have hS : va_S A s.heap H locs := by rw [hH, hlo]; exact hS
  rw [show W p l e rmX3_begin s m args below meth c s.heap [] 0 0 Q (F0 m 0 ls []) = W p l e rmX3_begin s m args below meth c H locs 0 0 Q (F0 m 0 ls []) from by rw [hH, hlo]]
  have N24 : ∀ (ns : Nat → Int32) (na : Nat → Nat → Int32) (nl : Nat → Nat → Int64) (H : Heap) (locs : List Loc) (ls : Array Slot), P_X3_begin_24  post  ns na nl → va_P D vwCl (List.flatten (wNight n0 aN C ns na nl)) H → va_D A (List.flatten (wNight n0 aN C ns na nl)) → va_S A s.heap H locs → lv_has ls 2 [(0, .ref n0)] → W p l e rmX3_begin s m args below meth c H locs 0 0 Q (F0 m 24 ls []) := by
    intro ns na nl H locs ls h hP hD hS hl
    refine lv_aload_n hx hb dX3_begin_24 rfl (lv_at hl 0 rfl) ?_
    refine va_get (D := D) (ci := 3) (v := .ref (aN 7)) (C := RX3) (T := TX3) (N := 10) hx hb hw inW_X3 hown hK hP 0 rfl rfl 6 (by decide) (hw _ mw_2_116) (fun _ h9 => h9) rfl dX3_begin_25 ?_
    refine cGoV (wo := fun u => wNight n0 aN C (va_up ns 2 u.1) (va_up na 7 u.2) nl) (cRunVN (As := []) (rest := []) ⟨hx, hb, hml, hown, hw⟩ hK hN hP hD [1] rfl rfl (k_X7_wipe l D C _ (aN 7) (aN 8) (aN 9) (aN 10) (aN 11)  (ns 2) (na 5) (nl 1) (na 6) (na 7)  h) ⟨va_cnB 0 hw (goodN mw_4_32) rfl rfl rfl (hN.m 46 rfl) (hw _ mw_1_12) (by decide +kernel) ⟨Nat.le_of_ble_eq_true rfl, Nat.le_of_ble_eq_true rfl⟩, hw _ mw_4_31, hw _ mw_s50⟩ rfl rfl rfl hl.1 rfl (Nat.le_of_ble_eq_true rfl) dX3_begin_28 ⟨Nat.zero_le _, Nat.zero_le _⟩) hP hD hS hA [1] [0, 2] [0, 2, 1] rfl rfl rfl (by decide) rfl (fun _ => rfl) (fun u H locs h hP hD hS => ?_)
    obtain ⟨siz_1, tab_2⟩ := u
    have hP : va_P D vwCl (List.flatten (wNight n0 aN C (va_up ns 2 siz_1) (va_up na 7 tab_2) nl)) H := hP
    have hD : va_D A (List.flatten (wNight n0 aN C (va_up ns 2 siz_1) (va_up na 7 tab_2) nl)) := hD
    refine lv_aload_n hx hb dX3_begin_31 rfl (lv_at hl 0 rfl) ?_
    refine va_get (D := D) (ci := 3) (v := .ref (aN 7)) (C := RX3) (T := TX3) (N := 10) hx hb hw inW_X3 hown hK hP 0 rfl rfl 6 (by decide) (hw _ mw_2_116) (fun _ h9 => h9) rfl dX3_begin_32 ?_
    refine lv_iconst (v := 0) hx hb dX3_begin_35 (by decide) ?_
    refine lv_ldc2 (v := 1000000000000) hx hb hown (hw _ mw_4_33) dX3_begin_36 ?_
    refine cGoV (wo := fun u => wNight n0 aN C (va_up ns 2 u.1) (va_up (va_up (va_up na 5 u.2.1) 6 u.2.2.2.1) 7 u.2.2.2.2) (va_up nl 1 u.2.2.1)) (cRunVN (As := [.int 0, .long 1000000000000]) (rest := []) ⟨hx, hb, hml, hown, hw⟩ hK hN hP hD [1] rfl rfl (k_X7_put l D C _ (aN 7) (aN 8) (aN 9) (aN 10) (aN 11)  siz_1 (na 5) (nl 1) (na 6) tab_2 0 1000000000000 h) ⟨va_cnB 2 hw (goodN mw_4_37) rfl rfl rfl (hN.m 47 rfl) (hw _ mw_1_12) (by decide +kernel) ⟨Nat.le_of_ble_eq_true rfl, Nat.le_of_ble_eq_true rfl⟩, hw _ mw_4_36, hw _ mw_s51⟩ rfl rfl rfl hl.1 rfl (Nat.le_of_ble_eq_true rfl) dX3_begin_39 ⟨Nat.zero_le _, Nat.zero_le _⟩) hP hD hS hA [1] [0, 2] [0, 2, 1] rfl rfl rfl (by decide) rfl (fun _ => rfl) (fun u H locs h hP hD hS => ?_)
    obtain ⟨siz_3, sta_4, par_5, slo_6, tab_7⟩ := u
    have hP : va_P D vwCl (List.flatten (wNight n0 aN C (va_up ns 2 siz_3) (va_up (va_up (va_up na 5 sta_4) 6 slo_6) 7 tab_7) (va_up nl 1 par_5))) H := hP
    have hD : va_D A (List.flatten (wNight n0 aN C (va_up ns 2 siz_3) (va_up (va_up (va_up na 5 sta_4) 6 slo_6) 7 tab_7) (va_up nl 1 par_5))) := hD
    rw [← hQ]
    exact cRetV ((va_up ns 2 siz_3), (va_up (va_up (va_up na 5 sta_4) 6 slo_6) 7 tab_7), (va_up nl 1 par_5)) hx hb hr hlocks hS hP hD h dX3_begin_42
  have N2 : ∀ (ns : Nat → Int32) (na : Nat → Nat → Int32) (n2 : Nat) (x1_ : Int32) (nl : Nat → Nat → Int64) (H : Heap) (locs : List Loc) (ls : Array Slot), P_X3_begin_2  post (fun (ns : Nat → Int32) (na : Nat → Nat → Int32) (nl : Nat → Nat → Int64) => P_X3_begin_24  post  ns na nl) ns na n2 x1_ nl → va_P D vwCl (List.flatten (wNight n0 aN C ns na nl)) H → va_D A (List.flatten (wNight n0 aN C ns na nl)) → va_S A s.heap H locs → lv_has ls 2 [(0, .ref n0), (1, .int x1_)] → W p l e rmX3_begin s m args below meth c H locs 0 0 Q (F0 m 2 ls []) := by
    intro ns na
    intro n2
    induction n2 with
    | zero => intro x1_ nl H locs ls h hP hD hS hl; exact False.elim h
    | succ n2 ih2 =>
      intro x1_ nl H locs ls h hP hD hS hl
      refine lv_iload_n hx hb dX3_begin_2 rfl (lv_at hl 1 rfl) ?_
      refine lv_aload_n hx hb dX3_begin_3 rfl (lv_at hl 0 rfl) ?_
      refine va_get (D := D) (ci := 3) (v := .ref (aN 6)) (C := RX3) (T := TX3) (N := 10) hx hb hw inW_X3 hown hK hP 0 rfl rfl 5 (by decide) (hw _ mw_2_115) (fun _ h9 => h9) rfl dX3_begin_4 ?_
      refine va_alen (v := 60) hx hb hK hP 6 1 rfl rfl rfl dX3_begin_7 ?_
      refine lv_icmp_ge (tgt := 24) hx hb dX3_begin_8 (by decide) (fun c8 => ?_) (fun c8 => ?_)
      · have h := h.1 c8
        exact N24 ns na nl _ _ _ h hP hD hS (lv_sub hl [0] rfl)
      · have h := h.2 c8
        refine lv_aload_n hx hb dX3_begin_11 rfl (lv_at hl 0 rfl) ?_
        refine va_get (D := D) (ci := 3) (v := .ref (aN 6)) (C := RX3) (T := TX3) (N := 10) hx hb hw inW_X3 hown hK hP 0 rfl rfl 5 (by decide) (hw _ mw_2_115) (fun _ h9 => h9) rfl dX3_begin_12 ?_
        refine lv_iload_n hx hb dX3_begin_15 rfl (lv_at hl 1 rfl) ?_
        refine lv_lconst (v := 0) hx hb dX3_begin_16 (by decide) ?_
        refine cLast hx hb hK hP hD hS 6 1 rfl rfl x1_.toNatClampNeg rfl h.1 dX3_begin_17 (fun H locs hP hD hS => ?_)
        have h := h.2
        refine lv_iinc (v := (x1_ + 1)) (lv' := [(1, .int (x1_ + 1)), (0, .ref n0)]) hx hb dX3_begin_18 hl (k := 1) rfl rfl (by decide) rfl (fun ls hl => ?_)
        refine lv_goto (tgt := 2) hx hb dX3_begin_21 (by decide) ?_
        have hP : va_P D vwCl (List.flatten (wNight n0 aN C ns na (va_up nl 0 (vp_updL (nl 0) x1_.toNatClampNeg 0)))) H := hP
        have hD : va_D A (List.flatten (wNight n0 aN C ns na (va_up nl 0 (vp_updL (nl 0) x1_.toNatClampNeg 0)))) := hD
        exact ih2 (x1_ + 1) (va_up nl 0 (vp_updL (nl 0) x1_.toNatClampNeg 0)) _ _ _ h hP hD hS (lv_sub hl [1, 0] rfl)
  refine lv_iconst (v := 0) hx hb dX3_begin_0 (by decide) ?_
  refine lv_istore_n (lv' := [(1, .int 0), (0, .ref n0)]) hx hb dX3_begin_1 rfl hl (by decide) rfl (fun ls hl => ?_)
  obtain ⟨n, h⟩ := h
  exact N2 ns na n 0 nl _ _ _ h hP hD hS (lv_sub hl [1, 0] rfl)
abbrev vsX3_caughtBit : List Cond := Cond.code yX3_caughtBit cX3_caughtBit 1 (some .int) :: WS
abbrev rmX3_caughtBit : Room := { frames := 0, cells := 0, slots := 0, locals := 0 }
set_option maxHeartbeats 4000000 in
set_option maxRecDepth 100000 in
theorem k_X3_caughtBit (l : Launch) (D : va_G) (C : Nat → ClassId) (sz : Nat)    (p1 : Int32) {post : Int32 → Prop} (h : P_X3_caughtBit p1 post) : Met l yX3_caughtBit vsX3_caughtBit rmX3_caughtBit (cPre D C [.int p1] sz (([] : List va_W))) (cQi D (fun (r : Int32) (u : Unit) => post r ) (fun u => ([] : List va_W)) (va_A (List.flatten (([] : List va_W))) sz)) 0 0 (va_A (List.flatten (([] : List va_W))) sz) := by
  refine cStart (QA := fun A => cQi D (fun (r : Int32) (u : Unit) => post r ) (fun u => ([] : List va_W)) A) (cc := cX3_caughtBit) (maxL := 1) (ret := (some .int)) (by decide) (Nat.le_of_ble_eq_true rfl) ?_
  intro p e s m args below meth c A ls hx hb hr hml hown hw hlocks hname hK hN hA hP hD hS hl
  generalize hQ : MQ below _ args s 0 0 A = Q
  have hl : lv_has ls 1 [(0, .int p1)] := hl
  obtain ⟨H, hH⟩ : ∃ H, H = s.heap := ⟨_, rfl⟩
  obtain ⟨locs, hlo⟩ : ∃ z : List Loc, z = [] := ⟨_, rfl⟩
  have hP : va_P D vwCl (List.flatten (([] : List va_W))) H := by rw [hH]; exact hP
  have hS : va_S A s.heap H locs := by rw [hH, hlo]; exact hS
  rw [show W p l e rmX3_caughtBit s m args below meth c s.heap [] 0 0 Q (F0 m 0 ls []) = W p l e rmX3_caughtBit s m args below meth c H locs 0 0 Q (F0 m 0 ls []) from by rw [hH, hlo]]
  refine lv_iconst (v := 1) hx hb dX3_caughtBit_0 (by decide) ?_
  refine lv_bipush (v := 11) hx hb dX3_caughtBit_1 (by decide) ?_
  refine lv_iload_n hx hb dX3_caughtBit_3 rfl (lv_at hl 0 rfl) ?_
  refine lv_iadd hx hb dX3_caughtBit_4 ?_
  refine lv_ishl hx hb dX3_caughtBit_5 ?_
  rw [← hQ]
  exact cRetI (v := ((1 : Int32) <<< ((11 + p1) &&& 31))) () hx hb hr hlocks hS hP hD h dX3_caughtBit_6
abbrev vsX3_isCaught : List Cond := Cond.code yX3_isCaught cX3_isCaught 2 (some .boolean) :: WS
abbrev rmX3_isCaught : Room := { frames := 1, cells := 0, slots := 0, locals := 20 }
set_option maxHeartbeats 4000000 in
set_option maxRecDepth 100000 in
theorem k_X3_isCaught (l : Launch) (D : va_G) (C : Nat → ClassId) (sz : Nat)    (p1 : Int32) (p2 : Int32) {post : Int32 → Prop} (h : P_X3_isCaught p1 p2 post) : Met l yX3_isCaught vsX3_isCaught rmX3_isCaught (cPre D C [.int p1, .int p2] sz (([] : List va_W))) (cQi D (fun (r : Int32) (u : Unit) => post r ) (fun u => ([] : List va_W)) (va_A (List.flatten (([] : List va_W))) sz)) 0 0 (va_A (List.flatten (([] : List va_W))) sz) := by
  refine cStart (QA := fun A => cQi D (fun (r : Int32) (u : Unit) => post r ) (fun u => ([] : List va_W)) A) (cc := cX3_isCaught) (maxL := 2) (ret := (some .boolean)) (by decide) (Nat.le_of_ble_eq_true rfl) ?_
  intro p e s m args below meth c A ls hx hb hr hml hown hw hlocks hname hK hN hA hP hD hS hl
  generalize hQ : MQ below _ args s 0 0 A = Q
  have hl : lv_has ls 2 [(0, .int p1), (1, .int p2)] := hl
  obtain ⟨H, hH⟩ : ∃ H, H = s.heap := ⟨_, rfl⟩
  obtain ⟨locs, hlo⟩ : ∃ z : List Loc, z = [] := ⟨_, rfl⟩
  have hP : va_P D vwCl (List.flatten (([] : List va_W))) H := by rw [hH]; exact hP
  have hS : va_S A s.heap H locs := by rw [hH, hlo]; exact hS
  rw [show W p l e rmX3_isCaught s m args below meth c s.heap [] 0 0 Q (F0 m 0 ls []) = W p l e rmX3_isCaught s m args below meth c H locs 0 0 Q (F0 m 0 ls []) from by rw [hH, hlo]]
  refine lv_iload_n hx hb dX3_isCaught_0 rfl (lv_at hl 0 rfl) ?_
  refine lv_iload_n hx hb dX3_isCaught_1 rfl (lv_at hl 1 rfl) ?_
  refine cGoI (wo := fun u => ([] : List va_W)) (cRunS (As := [.int p2]) (rest := [.int p1]) ⟨hx, hb, hml, hown, hw⟩ hK hN hP hD [] rfl rfl (k_X3_caughtBit l D C _    p2 h) (va_cwS 1 hw (goodS mw_4_46 mw_4_47 mw_1_11 mw_4_48) rfl rfl rfl (by decide +kernel) ⟨Nat.le_of_ble_eq_true rfl, Nat.le_of_ble_eq_true rfl⟩) rfl hl.1 rfl (Nat.le_of_ble_eq_true rfl) dX3_isCaught_2 ⟨Nat.zero_le _, Nat.zero_le _⟩) hP hD hS hA [] [] [] rfl rfl rfl (by decide) rfl (fun _ => rfl) (fun r1 u H locs h hP hD hS => ?_)
  have hP : va_P D vwCl (List.flatten (([] : List va_W))) H := hP
  have hD : va_D A (List.flatten (([] : List va_W))) := hD
  refine lv_iand hx hb dX3_isCaught_5 ?_
  refine lv_if_eq (tgt := 13) hx hb dX3_isCaught_6 (by decide) (fun c2 => ?_) (fun c2 => ?_)
  · have h := h.1 c2
    refine lv_iconst (v := 0) hx hb dX3_isCaught_13 (by decide) ?_
    rw [← hQ]
    exact cRetZ (v := 0) () hx hb hr hlocks hS hP hD (Or.inl rfl) h dX3_isCaught_14
  · have h := h.2 c2
    refine lv_iconst (v := 1) hx hb dX3_isCaught_9 (by decide) ?_
    refine lv_goto (tgt := 14) hx hb dX3_isCaught_10 (by decide) ?_
    rw [← hQ]
    exact cRetZ (v := 1) () hx hb hr hlocks hS hP hD (Or.inr rfl) h dX3_isCaught_14
