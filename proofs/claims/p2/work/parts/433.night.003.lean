abbrev vsX3_partsOfMany : List Cond := Cond.code yX3_partsOfMany cX3_partsOfMany 5 (some .long) :: WS
abbrev rmX3_partsOfMany : Room := { frames := 1, cells := 0, slots := 0, locals := 20 }
set_option maxHeartbeats 4000000 in
set_option maxRecDepth 100000 in
theorem k_X3_partsOfMany (l : Launch) (D : va_G) (C : Nat → ClassId) (sz : Nat) (n0 : Nat) (aN : Nat → Nat)  (ns : Nat → Int32) (na : Nat → Nat → Int32) (nl : Nat → Nat → Int64) (p1 : Int32) {post : Int64 → Prop} (h : P_X3_partsOfMany ns na nl p1 post) : Met l yX3_partsOfMany vsX3_partsOfMany rmX3_partsOfMany (cPre D C [.ref n0, .int p1] sz (wNight n0 aN C ns na nl)) (cQl D (fun (r : Int64) (u : Unit) => post r ) (fun u => wNight n0 aN C ns na nl) (va_A (List.flatten (wNight n0 aN C ns na nl)) sz)) 0 0 (va_A (List.flatten (wNight n0 aN C ns na nl)) sz) := by
  refine cStart (QA := fun A => cQl D (fun (r : Int64) (u : Unit) => post r ) (fun u => wNight n0 aN C ns na nl) A) (cc := cX3_partsOfMany) (maxL := 5) (ret := (some .long)) (by decide) (Nat.le_of_ble_eq_true rfl) ?_
  intro p e s m args below meth c A ls hx hb hr hml hown hw hlocks hname hK hN hA hP hD hS hl
  generalize hQ : MQ below _ args s 0 0 A = Q
  have hl : lv_has ls 5 [(0, .ref n0), (1, .int p1)] := hl
  have hn123 : (Cond.fieldLinkNest "LockRail$Night" 123 "LockRail$Spread" "size" "I" "LockRail").before args s = true := hN.f 75 rfl
  have hn126 : (Cond.fieldLinkNest "LockRail$Night" 126 "LockRail$Spread" "states" "[I" "LockRail").before args s = true := hN.f 76 rfl
  have hn129 : (Cond.fieldLinkNest "LockRail$Night" 129 "LockRail$Spread" "parts" "[J" "LockRail").before args s = true := hN.f 77 rfl
  obtain ⟨H, hH⟩ : ∃ H, H = s.heap := ⟨_, rfl⟩
  obtain ⟨locs, hlo⟩ : ∃ z : List Loc, z = [] := ⟨_, rfl⟩
  have hP : va_P D vwCl (List.flatten (wNight n0 aN C ns na nl)) H := by rw [hH]; exact hP
  have hS : va_S A s.heap H locs := by rw [hH, hlo]; exact hS
  rw [show W p l e rmX3_partsOfMany s m args below meth c s.heap [] 0 0 Q (F0 m 0 ls []) = W p l e rmX3_partsOfMany s m args below meth c H locs 0 0 Q (F0 m 0 ls []) from by rw [hH, hlo]]
  have N5 : ∀  (n5 : Nat) (x2_ : Int64) (x4_ : Int32) (H : Heap) (locs : List Loc) (ls : Array Slot), P_X3_partsOfMany_5 ns na nl p1 post   n5 x2_ x4_ → va_P D vwCl (List.flatten (wNight n0 aN C ns na nl)) H → va_D A (List.flatten (wNight n0 aN C ns na nl)) → va_S A s.heap H locs → lv_has ls 5 [(0, .ref n0), (1, .int p1), (2, .long x2_), (4, .int x4_)] → W p l e rmX3_partsOfMany s m args below meth c H locs 0 0 Q (F0 m 5 ls []) := by
    intro n5
    induction n5 with
    | zero => intro x2_ x4_ H locs ls h hP hD hS hl; exact False.elim h
    | succ n5 ih5 =>
      intro x2_ x4_ H locs ls h hP hD hS hl
      refine lv_iload hx hb dX3_partsOfMany_5 (lv_at hl 3 rfl) ?_
      refine lv_aload_n hx hb dX3_partsOfMany_7 rfl (lv_at hl 0 rfl) ?_
      refine va_get (D := D) (ci := 3) (v := .ref (aN 7)) (C := RX3) (T := TX3) (N := 10) hx hb hw inW_X3 hown hK hP 0 rfl rfl 6 (by decide) (hw _ mw_2_116) (fun _ h9 => h9) rfl dX3_partsOfMany_8 ?_
      refine va_getN (D := D) (ci := 7) (v := .int (ns 2)) (C := RX7) (T := TX7) (N := 5) hx hb hw inW_X7 hown hK hP 7 rfl rfl 0 (by decide) hn123 (fun _ h9 => h9) rfl dX3_partsOfMany_11 ?_
      refine lv_icmp_ge (tgt := 57) hx hb dX3_partsOfMany_14 (by decide) (fun c1 => ?_) (fun c1 => ?_)
      · have h := h.1 c1
        refine lv_lload_n hx hb dX3_partsOfMany_57 rfl (lv_at hl 2 rfl) ?_
        rw [← hQ]
        exact cRetL (v := x2_) () hx hb hr hlocks hS hP hD h dX3_partsOfMany_58
      · have h := h.2 c1
        refine lv_aload_n hx hb dX3_partsOfMany_17 rfl (lv_at hl 0 rfl) ?_
        refine va_get (D := D) (ci := 3) (v := .ref (aN 7)) (C := RX3) (T := TX3) (N := 10) hx hb hw inW_X3 hown hK hP 0 rfl rfl 6 (by decide) (hw _ mw_2_116) (fun _ h9 => h9) rfl dX3_partsOfMany_18 ?_
        refine va_getN (D := D) (ci := 7) (v := .ref (aN 8)) (C := RX7) (T := TX7) (N := 5) hx hb hw inW_X7 hown hK hP 7 rfl rfl 1 (by decide) hn126 (fun _ h9 => h9) rfl dX3_partsOfMany_21 ?_
        refine lv_iload hx hb dX3_partsOfMany_24 (lv_at hl 3 rfl) ?_
        refine cIald hx hb hK hP 8 0 rfl rfl x4_.toNatClampNeg rfl h.1 dX3_partsOfMany_26 ?_
        have h := h.2
        refine lv_sipush (v := 2047) hx hb dX3_partsOfMany_27 (by decide) ?_
        refine lv_iand hx hb dX3_partsOfMany_30 ?_
        refine cGoI (wo := fun u => wNight n0 aN C ns na nl) (cRunS (As := [.int ((na 5 x4_.toNatClampNeg) &&& 2047)]) (rest := []) ⟨hx, hb, hml, hown, hw⟩ hK hN hP hD [] rfl rfl (k_J6_bitCount_0f7a4 l D C _    ((na 5 x4_.toNatClampNeg) &&& 2047) h) (va_cwS 1 hw (goodS mw_4_71 mw_4_72 mw_1_20 mw_4_73) rfl rfl rfl (by decide +kernel) ⟨Nat.le_of_ble_eq_true rfl, Nat.le_of_ble_eq_true rfl⟩) rfl hl.1 rfl (Nat.le_of_ble_eq_true rfl) dX3_partsOfMany_31 ⟨Nat.zero_le _, Nat.zero_le _⟩) hP hD hS hA [] [0, 1, 2] [0, 1, 2] rfl rfl rfl (by decide) rfl (fun _ => rfl) (fun r2 u H locs h hP hD hS => ?_)
        have hP : va_P D vwCl (List.flatten (wNight n0 aN C ns na nl)) H := hP
        have hD : va_D A (List.flatten (wNight n0 aN C ns na nl)) := hD
        refine lv_iload_n hx hb dX3_partsOfMany_34 rfl (lv_at hl 1 rfl) ?_
        refine lv_icmp_ne (tgt := 51) hx hb dX3_partsOfMany_35 (by decide) (fun c3 => ?_) (fun c3 => ?_)
        · have h := h.1 c3
          refine lv_iinc (v := (x4_ + 1)) (lv' := [(4, .int (x4_ + 1)), (0, .ref n0), (1, .int p1), (2, .long x2_)]) hx hb dX3_partsOfMany_51 hl (k := 3) rfl rfl (by decide) rfl (fun ls hl => ?_)
          refine lv_goto (tgt := 5) hx hb dX3_partsOfMany_54 (by decide) ?_
          exact ih5 x2_ (x4_ + 1) _ _ _ h hP hD hS (lv_sub hl [1, 2, 3, 0] rfl)
        · have h := h.2 c3
          refine lv_lload_n hx hb dX3_partsOfMany_38 rfl (lv_at hl 2 rfl) ?_
          refine lv_aload_n hx hb dX3_partsOfMany_39 rfl (lv_at hl 0 rfl) ?_
          refine va_get (D := D) (ci := 3) (v := .ref (aN 7)) (C := RX3) (T := TX3) (N := 10) hx hb hw inW_X3 hown hK hP 0 rfl rfl 6 (by decide) (hw _ mw_2_116) (fun _ h9 => h9) rfl dX3_partsOfMany_40 ?_
          refine va_getN (D := D) (ci := 7) (v := .ref (aN 9)) (C := RX7) (T := TX7) (N := 5) hx hb hw inW_X7 hown hK hP 7 rfl rfl 2 (by decide) hn129 (fun _ h9 => h9) rfl dX3_partsOfMany_43 ?_
          refine lv_iload hx hb dX3_partsOfMany_46 (lv_at hl 3 rfl) ?_
          refine cLald hx hb hK hP 9 1 rfl rfl x4_.toNatClampNeg rfl h.1 dX3_partsOfMany_48 ?_
          have h := h.2
          refine lv_ladd hx hb dX3_partsOfMany_49 ?_
          refine lv_topl (fun x4 ex4 => ?_)
          have h := h x4 ex4
          refine lv_lstore_n (lv' := [(2, .long x4), (0, .ref n0), (1, .int p1), (4, .int x4_)]) hx hb dX3_partsOfMany_50 rfl hl (by decide) rfl (fun ls hl => ?_)
          refine lv_iinc (v := (x4_ + 1)) (lv' := [(4, .int (x4_ + 1)), (2, .long x4), (0, .ref n0), (1, .int p1)]) hx hb dX3_partsOfMany_51 hl (k := 3) rfl rfl (by decide) rfl (fun ls hl => ?_)
          refine lv_goto (tgt := 5) hx hb dX3_partsOfMany_54 (by decide) ?_
          exact ih5 x4 (x4_ + 1) _ _ _ h hP hD hS (lv_sub hl [2, 3, 1, 0] rfl)
  refine lv_lconst (v := 0) hx hb dX3_partsOfMany_0 (by decide) ?_
  refine lv_lstore_n (lv' := [(2, .long 0), (0, .ref n0), (1, .int p1)]) hx hb dX3_partsOfMany_1 rfl hl (by decide) rfl (fun ls hl => ?_)
  refine lv_iconst (v := 0) hx hb dX3_partsOfMany_2 (by decide) ?_
  refine lv_istore (lv' := [(4, .int 0), (2, .long 0), (0, .ref n0), (1, .int p1)]) hx hb dX3_partsOfMany_3 hl (by decide) rfl (fun ls hl => ?_)
  obtain ⟨n, h⟩ := h
  exact N5  n 0 0 _ _ _ h hP hD hS (lv_sub hl [2, 3, 1, 0] rfl)
abbrev vsX3_hadBy : List Cond := Cond.code yX3_hadBy cX3_hadBy 3 (some .long) :: WS
abbrev rmX3_hadBy : Room := { frames := 0, cells := 0, slots := 0, locals := 0 }
set_option maxHeartbeats 4000000 in
set_option maxRecDepth 100000 in
theorem k_X3_hadBy (l : Launch) (D : va_G) (C : Nat → ClassId) (sz : Nat) (n0 : Nat) (aN : Nat → Nat)  (ns : Nat → Int32) (na : Nat → Nat → Int32) (nl : Nat → Nat → Int64) (p1 : Int32) (p2 : Int32) {post : Int64 → Prop} (h : P_X3_hadBy nl p1 p2 post) : Met l yX3_hadBy vsX3_hadBy rmX3_hadBy (cPre D C [.ref n0, .int p1, .int p2] sz (wNight n0 aN C ns na nl)) (cQl D (fun (r : Int64) (u : Unit) => post r ) (fun u => wNight n0 aN C ns na nl) (va_A (List.flatten (wNight n0 aN C ns na nl)) sz)) 0 0 (va_A (List.flatten (wNight n0 aN C ns na nl)) sz) := by
  refine cStart (QA := fun A => cQl D (fun (r : Int64) (u : Unit) => post r ) (fun u => wNight n0 aN C ns na nl) A) (cc := cX3_hadBy) (maxL := 3) (ret := (some .long)) (by decide) (Nat.le_of_ble_eq_true rfl) ?_
  intro p e s m args below meth c A ls hx hb hr hml hown hw hlocks hname hK hN hA hP hD hS hl
  generalize hQ : MQ below _ args s 0 0 A = Q
  have hl : lv_has ls 3 [(0, .ref n0), (1, .int p1), (2, .int p2)] := hl
  obtain ⟨H, hH⟩ : ∃ H, H = s.heap := ⟨_, rfl⟩
  obtain ⟨locs, hlo⟩ : ∃ z : List Loc, z = [] := ⟨_, rfl⟩
  have hP : va_P D vwCl (List.flatten (wNight n0 aN C ns na nl)) H := by rw [hH]; exact hP
  have hS : va_S A s.heap H locs := by rw [hH, hlo]; exact hS
  rw [show W p l e rmX3_hadBy s m args below meth c s.heap [] 0 0 Q (F0 m 0 ls []) = W p l e rmX3_hadBy s m args below meth c H locs 0 0 Q (F0 m 0 ls []) from by rw [hH, hlo]]
  refine lv_aload_n hx hb dX3_hadBy_0 rfl (lv_at hl 0 rfl) ?_
  refine va_get (D := D) (ci := 3) (v := .ref (aN 6)) (C := RX3) (T := TX3) (N := 10) hx hb hw inW_X3 hown hK hP 0 rfl rfl 5 (by decide) (hw _ mw_2_115) (fun _ h9 => h9) rfl dX3_hadBy_1 ?_
  refine lv_iload_n hx hb dX3_hadBy_4 rfl (lv_at hl 1 rfl) ?_
  refine lv_bipush (v := 10) hx hb dX3_hadBy_5 (by decide) ?_
  refine lv_imul hx hb dX3_hadBy_7 ?_
  refine lv_iload_n hx hb dX3_hadBy_8 rfl (lv_at hl 2 rfl) ?_
  refine lv_iadd hx hb dX3_hadBy_9 ?_
  refine cLald hx hb hK hP 6 1 rfl rfl (((p1 * 10) + p2).toNatClampNeg) rfl h.1 dX3_hadBy_10 ?_
  have h := h.2
  rw [← hQ]
  exact cRetL (v := (nl 0 (((p1 * 10) + p2).toNatClampNeg))) () hx hb hr hlocks hS hP hD h dX3_hadBy_11
abbrev vsX3_riskOf : List Cond := Cond.code yX3_riskOf cX3_riskOf 5 (some .long) :: WS
abbrev rmX3_riskOf : Room := { frames := 1, cells := 0, slots := 0, locals := 22 }
set_option maxHeartbeats 4000000 in
set_option maxRecDepth 100000 in
theorem k_X3_riskOf (l : Launch) (D : va_G) (C : Nat → ClassId) (sz : Nat) (n0 : Nat) (aN : Nat → Nat)  (ns : Nat → Int32) (na : Nat → Nat → Int32) (nl : Nat → Nat → Int64) (p1 : Int32) {post : Int64 → Prop} (h : P_X3_riskOf nl p1 post) : Met l yX3_riskOf vsX3_riskOf rmX3_riskOf (cPre D C [.ref n0, .int p1] sz (wNight n0 aN C ns na nl)) (cQl D (fun (r : Int64) (u : Unit) => post r ) (fun u => wNight n0 aN C ns na nl) (va_A (List.flatten (wNight n0 aN C ns na nl)) sz)) 0 0 (va_A (List.flatten (wNight n0 aN C ns na nl)) sz) := by
  refine cStart (QA := fun A => cQl D (fun (r : Int64) (u : Unit) => post r ) (fun u => wNight n0 aN C ns na nl) A) (cc := cX3_riskOf) (maxL := 5) (ret := (some .long)) (by decide) (Nat.le_of_ble_eq_true rfl) ?_
  intro p e s m args below meth c A ls hx hb hr hml hown hw hlocks hname hK hN hA hP hD hS hl
  generalize hQ : MQ below _ args s 0 0 A = Q
  have hl : lv_has ls 5 [(0, .ref n0), (1, .int p1)] := hl
  obtain ⟨H, hH⟩ : ∃ H, H = s.heap := ⟨_, rfl⟩
  obtain ⟨locs, hlo⟩ : ∃ z : List Loc, z = [] := ⟨_, rfl⟩
  have hP : va_P D vwCl (List.flatten (wNight n0 aN C ns na nl)) H := by rw [hH]; exact hP
  have hS : va_S A s.heap H locs := by rw [hH, hlo]; exact hS
  rw [show W p l e rmX3_riskOf s m args below meth c s.heap [] 0 0 Q (F0 m 0 ls []) = W p l e rmX3_riskOf s m args below meth c H locs 0 0 Q (F0 m 0 ls []) from by rw [hH, hlo]]
  have N5 : ∀  (n5 : Nat) (x2_ : Int64) (x4_ : Int32) (H : Heap) (locs : List Loc) (ls : Array Slot), P_X3_riskOf_5 nl p1 post   n5 x2_ x4_ → va_P D vwCl (List.flatten (wNight n0 aN C ns na nl)) H → va_D A (List.flatten (wNight n0 aN C ns na nl)) → va_S A s.heap H locs → lv_has ls 5 [(0, .ref n0), (1, .int p1), (2, .long x2_), (4, .int x4_)] → W p l e rmX3_riskOf s m args below meth c H locs 0 0 Q (F0 m 5 ls []) := by
    intro n5
    induction n5 with
    | zero => intro x2_ x4_ H locs ls h hP hD hS hl; exact False.elim h
    | succ n5 ih5 =>
      intro x2_ x4_ H locs ls h hP hD hS hl
      refine lv_iload hx hb dX3_riskOf_5 (lv_at hl 3 rfl) ?_
      refine lv_bipush (v := 6) hx hb dX3_riskOf_7 (by decide) ?_
      refine lv_icmp_ge (tgt := 28) hx hb dX3_riskOf_9 (by decide) (fun c1 => ?_) (fun c1 => ?_)
      · have h := h.1 c1
        refine lv_lload_n hx hb dX3_riskOf_28 rfl (lv_at hl 2 rfl) ?_
        rw [← hQ]
        exact cRetL (v := x2_) () hx hb hr hlocks hS hP hD h dX3_riskOf_29
      · have h := h.2 c1
        refine lv_lload_n hx hb dX3_riskOf_12 rfl (lv_at hl 2 rfl) ?_
        refine lv_aload_n hx hb dX3_riskOf_13 rfl (lv_at hl 0 rfl) ?_
        refine lv_iload hx hb dX3_riskOf_14 (lv_at hl 3 rfl) ?_
        refine lv_iload_n hx hb dX3_riskOf_16 rfl (lv_at hl 1 rfl) ?_
        refine cGoL (wo := fun u => wNight n0 aN C ns na nl) (cRunV (As := [.int x4_, .int p1]) (rest := [.long x2_]) ⟨hx, hb, hml, hown, hw⟩ hK hN hP hD [0, 1, 2] rfl rfl (k_X3_hadBy l D C _ n0 aN  ns na nl x4_ p1 h) (cwV 2 hw (goodV mw_4_85 mw_4_87 mw_s58 mw_1_11 mw_4_88) rfl rfl rfl (by decide +kernel) ⟨Nat.le_of_ble_eq_true rfl, Nat.le_of_ble_eq_true rfl⟩) rfl rfl rfl hl.1 rfl (Nat.le_of_ble_eq_true rfl) dX3_riskOf_17 ⟨Nat.zero_le _, Nat.zero_le _⟩) hP hD hS hA [0, 1, 2] [] [0, 1, 2] rfl rfl rfl (by decide) rfl (fun _ => rfl) (fun r2 u H locs h hP hD hS => ?_)
        have hP : va_P D vwCl (List.flatten (wNight n0 aN C ns na nl)) H := hP
        have hD : va_D A (List.flatten (wNight n0 aN C ns na nl)) := hD
        refine lv_ladd hx hb dX3_riskOf_20 ?_
        refine lv_topl (fun x3 ex3 => ?_)
        have h := h x3 ex3
        refine lv_lstore_n (lv' := [(2, .long x3), (0, .ref n0), (1, .int p1), (4, .int x4_)]) hx hb dX3_riskOf_21 rfl hl (by decide) rfl (fun ls hl => ?_)
        refine lv_iinc (v := (x4_ + 1)) (lv' := [(4, .int (x4_ + 1)), (2, .long x3), (0, .ref n0), (1, .int p1)]) hx hb dX3_riskOf_22 hl (k := 3) rfl rfl (by decide) rfl (fun ls hl => ?_)
        refine lv_goto (tgt := 5) hx hb dX3_riskOf_25 (by decide) ?_
        exact ih5 x3 (x4_ + 1) _ _ _ h hP hD hS (lv_sub hl [2, 3, 1, 0] rfl)
  refine lv_lconst (v := 0) hx hb dX3_riskOf_0 (by decide) ?_
  refine lv_lstore_n (lv' := [(2, .long 0), (0, .ref n0), (1, .int p1)]) hx hb dX3_riskOf_1 rfl hl (by decide) rfl (fun ls hl => ?_)
  refine lv_iconst (v := 0) hx hb dX3_riskOf_2 (by decide) ?_
  refine lv_istore (lv' := [(4, .int 0), (2, .long 0), (0, .ref n0), (1, .int p1)]) hx hb dX3_riskOf_3 hl (by decide) rfl (fun ls hl => ?_)
  obtain ⟨n, h⟩ := h
  exact N5  n 0 0 _ _ _ h hP hD hS (lv_sub hl [2, 3, 1, 0] rfl)
abbrev vsX3_costOf : List Cond := Cond.code yX3_costOf cX3_costOf 8 (some .long) :: WS
abbrev rmX3_costOf : Room := { frames := 2, cells := 0, slots := 0, locals := 46 }
set_option maxHeartbeats 4000000 in
set_option maxRecDepth 100000 in
theorem k_X3_costOf (l : Launch) (D : va_G) (C : Nat → ClassId) (sz : Nat) (n0 : Nat) (aN : Nat → Nat) (aR : Nat → Nat)  (ns : Nat → Int32) (na : Nat → Nat → Int32) (nl : Nat → Nat → Int64) (rs : Nat → Int32) (ra : Nat → Nat → Int32) (p2 : Int32) (p3 : Int32) {post : Int64 → Prop} (h : P_X3_costOf nl rs ra p2 p3 post) : Met l yX3_costOf vsX3_costOf rmX3_costOf (cPre D C [.ref n0, .ref (aR 0), .int p2, .int p3] sz (wNight n0 aN C ns na nl ++ (wRail aR C rs ra))) (cQl D (fun (r : Int64) (u : Unit) => post r ) (fun u => wNight n0 aN C ns na nl ++ (wRail aR C rs ra)) (va_A (List.flatten (wNight n0 aN C ns na nl ++ (wRail aR C rs ra))) sz)) 0 0 (va_A (List.flatten (wNight n0 aN C ns na nl ++ (wRail aR C rs ra))) sz) := by
  refine cStart (QA := fun A => cQl D (fun (r : Int64) (u : Unit) => post r ) (fun u => wNight n0 aN C ns na nl ++ (wRail aR C rs ra)) A) (cc := cX3_costOf) (maxL := 8) (ret := (some .long)) (by decide) (Nat.le_of_ble_eq_true rfl) ?_
  intro p e s m args below meth c A ls hx hb hr hml hown hw hlocks hname hK hN hA hP hD hS hl
  generalize hQ : MQ below _ args s 0 0 A = Q
  have hl : lv_has ls 8 [(0, .ref n0), (1, .ref (aR 0)), (2, .int p2), (3, .int p3)] := hl
  have hn154 : (Cond.fieldLinkNest "LockRail$Night" 154 "LockRail$Rail" "nights" "I" "LockRail").before args s = true := hN.f 51 rfl
  have hn45 : (Cond.fieldLinkNest "LockRail$Night" 45 "LockRail$Rail" "bikes" "LLockRail$Bikes;" "LockRail").before args s = true := hN.f 59 rfl
  have hn173 : (Cond.fieldLinkNest "LockRail$Night" 173 "LockRail$Bikes" "worth" "[I" "LockRail").before args s = true := hN.f 23 rfl
  obtain ⟨H, hH⟩ : ∃ H, H = s.heap := ⟨_, rfl⟩
  obtain ⟨locs, hlo⟩ : ∃ z : List Loc, z = [] := ⟨_, rfl⟩
  have hP : va_P D vwCl (List.flatten (wNight n0 aN C ns na nl ++ (wRail aR C rs ra))) H := by rw [hH]; exact hP
  have hS : va_S A s.heap H locs := by rw [hH, hlo]; exact hS
  rw [show W p l e rmX3_costOf s m args below meth c s.heap [] 0 0 Q (F0 m 0 ls []) = W p l e rmX3_costOf s m args below meth c H locs 0 0 Q (F0 m 0 ls []) from by rw [hH, hlo]]
  refine lv_aload_n hx hb dX3_costOf_0 rfl (lv_at hl 1 rfl) ?_
  refine lv_iload_n hx hb dX3_costOf_1 rfl (lv_at hl 2 rfl) ?_
  refine cGoL (wo := fun u => wNight n0 aN C ns na nl ++ (wRail aR C rs ra)) (cRunVN (As := [.int p2]) (rest := []) ⟨hx, hb, hml, hown, hw⟩ hK hN hP hD [3, 4, 5, 6, 7, 8] rfl rfl (k_X4_paidFor l D C _ aR  rs ra p2 h) ⟨va_cnB 1 hw (goodN mw_4_108) rfl rfl rfl (hN.m 53 rfl) (hw _ mw_1_4) (by decide +kernel) ⟨Nat.le_of_ble_eq_true rfl, Nat.le_of_ble_eq_true rfl⟩, hw _ mw_4_107, hw _ mw_s60⟩ rfl rfl rfl hl.1 rfl (Nat.le_of_ble_eq_true rfl) dX3_costOf_2 ⟨Nat.zero_le _, Nat.zero_le _⟩) hP hD hS hA [3, 4, 5, 6, 7, 8] [0, 1, 2] [0, 1, 2, 3, 4, 5, 6, 7, 8] rfl rfl rfl (by decide) rfl (fun _ => rfl) (fun r1 u H locs h hP hD hS => ?_)
  have hP : va_P D vwCl (List.flatten (wNight n0 aN C ns na nl ++ (wRail aR C rs ra))) H := hP
  have hD : va_D A (List.flatten (wNight n0 aN C ns na nl ++ (wRail aR C rs ra))) := hD
  refine lv_lstore (lv' := [(4, .long r1), (0, .ref n0), (1, .ref (aR 0)), (2, .int p2), (3, .int p3)]) hx hb dX3_costOf_5 hl (by decide) rfl (fun ls hl => ?_)
  refine lv_aload_n hx hb dX3_costOf_7 rfl (lv_at hl 2 rfl) ?_
  refine va_getN (D := D) (ci := 4) (v := .int (rs 1)) (C := RX4) (T := TX4) (N := 16) hx hb hw inW_X4 hown hK hP 17 rfl rfl 1 (by decide) hn154 (fun _ h9 => h9) rfl dX3_costOf_8 ?_
  refine lv_i2l hx hb dX3_costOf_11 rfl ?_
  refine lv_aload_n hx hb dX3_costOf_12 rfl (lv_at hl 2 rfl) ?_
  refine va_getN (D := D) (ci := 4) (v := .ref (aR 7)) (C := RX4) (T := TX4) (N := 16) hx hb hw inW_X4 hown hK hP 17 rfl rfl 5 (by decide) hn45 (fun _ h9 => h9) rfl dX3_costOf_13 ?_
  refine va_getN (D := D) (ci := 0) (v := .ref (aR 8)) (C := RX0) (T := TX0) (N := 6) hx hb hw inW_X0 hown hK hP 24 rfl rfl 1 (by decide) hn173 (fun _ h9 => h9) rfl dX3_costOf_16 ?_
  refine lv_iload_n hx hb dX3_costOf_19 rfl (lv_at hl 3 rfl) ?_
  refine cIald hx hb hK hP 25 0 rfl rfl p2.toNatClampNeg rfl h.1 dX3_costOf_20 ?_
  have h := h.2
  refine lv_i2l hx hb dX3_costOf_21 rfl ?_
  refine lv_lmul hx hb dX3_costOf_22 ?_
  refine lv_aload_n hx hb dX3_costOf_23 rfl (lv_at hl 1 rfl) ?_
  refine lv_iload_n hx hb dX3_costOf_24 rfl (lv_at hl 3 rfl) ?_
  refine cGoL (wo := fun u => wNight n0 aN C ns na nl ++ (wRail aR C rs ra)) (cRunV (As := [.int p2]) (rest := [.long ((rs 1).toInt64 * (ra 4 p2.toNatClampNeg).toInt64)]) ⟨hx, hb, hml, hown, hw⟩ hK hN hP hD [0, 1, 2] rfl rfl (k_X3_riskOf l D C _ n0 aN  ns na nl p2 h) (cwV 1 hw (goodV mw_4_110 mw_4_83 mw_s57 mw_1_11 mw_4_84) rfl rfl rfl (by decide +kernel) ⟨Nat.le_of_ble_eq_true rfl, Nat.le_of_ble_eq_true rfl⟩) rfl rfl rfl hl.1 rfl (Nat.le_of_ble_eq_true rfl) dX3_costOf_25 ⟨Nat.zero_le _, Nat.zero_le _⟩) hP hD hS hA [0, 1, 2] [3, 4, 5, 6, 7, 8] [6, 7, 8, 0, 1, 2, 3, 4, 5] rfl rfl rfl (by decide) rfl (fun _ => rfl) (fun r2 u H locs h hP hD hS => ?_)
  have hP : va_P D vwCl (List.flatten (wNight n0 aN C ns na nl ++ (wRail aR C rs ra))) H := hP
  have hD : va_D A (List.flatten (wNight n0 aN C ns na nl ++ (wRail aR C rs ra))) := hD
  refine lv_lmul hx hb dX3_costOf_28 ?_
  refine lv_ldc2 (v := 1000000000) hx hb hown (hw _ mw_4_111) dX3_costOf_29 ?_
  refine lv_ldiv hx hb dX3_costOf_32 (by decide) ?_
  refine lv_topl (fun x3 ex3 => ?_)
  have h := h x3 ex3
  refine lv_lstore (lv' := [(6, .long x3), (4, .long r1), (0, .ref n0), (1, .ref (aR 0)), (2, .int p2), (3, .int p3)]) hx hb dX3_costOf_33 hl (by decide) rfl (fun ls hl => ?_)
  refine lv_iload_n hx hb dX3_costOf_35 rfl (lv_at hl 5 rfl) ?_
  by_cases c4_0 : p3 = 0
  · refine lv_lookup (tgt := 64) hx hb dX3_costOf_36 (by decide) (by rw [c4_0] <;> rfl) (by decide) ?_
    have h := h.1 c4_0
    refine lv_lload hx hb dX3_costOf_64 (lv_at hl 1 rfl) ?_
    rw [← hQ]
    exact cRetL (v := r1) () hx hb hr hlocks hS hP hD h dX3_costOf_66
  by_cases c4_1 : p3 = 1
  · refine lv_lookup (tgt := 67) hx hb dX3_costOf_36 (by decide) (by rw [c4_1] <;> rfl) (by decide) ?_
    have h := h.2.1 c4_1
    refine lv_lload hx hb dX3_costOf_67 (lv_at hl 0 rfl) ?_
    rw [← hQ]
    exact cRetL (v := x3) () hx hb hr hlocks hS hP hD h dX3_costOf_69
  refine lv_lookup (tgt := 70) hx hb dX3_costOf_36 (by decide) (sw_look2 c4_0 c4_1) (by decide) ?_
  have h := h.2.2 c4_0 c4_1
  refine lv_lload hx hb dX3_costOf_70 (lv_at hl 1 rfl) ?_
  refine lv_lload hx hb dX3_costOf_72 (lv_at hl 0 rfl) ?_
  refine lv_ladd hx hb dX3_costOf_74 ?_
  refine lv_aload_n hx hb dX3_costOf_75 rfl (lv_at hl 3 rfl) ?_
  refine cGoL (wo := fun u => wNight n0 aN C ns na nl ++ (wRail aR C rs ra)) (cRunVN (As := []) (rest := [.long (r1 + x3)]) ⟨hx, hb, hml, hown, hw⟩ hK hN hP hD [3, 4, 5, 6, 7, 8] rfl rfl (k_X4_wageShare l D C _ aR  rs ra  h) ⟨va_cnB 0 hw (goodN mw_4_115) rfl rfl rfl (hN.m 54 rfl) (hw _ mw_1_4) (by decide +kernel) ⟨Nat.le_of_ble_eq_true rfl, Nat.le_of_ble_eq_true rfl⟩, hw _ mw_4_114, hw _ mw_s61⟩ rfl rfl rfl hl.1 rfl (Nat.le_of_ble_eq_true rfl) dX3_costOf_76 ⟨Nat.zero_le _, Nat.zero_le _⟩) hP hD hS hA [3, 4, 5, 6, 7, 8] [0, 1, 2] [0, 1, 2, 3, 4, 5, 6, 7, 8] rfl rfl rfl (by decide) rfl (fun _ => rfl) (fun r5 u H locs h hP hD hS => ?_)
  have hP : va_P D vwCl (List.flatten (wNight n0 aN C ns na nl ++ (wRail aR C rs ra))) H := hP
  have hD : va_D A (List.flatten (wNight n0 aN C ns na nl ++ (wRail aR C rs ra))) := hD
  refine lv_ladd hx hb dX3_costOf_79 ?_
  rw [← hQ]
  exact cRetL (v := ((r1 + x3) + r5)) () hx hb hr hlocks hS hP hD h dX3_costOf_80
abbrev vsX3_costOfAll : List Cond := Cond.code yX3_costOfAll cX3_costOfAll 6 (some .long) :: WS
abbrev rmX3_costOfAll : Room := { frames := 3, cells := 0, slots := 0, locals := 73 }
set_option maxHeartbeats 4000000 in
set_option maxRecDepth 100000 in
theorem k_X3_costOfAll (l : Launch) (D : va_G) (C : Nat → ClassId) (sz : Nat) (n0 : Nat) (aN : Nat → Nat) (aR : Nat → Nat)  (ns : Nat → Int32) (na : Nat → Nat → Int32) (nl : Nat → Nat → Int64) (rs : Nat → Int32) (ra : Nat → Nat → Int32) (p2 : Int32) {post : Int64 → Prop} (h : P_X3_costOfAll nl rs ra p2 post) : Met l yX3_costOfAll vsX3_costOfAll rmX3_costOfAll (cPre D C [.ref n0, .ref (aR 0), .int p2] sz (wNight n0 aN C ns na nl ++ (wRail aR C rs ra))) (cQl D (fun (r : Int64) (u : Unit) => post r ) (fun u => wNight n0 aN C ns na nl ++ (wRail aR C rs ra)) (va_A (List.flatten (wNight n0 aN C ns na nl ++ (wRail aR C rs ra))) sz)) 0 0 (va_A (List.flatten (wNight n0 aN C ns na nl ++ (wRail aR C rs ra))) sz) := by
  refine cStart (QA := fun A => cQl D (fun (r : Int64) (u : Unit) => post r ) (fun u => wNight n0 aN C ns na nl ++ (wRail aR C rs ra)) A) (cc := cX3_costOfAll) (maxL := 6) (ret := (some .long)) (by decide) (Nat.le_of_ble_eq_true rfl) ?_
  intro p e s m args below meth c A ls hx hb hr hml hown hw hlocks hname hK hN hA hP hD hS hl
  generalize hQ : MQ below _ args s 0 0 A = Q
  have hl : lv_has ls 6 [(0, .ref n0), (1, .ref (aR 0)), (2, .int p2)] := hl
  have hn45 : (Cond.fieldLinkNest "LockRail$Night" 45 "LockRail$Rail" "bikes" "LLockRail$Bikes;" "LockRail").before args s = true := hN.f 59 rfl
  have hn51 : (Cond.fieldLinkNest "LockRail$Night" 51 "LockRail$Bikes" "count" "I" "LockRail").before args s = true := hN.f 18 rfl
  obtain ⟨H, hH⟩ : ∃ H, H = s.heap := ⟨_, rfl⟩
  obtain ⟨locs, hlo⟩ : ∃ z : List Loc, z = [] := ⟨_, rfl⟩
  have hP : va_P D vwCl (List.flatten (wNight n0 aN C ns na nl ++ (wRail aR C rs ra))) H := by rw [hH]; exact hP
  have hS : va_S A s.heap H locs := by rw [hH, hlo]; exact hS
  rw [show W p l e rmX3_costOfAll s m args below meth c s.heap [] 0 0 Q (F0 m 0 ls []) = W p l e rmX3_costOfAll s m args below meth c H locs 0 0 Q (F0 m 0 ls []) from by rw [hH, hlo]]
  have N5 : ∀  (n5 : Nat) (x3_ : Int64) (x5_ : Int32) (H : Heap) (locs : List Loc) (ls : Array Slot), P_X3_costOfAll_5 nl rs ra p2 post   n5 x3_ x5_ → va_P D vwCl (List.flatten (wNight n0 aN C ns na nl ++ (wRail aR C rs ra))) H → va_D A (List.flatten (wNight n0 aN C ns na nl ++ (wRail aR C rs ra))) → va_S A s.heap H locs → lv_has ls 6 [(0, .ref n0), (1, .ref (aR 0)), (2, .int p2), (3, .long x3_), (5, .int x5_)] → W p l e rmX3_costOfAll s m args below meth c H locs 0 0 Q (F0 m 5 ls []) := by
    intro n5
    induction n5 with
    | zero => intro x3_ x5_ H locs ls h hP hD hS hl; exact False.elim h
    | succ n5 ih5 =>
      intro x3_ x5_ H locs ls h hP hD hS hl
      refine lv_iload hx hb dX3_costOfAll_5 (lv_at hl 4 rfl) ?_
      refine lv_aload_n hx hb dX3_costOfAll_7 rfl (lv_at hl 1 rfl) ?_
      refine va_getN (D := D) (ci := 4) (v := .ref (aR 7)) (C := RX4) (T := TX4) (N := 16) hx hb hw inW_X4 hown hK hP 17 rfl rfl 5 (by decide) hn45 (fun _ h9 => h9) rfl dX3_costOfAll_8 ?_
      refine va_getN (D := D) (ci := 0) (v := .int (rs 13)) (C := RX0) (T := TX0) (N := 6) hx hb hw inW_X0 hown hK hP 24 rfl rfl 0 (by decide) hn51 (fun _ h9 => h9) rfl dX3_costOfAll_11 ?_
      refine lv_icmp_ge (tgt := 34) hx hb dX3_costOfAll_14 (by decide) (fun c1 => ?_) (fun c1 => ?_)
      · have h := h.1 c1
        refine lv_lload_n hx hb dX3_costOfAll_34 rfl (lv_at hl 3 rfl) ?_
        rw [← hQ]
        exact cRetL (v := x3_) () hx hb hr hlocks hS hP hD h dX3_costOfAll_35
      · have h := h.2 c1
        refine lv_lload_n hx hb dX3_costOfAll_17 rfl (lv_at hl 3 rfl) ?_
        refine lv_aload_n hx hb dX3_costOfAll_18 rfl (lv_at hl 0 rfl) ?_
        refine lv_aload_n hx hb dX3_costOfAll_19 rfl (lv_at hl 1 rfl) ?_
        refine lv_iload hx hb dX3_costOfAll_20 (lv_at hl 4 rfl) ?_
        refine lv_iload_n hx hb dX3_costOfAll_22 rfl (lv_at hl 2 rfl) ?_
        refine cGoL (wo := fun u => wNight n0 aN C ns na nl ++ (wRail aR C rs ra)) (cRunV (As := [.ref (aR 0), .int x5_, .int p2]) (rest := [.long x3_]) ⟨hx, hb, hml, hown, hw⟩ hK hN hP hD [0, 1, 2, 3, 4, 5, 6, 7, 8] rfl rfl (k_X3_costOf l D C _ n0 aN aR  ns na nl rs ra x5_ p2 h) (cwV 3 hw (goodV mw_4_132 mw_4_103 mw_s59 mw_1_11 mw_4_104) rfl rfl rfl (by decide +kernel) ⟨Nat.le_of_ble_eq_true rfl, Nat.le_of_ble_eq_true rfl⟩) rfl rfl rfl hl.1 rfl (Nat.le_of_ble_eq_true rfl) dX3_costOfAll_23 ⟨Nat.zero_le _, Nat.zero_le _⟩) hP hD hS hA [0, 1, 2, 3, 4, 5, 6, 7, 8] [] [0, 1, 2, 3, 4, 5, 6, 7, 8] rfl rfl rfl (by decide) rfl (fun _ => rfl) (fun r2 u H locs h hP hD hS => ?_)
        have hP : va_P D vwCl (List.flatten (wNight n0 aN C ns na nl ++ (wRail aR C rs ra))) H := hP
        have hD : va_D A (List.flatten (wNight n0 aN C ns na nl ++ (wRail aR C rs ra))) := hD
        refine lv_ladd hx hb dX3_costOfAll_26 ?_
        refine lv_topl (fun x3 ex3 => ?_)
        have h := h x3 ex3
        refine lv_lstore_n (lv' := [(3, .long x3), (0, .ref n0), (1, .ref (aR 0)), (2, .int p2), (5, .int x5_)]) hx hb dX3_costOfAll_27 rfl hl (by decide) rfl (fun ls hl => ?_)
        refine lv_iinc (v := (x5_ + 1)) (lv' := [(5, .int (x5_ + 1)), (3, .long x3), (0, .ref n0), (1, .ref (aR 0)), (2, .int p2)]) hx hb dX3_costOfAll_28 hl (k := 4) rfl rfl (by decide) rfl (fun ls hl => ?_)
        refine lv_goto (tgt := 5) hx hb dX3_costOfAll_31 (by decide) ?_
        exact ih5 x3 (x5_ + 1) _ _ _ h hP hD hS (lv_sub hl [2, 3, 4, 1, 0] rfl)
  refine lv_lconst (v := 0) hx hb dX3_costOfAll_0 (by decide) ?_
  refine lv_lstore_n (lv' := [(3, .long 0), (0, .ref n0), (1, .ref (aR 0)), (2, .int p2)]) hx hb dX3_costOfAll_1 rfl hl (by decide) rfl (fun ls hl => ?_)
  refine lv_iconst (v := 0) hx hb dX3_costOfAll_2 (by decide) ?_
  refine lv_istore (lv' := [(5, .int 0), (3, .long 0), (0, .ref n0), (1, .ref (aR 0)), (2, .int p2)]) hx hb dX3_costOfAll_3 hl (by decide) rfl (fun ls hl => ?_)
  obtain ⟨n, h⟩ := h
  exact N5  n 0 0 _ _ _ h hP hD hS (lv_sub hl [2, 3, 4, 1, 0] rfl)
