abbrev vsX3_putInOrder : List Cond := Cond.code yX3_putInOrder cX3_putInOrder 6 none :: WS
abbrev rmX3_putInOrder : Room := { frames := 0, cells := 0, slots := 0, locals := 0 }
set_option maxHeartbeats 4000000 in
set_option maxRecDepth 100000 in
theorem k_X3_putInOrder (l : Launch) (D : va_G) (C : Nat → ClassId) (sz : Nat) (n0 : Nat) (aN : Nat → Nat)  (ns : Nat → Int32) (na : Nat → Nat → Int32) (nl : Nat → Nat → Int64) (p1 : Int32) (p2 : Int32) (p3 : Int32) {post : (Nat → Nat → Int32) → Prop} (h : P_X3_putInOrder na p1 p2 p3 post) : Met l yX3_putInOrder vsX3_putInOrder rmX3_putInOrder (cPre D C [.ref n0, .int p1, .int p2, .int p3] sz (wNight n0 aN C ns na nl)) (cQv D (fun (u : (Nat → Nat → Int32)) => post u) (fun u => wNight n0 aN C ns u nl) (va_A (List.flatten (wNight n0 aN C ns na nl)) sz)) 0 0 (va_A (List.flatten (wNight n0 aN C ns na nl)) sz) := by
  refine cStart (QA := fun A => cQv D (fun (u : (Nat → Nat → Int32)) => post u) (fun u => wNight n0 aN C ns u nl) A) (cc := cX3_putInOrder) (maxL := 6) (ret := none) (by decide) (Nat.le_of_ble_eq_true rfl) ?_
  intro p e s m args below meth c A ls hx hb hr hml hown hw hlocks hname hK hN hA hP hD hS hl
  generalize hQ : MQ below _ args s 0 0 A = Q
  have hl : lv_has ls 6 [(0, .ref n0), (1, .int p1), (2, .int p2), (3, .int p3)] := hl
  obtain ⟨H, hH⟩ : ∃ H, H = s.heap := ⟨_, rfl⟩
  obtain ⟨locs, hlo⟩ : ∃ z : List Loc, z = [] := ⟨_, rfl⟩
  have hP : va_P D vwCl (List.flatten (wNight n0 aN C ns na nl)) H := by rw [hH]; exact hP
  have hS : va_S A s.heap H locs := by rw [hH, hlo]; exact hS
  rw [show W p l e rmX3_putInOrder s m args below meth c s.heap [] 0 0 Q (F0 m 0 ls []) = W p l e rmX3_putInOrder s m args below meth c H locs 0 0 Q (F0 m 0 ls []) from by rw [hH, hlo]]
  have N84 : ∀ (x4_ : Int32) (x5_ : Int32) (na : Nat → Nat → Int32) (H : Heap) (locs : List Loc) (ls : Array Slot), P_X3_putInOrder_84 p1 p2 p3 post  x4_ x5_ na → va_P D vwCl (List.flatten (wNight n0 aN C ns na nl)) H → va_D A (List.flatten (wNight n0 aN C ns na nl)) → va_S A s.heap H locs → lv_has ls 6 [(0, .ref n0), (1, .int p1), (2, .int p2), (3, .int p3), (4, .int x4_), (5, .int x5_)] → W p l e rmX3_putInOrder s m args below meth c H locs 0 0 Q (F0 m 84 ls []) := by
    intro x4_ x5_ na H locs ls h hP hD hS hl
    refine lv_aload_n hx hb dX3_putInOrder_84 rfl (lv_at hl 0 rfl) ?_
    refine va_get (D := D) (ci := 3) (v := .ref (aN 5)) (C := RX3) (T := TX3) (N := 10) hx hb hw inW_X3 hown hK hP 0 rfl rfl 4 (by decide) (hw _ mw_2_114) (fun _ h9 => h9) rfl dX3_putInOrder_85 ?_
    refine lv_iload hx hb dX3_putInOrder_88 (lv_at hl 5 rfl) ?_
    refine lv_iload_n hx hb dX3_putInOrder_90 rfl (lv_at hl 3 rfl) ?_
    refine cIast hx hb hK hP hD hS 5 0 rfl rfl x5_.toNatClampNeg rfl h.1 dX3_putInOrder_91 (fun H locs hP hD hS => ?_)
    have h := h.2
    refine lv_aload_n hx hb dX3_putInOrder_92 rfl (lv_at hl 0 rfl) ?_
    refine va_get (D := D) (ci := 3) (v := .ref (aN 3)) (C := RX3) (T := TX3) (N := 10) hx hb hw inW_X3 hown hK hP 0 rfl rfl 2 (by decide) (hw _ mw_2_112) (fun _ h9 => h9) rfl dX3_putInOrder_93 ?_
    refine lv_iload hx hb dX3_putInOrder_96 (lv_at hl 4 rfl) ?_
    refine lv_iload hx hb dX3_putInOrder_98 (lv_at hl 5 rfl) ?_
    refine lv_iadd hx hb dX3_putInOrder_100 ?_
    refine lv_iload_n hx hb dX3_putInOrder_101 rfl (lv_at hl 2 rfl) ?_
    refine cIast hx hb hK hP hD hS 3 0 rfl rfl ((x4_ + x5_).toNatClampNeg) rfl h.1 dX3_putInOrder_102 (fun H locs hP hD hS => ?_)
    have h := h.2
    refine lv_aload_n hx hb dX3_putInOrder_103 rfl (lv_at hl 0 rfl) ?_
    refine va_get (D := D) (ci := 3) (v := .ref (aN 4)) (C := RX3) (T := TX3) (N := 10) hx hb hw inW_X3 hown hK hP 0 rfl rfl 3 (by decide) (hw _ mw_2_113) (fun _ h9 => h9) rfl dX3_putInOrder_104 ?_
    refine lv_iload_n hx hb dX3_putInOrder_107 rfl (lv_at hl 1 rfl) ?_
    refine lv_dup2_11 hx hb dX3_putInOrder_108 rfl rfl ?_
    refine cIald hx hb hK hP 4 0 rfl rfl p1.toNatClampNeg rfl h.1 dX3_putInOrder_109 ?_
    have h := h.2
    refine lv_iconst (v := 1) hx hb dX3_putInOrder_110 (by decide) ?_
    refine lv_iadd hx hb dX3_putInOrder_111 ?_
    refine cIast hx hb hK hP hD hS 4 0 rfl rfl p1.toNatClampNeg rfl h.1 dX3_putInOrder_112 (fun H locs hP hD hS => ?_)
    have h := h.2
    have hP : va_P D vwCl (List.flatten (wNight n0 aN C ns (va_up (va_up (va_up na 2 (upd (na 2) ((x4_ + x5_).toNatClampNeg) p2)) 3 (upd (na 3) p1.toNatClampNeg ((na 3 p1.toNatClampNeg) + 1))) 4 (upd (na 4) x5_.toNatClampNeg p3)) nl)) H := hP
    have hD : va_D A (List.flatten (wNight n0 aN C ns (va_up (va_up (va_up na 2 (upd (na 2) ((x4_ + x5_).toNatClampNeg) p2)) 3 (upd (na 3) p1.toNatClampNeg ((na 3 p1.toNatClampNeg) + 1))) 4 (upd (na 4) x5_.toNatClampNeg p3)) nl)) := hD
    rw [← hQ]
    exact cRetV ((va_up (va_up (va_up na 2 (upd (na 2) ((x4_ + x5_).toNatClampNeg) p2)) 3 (upd (na 3) p1.toNatClampNeg ((na 3 p1.toNatClampNeg) + 1))) 4 (upd (na 4) x5_.toNatClampNeg p3))) hx hb hr hlocks hS hP hD h dX3_putInOrder_113
  have N22 : ∀ (x4_ : Int32) (n22 : Nat) (x5_ : Int32) (na : Nat → Nat → Int32) (H : Heap) (locs : List Loc) (ls : Array Slot), P_X3_putInOrder_22 p1 p2 p3 post (fun (x4_ : Int32) (x5_ : Int32) (na : Nat → Nat → Int32) => P_X3_putInOrder_84 p1 p2 p3 post  x4_ x5_ na) x4_ n22 x5_ na → va_P D vwCl (List.flatten (wNight n0 aN C ns na nl)) H → va_D A (List.flatten (wNight n0 aN C ns na nl)) → va_S A s.heap H locs → lv_has ls 6 [(0, .ref n0), (1, .int p1), (2, .int p2), (3, .int p3), (4, .int x4_), (5, .int x5_)] → W p l e rmX3_putInOrder s m args below meth c H locs 0 0 Q (F0 m 22 ls []) := by
    intro x4_
    intro n22
    induction n22 with
    | zero => intro x5_ na H locs ls h hP hD hS hl; exact False.elim h
    | succ n22 ih22 =>
      intro x5_ na H locs ls h hP hD hS hl
      refine lv_iload hx hb dX3_putInOrder_22 (lv_at hl 5 rfl) ?_
      refine lv_if_le (tgt := 84) hx hb dX3_putInOrder_24 (by decide) (fun c1 => ?_) (fun c1 => ?_)
      · have h := h.1 c1
        exact N84 x4_ x5_ na _ _ _ h hP hD hS (lv_sub hl [0, 1, 2, 3, 4, 5] rfl)
      · have h := h.2 c1
        refine lv_aload_n hx hb dX3_putInOrder_27 rfl (lv_at hl 0 rfl) ?_
        refine va_get (D := D) (ci := 3) (v := .ref (aN 5)) (C := RX3) (T := TX3) (N := 10) hx hb hw inW_X3 hown hK hP 0 rfl rfl 4 (by decide) (hw _ mw_2_114) (fun _ h9 => h9) rfl dX3_putInOrder_28 ?_
        refine lv_iload hx hb dX3_putInOrder_31 (lv_at hl 5 rfl) ?_
        refine lv_iconst (v := 1) hx hb dX3_putInOrder_33 (by decide) ?_
        refine lv_isub hx hb dX3_putInOrder_34 ?_
        refine cIald hx hb hK hP 5 0 rfl rfl ((x5_ - 1).toNatClampNeg) rfl h.1 dX3_putInOrder_35 ?_
        have h := h.2
        refine lv_iload_n hx hb dX3_putInOrder_36 rfl (lv_at hl 3 rfl) ?_
        refine lv_icmp_le (tgt := 84) hx hb dX3_putInOrder_37 (by decide) (fun c2 => ?_) (fun c2 => ?_)
        · have h := h.1 c2
          exact N84 x4_ x5_ na _ _ _ h hP hD hS (lv_sub hl [0, 1, 2, 3, 4, 5] rfl)
        · have h := h.2 c2
          refine lv_aload_n hx hb dX3_putInOrder_40 rfl (lv_at hl 0 rfl) ?_
          refine va_get (D := D) (ci := 3) (v := .ref (aN 5)) (C := RX3) (T := TX3) (N := 10) hx hb hw inW_X3 hown hK hP 0 rfl rfl 4 (by decide) (hw _ mw_2_114) (fun _ h9 => h9) rfl dX3_putInOrder_41 ?_
          refine lv_iload hx hb dX3_putInOrder_44 (lv_at hl 5 rfl) ?_
          refine lv_aload_n hx hb dX3_putInOrder_46 rfl (lv_at hl 0 rfl) ?_
          refine va_get (D := D) (ci := 3) (v := .ref (aN 5)) (C := RX3) (T := TX3) (N := 10) hx hb hw inW_X3 hown hK hP 0 rfl rfl 4 (by decide) (hw _ mw_2_114) (fun _ h9 => h9) rfl dX3_putInOrder_47 ?_
          refine lv_iload hx hb dX3_putInOrder_50 (lv_at hl 5 rfl) ?_
          refine lv_iconst (v := 1) hx hb dX3_putInOrder_52 (by decide) ?_
          refine lv_isub hx hb dX3_putInOrder_53 ?_
          refine cIald hx hb hK hP 5 0 rfl rfl ((x5_ - 1).toNatClampNeg) rfl h.1 dX3_putInOrder_54 ?_
          have h := h.2
          refine cIast hx hb hK hP hD hS 5 0 rfl rfl x5_.toNatClampNeg rfl h.1 dX3_putInOrder_55 (fun H locs hP hD hS => ?_)
          have h := h.2
          refine lv_aload_n hx hb dX3_putInOrder_56 rfl (lv_at hl 0 rfl) ?_
          refine va_get (D := D) (ci := 3) (v := .ref (aN 3)) (C := RX3) (T := TX3) (N := 10) hx hb hw inW_X3 hown hK hP 0 rfl rfl 2 (by decide) (hw _ mw_2_112) (fun _ h9 => h9) rfl dX3_putInOrder_57 ?_
          refine lv_iload hx hb dX3_putInOrder_60 (lv_at hl 4 rfl) ?_
          refine lv_iload hx hb dX3_putInOrder_62 (lv_at hl 5 rfl) ?_
          refine lv_iadd hx hb dX3_putInOrder_64 ?_
          refine lv_aload_n hx hb dX3_putInOrder_65 rfl (lv_at hl 0 rfl) ?_
          refine va_get (D := D) (ci := 3) (v := .ref (aN 3)) (C := RX3) (T := TX3) (N := 10) hx hb hw inW_X3 hown hK hP 0 rfl rfl 2 (by decide) (hw _ mw_2_112) (fun _ h9 => h9) rfl dX3_putInOrder_66 ?_
          refine lv_iload hx hb dX3_putInOrder_69 (lv_at hl 4 rfl) ?_
          refine lv_iload hx hb dX3_putInOrder_71 (lv_at hl 5 rfl) ?_
          refine lv_iadd hx hb dX3_putInOrder_73 ?_
          refine lv_iconst (v := 1) hx hb dX3_putInOrder_74 (by decide) ?_
          refine lv_isub hx hb dX3_putInOrder_75 ?_
          refine cIald hx hb hK hP 3 0 rfl rfl (((x4_ + x5_) - 1).toNatClampNeg) rfl h.1 dX3_putInOrder_76 ?_
          have h := h.2
          refine cIast hx hb hK hP hD hS 3 0 rfl rfl ((x4_ + x5_).toNatClampNeg) rfl h.1 dX3_putInOrder_77 (fun H locs hP hD hS => ?_)
          have h := h.2
          refine lv_iinc (v := (x5_ + (-1))) (lv' := [(5, .int (x5_ + (-1))), (0, .ref n0), (1, .int p1), (2, .int p2), (3, .int p3), (4, .int x4_)]) hx hb dX3_putInOrder_78 hl (k := 5) rfl rfl (by decide) rfl (fun ls hl => ?_)
          refine lv_goto (tgt := 22) hx hb dX3_putInOrder_81 (by decide) ?_
          have hP : va_P D vwCl (List.flatten (wNight n0 aN C ns (va_up (va_up na 2 (upd (na 2) ((x4_ + x5_).toNatClampNeg) (na 2 (((x4_ + x5_) - 1).toNatClampNeg)))) 4 (upd (na 4) x5_.toNatClampNeg (na 4 ((x5_ - 1).toNatClampNeg)))) nl)) H := hP
          have hD : va_D A (List.flatten (wNight n0 aN C ns (va_up (va_up na 2 (upd (na 2) ((x4_ + x5_).toNatClampNeg) (na 2 (((x4_ + x5_) - 1).toNatClampNeg)))) 4 (upd (na 4) x5_.toNatClampNeg (na 4 ((x5_ - 1).toNatClampNeg)))) nl)) := hD
          exact ih22 (x5_ + (-1)) (va_up (va_up na 2 (upd (na 2) ((x4_ + x5_).toNatClampNeg) (na 2 (((x4_ + x5_) - 1).toNatClampNeg)))) 4 (upd (na 4) x5_.toNatClampNeg (na 4 ((x5_ - 1).toNatClampNeg)))) _ _ _ h hP hD hS (lv_sub hl [1, 2, 3, 4, 5, 0] rfl)
  refine lv_iload_n hx hb dX3_putInOrder_0 rfl (lv_at hl 1 rfl) ?_
  refine lv_bipush (v := 11) hx hb dX3_putInOrder_1 (by decide) ?_
  refine lv_imul hx hb dX3_putInOrder_3 ?_
  refine lv_topi (fun x3 ex3 => ?_)
  have h := h x3 ex3
  refine lv_istore (lv' := [(4, .int x3), (0, .ref n0), (1, .int p1), (2, .int p2), (3, .int p3)]) hx hb dX3_putInOrder_4 hl (by decide) rfl (fun ls hl => ?_)
  refine lv_aload_n hx hb dX3_putInOrder_6 rfl (lv_at hl 1 rfl) ?_
  refine va_get (D := D) (ci := 3) (v := .ref (aN 4)) (C := RX3) (T := TX3) (N := 10) hx hb hw inW_X3 hown hK hP 0 rfl rfl 3 (by decide) (hw _ mw_2_113) (fun _ h9 => h9) rfl dX3_putInOrder_7 ?_
  refine lv_iload_n hx hb dX3_putInOrder_10 rfl (lv_at hl 2 rfl) ?_
  refine cIald hx hb hK hP 4 0 rfl rfl p1.toNatClampNeg rfl h.1 dX3_putInOrder_11 ?_
  have h := h.2
  refine lv_topi (fun x4 ex4 => ?_)
  have h := h x4 ex4
  refine lv_istore (lv' := [(5, .int x4), (4, .int x3), (0, .ref n0), (1, .int p1), (2, .int p2), (3, .int p3)]) hx hb dX3_putInOrder_12 hl (by decide) rfl (fun ls hl => ?_)
  refine lv_iload hx hb dX3_putInOrder_14 (lv_at hl 0 rfl) ?_
  refine lv_bipush (v := 11) hx hb dX3_putInOrder_16 (by decide) ?_
  refine lv_icmp_lt (tgt := 22) hx hb dX3_putInOrder_18 (by decide) (fun c5 => ?_) (fun c5 => ?_)
  · have h := h.1 c5
    obtain ⟨n, h⟩ := h
    exact N22 x3 n x4 na _ _ _ h hP hD hS (lv_sub hl [2, 3, 4, 5, 1, 0] rfl)
  · have h := h.2 c5
    rw [← hQ]
    exact cRetV (na) hx hb hr hlocks hS hP hD h dX3_putInOrder_21
abbrev vsX3_orderFor : List Cond := Cond.code yX3_orderFor cX3_orderFor 9 none :: WS
abbrev rmX3_orderFor : Room := { frames := 1, cells := 0, slots := 0, locals := 25 }
set_option maxHeartbeats 4000000 in
set_option maxRecDepth 100000 in
theorem k_X3_orderFor (l : Launch) (D : va_G) (C : Nat → ClassId) (sz : Nat) (n0 : Nat) (aN : Nat → Nat) (aR : Nat → Nat)  (ns : Nat → Int32) (na : Nat → Nat → Int32) (nl : Nat → Nat → Int64) (rs : Nat → Int32) (ra : Nat → Nat → Int32) (p2 : Int32) (p3 : Int32) {post : (Nat → Nat → Int32) → Prop} (h : P_X3_orderFor ns na rs ra p2 p3 post) : Met l yX3_orderFor vsX3_orderFor rmX3_orderFor (cPre D C [.ref n0, .ref (aR 0), .int p2, .int p3] sz (wNight n0 aN C ns na nl ++ (wRail aR C rs ra))) (cQv D (fun (u : (Nat → Nat → Int32)) => post u) (fun u => wNight n0 aN C ns u nl ++ (wRail aR C rs ra)) (va_A (List.flatten (wNight n0 aN C ns na nl ++ (wRail aR C rs ra))) sz)) 0 0 (va_A (List.flatten (wNight n0 aN C ns na nl ++ (wRail aR C rs ra))) sz) := by
  refine cStart (QA := fun A => cQv D (fun (u : (Nat → Nat → Int32)) => post u) (fun u => wNight n0 aN C ns u nl ++ (wRail aR C rs ra)) A) (cc := cX3_orderFor) (maxL := 9) (ret := none) (by decide) (Nat.le_of_ble_eq_true rfl) ?_
  intro p e s m args below meth c A ls hx hb hr hml hown hw hlocks hname hK hN hA hP hD hS hl
  generalize hQ : MQ below _ args s 0 0 A = Q
  have hl : lv_has ls 9 [(0, .ref n0), (1, .ref (aR 0)), (2, .int p2), (3, .int p3)] := hl
  have hn45 : (Cond.fieldLinkNest "LockRail$Night" 45 "LockRail$Rail" "bikes" "LLockRail$Bikes;" "LockRail").before args s = true := hN.f 59 rfl
  have hn51 : (Cond.fieldLinkNest "LockRail$Night" 51 "LockRail$Bikes" "count" "I" "LockRail").before args s = true := hN.f 18 rfl
  have hn75 : (Cond.fieldLinkNest "LockRail$Night" 75 "LockRail$Rail" "thieves" "LLockRail$Thieves;" "LockRail").before args s = true := hN.f 62 rfl
  have hn93 : (Cond.fieldLinkNest "LockRail$Night" 93 "LockRail$Thieves" "just" "[I" "LockRail").before args s = true := hN.f 40 rfl
  have hn86 : (Cond.fieldLinkNest "LockRail$Night" 86 "LockRail$Thieves" "kind" "[I" "LockRail").before args s = true := hN.f 39 rfl
  obtain ⟨H, hH⟩ : ∃ H, H = s.heap := ⟨_, rfl⟩
  obtain ⟨locs, hlo⟩ : ∃ z : List Loc, z = [] := ⟨_, rfl⟩
  have hP : va_P D vwCl (List.flatten (wNight n0 aN C ns na nl ++ (wRail aR C rs ra))) H := by rw [hH]; exact hP
  have hS : va_S A s.heap H locs := by rw [hH, hlo]; exact hS
  rw [show W p l e rmX3_orderFor s m args below meth c s.heap [] 0 0 Q (F0 m 0 ls []) = W p l e rmX3_orderFor s m args below meth c H locs 0 0 Q (F0 m 0 ls []) from by rw [hH, hlo]]
  have N151 : ∀ (k0_ : Int32) (k1_ : Int32) (k2_ : Int32) (na : Nat → Nat → Int32) (H : Heap) (locs : List Loc) (ls : Array Slot), P_X3_orderFor_151 ns rs ra p2 p3 post  k0_ k1_ k2_ na → va_P D vwCl (List.flatten (wNight n0 aN C ns na nl ++ (wRail aR C rs ra))) H → va_D A (List.flatten (wNight n0 aN C ns na nl ++ (wRail aR C rs ra))) → va_S A s.heap H locs → lv_has ls 9 [] → W p l e rmX3_orderFor s m args below meth c H locs 0 0 Q (F0 m 151 ls [.int k0_, .int k1_, .int k2_, .ref n0]) := by
    intro k0_ k1_ k2_ na H locs ls h hP hD hS hl
    refine gs_V9_30 (rs_V9_26 (As := [.int k2_, .int k1_, .int k0_]) (rest := []) ⟨hx, hb, hml, hown, hw⟩ hK hN hP hD (k_X3_putInOrder l D C _ n0 aN  ns na nl k2_ k1_ k0_ h) (cwV 3 hw (goodV mw_3_232 mw_3_234 mw_s43 mw_1_11 mw_3_235) rfl rfl rfl (by decide +kernel) ⟨Nat.le_of_ble_eq_true rfl, Nat.le_of_ble_eq_true rfl⟩) rfl rfl rfl hl.1 rfl (Nat.le_of_ble_eq_true rfl) dX3_orderFor_151 ⟨Nat.zero_le _, Nat.zero_le _⟩) hP hD hS hA (fun na_5 H locs h hP hD hS => ?_)
    have hP : va_P D vwCl (List.flatten (wNight n0 aN C ns na_5 nl ++ (wRail aR C rs ra))) H := hP
    have hD : va_D A (List.flatten (wNight n0 aN C ns na_5 nl ++ (wRail aR C rs ra))) := hD
    rw [← hQ]
    exact cRetV (na_5) hx hb hr hlocks hS hP hD h dX3_orderFor_154
  have N124 : ∀ (x4_ : Int32) (na : Nat → Nat → Int32) (H : Heap) (locs : List Loc) (ls : Array Slot), P_X3_orderFor_124 ns rs ra p2 p3 post  x4_ na → va_P D vwCl (List.flatten (wNight n0 aN C ns na nl ++ (wRail aR C rs ra))) H → va_D A (List.flatten (wNight n0 aN C ns na nl ++ (wRail aR C rs ra))) → va_S A s.heap H locs → lv_has ls 9 [(0, .ref n0), (2, .int p2), (3, .int p3), (4, .int x4_)] → W p l e rmX3_orderFor s m args below meth c H locs 0 0 Q (F0 m 124 ls []) := by
    intro x4_ na H locs ls h hP hD hS hl
    refine lv_iload_n hx hb dX3_orderFor_124 rfl (lv_at hl 2 rfl) ?_
    refine lv_if_le (tgt := 154) hx hb dX3_orderFor_125 (by decide) (fun c6 => ?_) (fun c6 => ?_)
    · have h := h.1 c6
      rw [← hQ]
      exact cRetV (na) hx hb hr hlocks hS hP hD h dX3_orderFor_154
    · have h := h.2 c6
      refine lv_iload hx hb dX3_orderFor_128 (lv_at hl 3 rfl) ?_
      refine lv_iconst (v := 2) hx hb dX3_orderFor_130 (by decide) ?_
      refine lv_icmp_eq (tgt := 154) hx hb dX3_orderFor_131 (by decide) (fun c7 => ?_) (fun c7 => ?_)
      · have h := h.1 c7
        rw [← hQ]
        exact cRetV (na) hx hb hr hlocks hS hP hD h dX3_orderFor_154
      · have h := h.2 c7
        refine lv_aload_n hx hb dX3_orderFor_134 rfl (lv_at hl 0 rfl) ?_
        refine lv_iload_n hx hb dX3_orderFor_135 rfl (lv_at hl 1 rfl) ?_
        refine lv_aload_n hx hb dX3_orderFor_136 rfl (lv_at hl 0 rfl) ?_
        refine va_get (D := D) (ci := 3) (v := .int (ns 0)) (C := RX3) (T := TX3) (N := 10) hx hb hw inW_X3 hown hK hP 0 rfl rfl 8 (by decide) (hw _ mw_2_118) (fun _ h9 => h9) rfl dX3_orderFor_137 ?_
        refine lv_iload hx hb dX3_orderFor_140 (lv_at hl 3 rfl) ?_
        refine lv_if_ne (tgt := 150) hx hb dX3_orderFor_142 (by decide) (fun c8 => ?_) (fun c8 => ?_)
        · have h := h.1 c8
          refine lv_iconst (v := 0) hx hb dX3_orderFor_150 (by decide) ?_
          exact N151 0 (ns 0) p2 na _ _ _ h hP hD hS (lv_sub hl [] rfl)
        · have h := h.2 c8
          refine lv_iload_n hx hb dX3_orderFor_145 rfl (lv_at hl 2 rfl) ?_
          refine lv_ineg hx hb dX3_orderFor_146 ?_
          refine lv_goto (tgt := 151) hx hb dX3_orderFor_147 (by decide) ?_
          exact N151 (-p3) (ns 0) p2 na _ _ _ h hP hD hS (lv_sub hl [] rfl)
  have N21 : ∀ (x4_ : Int32) (n21 : Nat) (x5_ : Int32) (na : Nat → Nat → Int32) (H : Heap) (locs : List Loc) (ls : Array Slot), P_X3_orderFor_21 ns rs ra p2 p3 post (fun (x4_ : Int32) (na : Nat → Nat → Int32) => P_X3_orderFor_124 ns rs ra p2 p3 post  x4_ na) x4_ n21 x5_ na → va_P D vwCl (List.flatten (wNight n0 aN C ns na nl ++ (wRail aR C rs ra))) H → va_D A (List.flatten (wNight n0 aN C ns na nl ++ (wRail aR C rs ra))) → va_S A s.heap H locs → lv_has ls 9 [(0, .ref n0), (1, .ref (aR 0)), (2, .int p2), (3, .int p3), (4, .int x4_), (5, .int x5_)] → W p l e rmX3_orderFor s m args below meth c H locs 0 0 Q (F0 m 21 ls []) := by
    intro x4_
    intro n21
    induction n21 with
    | zero => intro x5_ na H locs ls h hP hD hS hl; exact False.elim h
    | succ n21 ih21 =>
      have N115 : ∀ (x5_ : Int32) (k0_ : Int32) (k1_ : Int32) (k2_ : Int32) (na : Nat → Nat → Int32) (H : Heap) (locs : List Loc) (ls : Array Slot), P_X3_orderFor_115 ns rs ra p2 p3 x4_ post (P_X3_orderFor_21 ns rs ra p2 p3 post (fun (x4_ : Int32) (na : Nat → Nat → Int32) => P_X3_orderFor_124 ns rs ra p2 p3 post  x4_ na) x4_ n21) x5_ k0_ k1_ k2_ na → va_P D vwCl (List.flatten (wNight n0 aN C ns na nl ++ (wRail aR C rs ra))) H → va_D A (List.flatten (wNight n0 aN C ns na nl ++ (wRail aR C rs ra))) → va_S A s.heap H locs → lv_has ls 9 [(0, .ref n0), (1, .ref (aR 0)), (2, .int p2), (3, .int p3), (4, .int x4_), (5, .int x5_)] → W p l e rmX3_orderFor s m args below meth c H locs 0 0 Q (F0 m 115 ls [.int k0_, .int k1_, .int k2_, .ref n0]) := by
        intro x5_ k0_ k1_ k2_ na H locs ls h hP hD hS hl
        refine gs_V9_30 (rs_V9_26 (As := [.int k2_, .int k1_, .int k0_]) (rest := []) ⟨hx, hb, hml, hown, hw⟩ hK hN hP hD (k_X3_putInOrder l D C _ n0 aN  ns na nl k2_ k1_ k0_ h) (cwV 3 hw (goodV mw_3_232 mw_3_234 mw_s43 mw_1_11 mw_3_235) rfl rfl rfl (by decide +kernel) ⟨Nat.le_of_ble_eq_true rfl, Nat.le_of_ble_eq_true rfl⟩) rfl rfl rfl hl.1 rfl (Nat.le_of_ble_eq_true rfl) dX3_orderFor_115 ⟨Nat.zero_le _, Nat.zero_le _⟩) hP hD hS hA (fun na_1 H locs h hP hD hS => ?_)
        have hP : va_P D vwCl (List.flatten (wNight n0 aN C ns na_1 nl ++ (wRail aR C rs ra))) H := hP
        have hD : va_D A (List.flatten (wNight n0 aN C ns na_1 nl ++ (wRail aR C rs ra))) := hD
        refine lv_iinc (v := (x5_ + 1)) (lv' := [(5, .int (x5_ + 1)), (0, .ref n0), (1, .ref (aR 0)), (2, .int p2), (3, .int p3), (4, .int x4_)]) hx hb dX3_orderFor_118 hl (k := 5) rfl rfl (by decide) rfl (fun ls hl => ?_)
        refine lv_goto (tgt := 21) hx hb dX3_orderFor_121 (by decide) ?_
        exact ih21 (x5_ + 1) na_1 _ _ _ h hP hD hS (lv_sub hl [1, 2, 3, 4, 5, 0] rfl)
      have N86 : ∀ (x5_ : Int32) (x6_ : Int32) (x7_ : Int32) (k0_ : Int32) (na : Nat → Nat → Int32) (H : Heap) (locs : List Loc) (ls : Array Slot), P_X3_orderFor_86 ns rs ra p2 p3 x4_ post (P_X3_orderFor_21 ns rs ra p2 p3 post (fun (x4_ : Int32) (na : Nat → Nat → Int32) => P_X3_orderFor_124 ns rs ra p2 p3 post  x4_ na) x4_ n21) x5_ x6_ x7_ k0_ na → va_P D vwCl (List.flatten (wNight n0 aN C ns na nl ++ (wRail aR C rs ra))) H → va_D A (List.flatten (wNight n0 aN C ns na nl ++ (wRail aR C rs ra))) → va_S A s.heap H locs → lv_has ls 9 [(0, .ref n0), (1, .ref (aR 0)), (2, .int p2), (3, .int p3), (4, .int x4_), (5, .int x5_), (6, .int x6_), (7, .int x7_)] → W p l e rmX3_orderFor s m args below meth c H locs 0 0 Q (F0 m 86 ls [.int k0_]) := by
        intro x5_ x6_ x7_ k0_ na H locs ls h hP hD hS hl
        refine lv_istore (lv' := [(8, .int k0_), (0, .ref n0), (1, .ref (aR 0)), (2, .int p2), (3, .int p3), (4, .int x4_), (5, .int x5_), (6, .int x6_), (7, .int x7_)]) hx hb dX3_orderFor_86 hl (by decide) rfl (fun ls hl => ?_)
        refine lv_iload hx hb dX3_orderFor_88 (lv_at hl 8 rfl) ?_
        refine lv_if_le (tgt := 118) hx hb dX3_orderFor_90 (by decide) (fun c2 => ?_) (fun c2 => ?_)
        · have h := h.1 c2
          refine lv_iinc (v := (x5_ + 1)) (lv' := [(5, .int (x5_ + 1)), (8, .int k0_), (0, .ref n0), (1, .ref (aR 0)), (2, .int p2), (3, .int p3), (4, .int x4_), (6, .int x6_), (7, .int x7_)]) hx hb dX3_orderFor_118 hl (k := 6) rfl rfl (by decide) rfl (fun ls hl => ?_)
          refine lv_goto (tgt := 21) hx hb dX3_orderFor_121 (by decide) ?_
          exact ih21 (x5_ + 1) na _ _ _ h hP hD hS (lv_sub hl [2, 3, 4, 5, 6, 0] rfl)
        · have h := h.2 c2
          refine lv_iload hx hb dX3_orderFor_93 (lv_at hl 0 rfl) ?_
          refine lv_if_eq (tgt := 118) hx hb dX3_orderFor_95 (by decide) (fun c3 => ?_) (fun c3 => ?_)
          · have h := h.1 c3
            refine lv_iinc (v := (x5_ + 1)) (lv' := [(5, .int (x5_ + 1)), (8, .int k0_), (0, .ref n0), (1, .ref (aR 0)), (2, .int p2), (3, .int p3), (4, .int x4_), (6, .int x6_), (7, .int x7_)]) hx hb dX3_orderFor_118 hl (k := 6) rfl rfl (by decide) rfl (fun ls hl => ?_)
            refine lv_goto (tgt := 21) hx hb dX3_orderFor_121 (by decide) ?_
            exact ih21 (x5_ + 1) na _ _ _ h hP hD hS (lv_sub hl [2, 3, 4, 5, 6, 0] rfl)
          · have h := h.2 c3
            refine lv_aload_n hx hb dX3_orderFor_98 rfl (lv_at hl 1 rfl) ?_
            refine lv_iload_n hx hb dX3_orderFor_99 rfl (lv_at hl 3 rfl) ?_
            refine lv_iload hx hb dX3_orderFor_100 (lv_at hl 6 rfl) ?_
            refine lv_iload hx hb dX3_orderFor_102 (lv_at hl 5 rfl) ?_
            refine lv_if_ne (tgt := 113) hx hb dX3_orderFor_104 (by decide) (fun c4 => ?_) (fun c4 => ?_)
            · have h := h.1 c4
              refine lv_iload hx hb dX3_orderFor_113 (lv_at hl 7 rfl) ?_
              exact N115 x5_ x6_ x5_ p2 na _ _ _ h hP hD hS (lv_sub hl [1, 2, 3, 4, 5, 6] rfl)
            · have h := h.2 c4
              refine lv_iload hx hb dX3_orderFor_107 (lv_at hl 8 rfl) ?_
              refine lv_ineg hx hb dX3_orderFor_109 ?_
              refine lv_goto (tgt := 115) hx hb dX3_orderFor_110 (by decide) ?_
              exact N115 x5_ (-x7_) x5_ p2 na _ _ _ h hP hD hS (lv_sub hl [1, 2, 3, 4, 5, 6] rfl)
      intro x5_ na H locs ls h hP hD hS hl
      refine lv_iload hx hb dX3_orderFor_21 (lv_at hl 5 rfl) ?_
      refine lv_aload_n hx hb dX3_orderFor_23 rfl (lv_at hl 1 rfl) ?_
      refine va_getN (D := D) (ci := 4) (v := .ref (aR 7)) (C := RX4) (T := TX4) (N := 16) hx hb hw inW_X4 hown hK hP 17 rfl rfl 5 (by decide) hn45 (fun _ h9 => h9) rfl dX3_orderFor_24 ?_
      refine va_getN (D := D) (ci := 0) (v := .int (rs 13)) (C := RX0) (T := TX0) (N := 6) hx hb hw inW_X0 hown hK hP 24 rfl rfl 0 (by decide) hn51 (fun _ h9 => h9) rfl dX3_orderFor_27 ?_
      refine lv_icmp_ge (tgt := 124) hx hb dX3_orderFor_30 (by decide) (fun c9 => ?_) (fun c9 => ?_)
      · have h := h.1 c9
        exact N124 x4_ na _ _ _ h hP hD hS (lv_sub hl [0, 2, 3, 4] rfl)
      · have h := h.2 c9
        refine lv_aload_n hx hb dX3_orderFor_33 rfl (lv_at hl 1 rfl) ?_
        refine lv_iload_n hx hb dX3_orderFor_34 rfl (lv_at hl 2 rfl) ?_
        refine lv_iload hx hb dX3_orderFor_35 (lv_at hl 5 rfl) ?_
        refine lv_aload_n hx hb dX3_orderFor_37 rfl (lv_at hl 0 rfl) ?_
        refine va_get (D := D) (ci := 3) (v := .ref (aN 1)) (C := RX3) (T := TX3) (N := 10) hx hb hw inW_X3 hown hK hP 0 rfl rfl 0 (by decide) (hw _ mw_2_110) (fun _ h9 => h9) rfl dX3_orderFor_38 ?_
        refine lv_iload hx hb dX3_orderFor_41 (lv_at hl 5 rfl) ?_
        refine cIald hx hb hK hP 1 0 rfl rfl x5_.toNatClampNeg rfl h.1 dX3_orderFor_43 ?_
        have h := h.2
        refine gs_I9_31 (rs_VN9_27 (As := [.int p2, .int x5_, .int (na 0 x5_.toNatClampNeg)]) (rest := []) ⟨hx, hb, hml, hown, hw⟩ hK hN hP hD (k_X4_troubleOf l D C _ aR  rs ra p2 x5_ (na 0 x5_.toNatClampNeg) h) ⟨va_cnB 3 hw (goodN mw_3_195) rfl rfl rfl (hN.m 41 rfl) (hw _ mw_1_4) (by decide +kernel) ⟨Nat.le_of_ble_eq_true rfl, Nat.le_of_ble_eq_true rfl⟩, hw _ mw_3_194, hw _ mw_s36⟩ rfl rfl rfl hl.1 rfl (Nat.le_of_ble_eq_true rfl) dX3_orderFor_44 ⟨Nat.zero_le _, Nat.zero_le _⟩) hP hD hS hA (fun r10 u H locs h hP hD hS => ?_)
        have hP : va_P D vwCl (List.flatten (wNight n0 aN C ns na nl ++ (wRail aR C rs ra))) H := hP
        have hD : va_D A (List.flatten (wNight n0 aN C ns na nl ++ (wRail aR C rs ra))) := hD
        refine lv_istore (lv' := [(6, .int r10), (0, .ref n0), (1, .ref (aR 0)), (2, .int p2), (3, .int p3), (4, .int x4_), (5, .int x5_)]) hx hb dX3_orderFor_47 hl (by decide) rfl (fun ls hl => ?_)
        refine lv_aload_n hx hb dX3_orderFor_49 rfl (lv_at hl 1 rfl) ?_
        refine va_get (D := D) (ci := 3) (v := .ref (aN 2)) (C := RX3) (T := TX3) (N := 10) hx hb hw inW_X3 hown hK hP 0 rfl rfl 1 (by decide) (hw _ mw_2_111) (fun _ h9 => h9) rfl dX3_orderFor_50 ?_
        refine lv_iload hx hb dX3_orderFor_53 (lv_at hl 6 rfl) ?_
        refine cIald hx hb hK hP 2 0 rfl rfl x5_.toNatClampNeg rfl h.1 dX3_orderFor_55 ?_
        have h := h.2
        refine lv_iload hx hb dX3_orderFor_56 (lv_at hl 0 rfl) ?_
        refine lv_isub hx hb dX3_orderFor_58 ?_
        refine lv_topi (fun x11 ex11 => ?_)
        have h := h x11 ex11
        refine lv_istore (lv' := [(7, .int x11), (6, .int r10), (0, .ref n0), (1, .ref (aR 0)), (2, .int p2), (3, .int p3), (4, .int x4_), (5, .int x5_)]) hx hb dX3_orderFor_59 hl (by decide) rfl (fun ls hl => ?_)
        refine lv_iload hx hb dX3_orderFor_61 (lv_at hl 6 rfl) ?_
        refine lv_iconst (v := 2) hx hb dX3_orderFor_63 (by decide) ?_
        refine lv_icmp_ne (tgt := 81) hx hb dX3_orderFor_64 (by decide) (fun c12 => ?_) (fun c12 => ?_)
        · have h := h.1 c12
          refine lv_iconst (v := 1) hx hb dX3_orderFor_81 (by decide) ?_
          refine lv_goto (tgt := 86) hx hb dX3_orderFor_82 (by decide) ?_
          exact N86 x5_ r10 x11 1 na _ _ _ h hP hD hS (lv_sub hl [2, 3, 4, 5, 6, 7, 1, 0] rfl)
        · have h := h.2 c12
          refine lv_iload hx hb dX3_orderFor_67 (lv_at hl 7 rfl) ?_
          refine lv_aload_n hx hb dX3_orderFor_69 rfl (lv_at hl 3 rfl) ?_
          refine va_getN (D := D) (ci := 4) (v := .ref (aR 13)) (C := RX4) (T := TX4) (N := 16) hx hb hw inW_X4 hown hK hP 17 rfl rfl 6 (by decide) hn75 (fun _ h9 => h9) rfl dX3_orderFor_70 ?_
          refine va_getN (D := D) (ci := 9) (v := .ref (aR 18)) (C := RX9) (T := TX9) (N := 6) hx hb hw inW_X9 hown hK hP 30 rfl rfl 5 (by decide) hn93 (fun _ h9 => h9) rfl dX3_orderFor_73 ?_
          refine lv_iload_n hx hb dX3_orderFor_76 rfl (lv_at hl 4 rfl) ?_
          refine cIald hx hb hK hP 35 0 rfl rfl p2.toNatClampNeg rfl h.1 dX3_orderFor_77 ?_
          have h := h.2
          refine lv_icmp_ne (tgt := 85) hx hb dX3_orderFor_78 (by decide) (fun c13 => ?_) (fun c13 => ?_)
          · have h := h.1 c13
            refine lv_iconst (v := 0) hx hb dX3_orderFor_85 (by decide) ?_
            exact N86 x5_ r10 x11 0 na _ _ _ h hP hD hS (lv_sub hl [2, 3, 4, 5, 6, 7, 1, 0] rfl)
          · have h := h.2 c13
            refine lv_iconst (v := 1) hx hb dX3_orderFor_81 (by decide) ?_
            refine lv_goto (tgt := 86) hx hb dX3_orderFor_82 (by decide) ?_
            exact N86 x5_ r10 x11 1 na _ _ _ h hP hD hS (lv_sub hl [2, 3, 4, 5, 6, 7, 1, 0] rfl)
  refine lv_aload_n hx hb dX3_orderFor_0 rfl (lv_at hl 0 rfl) ?_
  refine va_get (D := D) (ci := 3) (v := .ref (aN 4)) (C := RX3) (T := TX3) (N := 10) hx hb hw inW_X3 hown hK hP 0 rfl rfl 3 (by decide) (hw _ mw_2_113) (fun _ h9 => h9) rfl dX3_orderFor_1 ?_
  refine lv_iload_n hx hb dX3_orderFor_4 rfl (lv_at hl 2 rfl) ?_
  refine lv_iconst (v := 0) hx hb dX3_orderFor_5 (by decide) ?_
  refine cIast hx hb hK hP hD hS 4 0 rfl rfl p2.toNatClampNeg rfl h.1 dX3_orderFor_6 (fun H locs hP hD hS => ?_)
  have h := h.2
  refine lv_aload_n hx hb dX3_orderFor_7 rfl (lv_at hl 1 rfl) ?_
  refine va_getN (D := D) (ci := 4) (v := .ref (aR 13)) (C := RX4) (T := TX4) (N := 16) hx hb hw inW_X4 hown hK hP 17 rfl rfl 6 (by decide) hn75 (fun _ h9 => h9) rfl dX3_orderFor_8 ?_
  refine va_getN (D := D) (ci := 9) (v := .ref (aR 17)) (C := RX9) (T := TX9) (N := 6) hx hb hw inW_X9 hown hK hP 30 rfl rfl 4 (by decide) hn86 (fun _ h9 => h9) rfl dX3_orderFor_11 ?_
  refine lv_iload_n hx hb dX3_orderFor_14 rfl (lv_at hl 2 rfl) ?_
  refine cIald hx hb hK hP 34 0 rfl rfl p2.toNatClampNeg rfl h.1 dX3_orderFor_15 ?_
  have h := h.2
  refine lv_topi (fun x14 ex14 => ?_)
  have h := h x14 ex14
  refine lv_istore (lv' := [(4, .int x14), (0, .ref n0), (1, .ref (aR 0)), (2, .int p2), (3, .int p3)]) hx hb dX3_orderFor_16 hl (by decide) rfl (fun ls hl => ?_)
  refine lv_iconst (v := 0) hx hb dX3_orderFor_18 (by decide) ?_
  refine lv_istore (lv' := [(5, .int 0), (4, .int x14), (0, .ref n0), (1, .ref (aR 0)), (2, .int p2), (3, .int p3)]) hx hb dX3_orderFor_19 hl (by decide) rfl (fun ls hl => ?_)
  have hP : va_P D vwCl (List.flatten (wNight n0 aN C ns (va_up na 3 (upd (na 3) p2.toNatClampNeg 0)) nl ++ (wRail aR C rs ra))) H := hP
  have hD : va_D A (List.flatten (wNight n0 aN C ns (va_up na 3 (upd (na 3) p2.toNatClampNeg 0)) nl ++ (wRail aR C rs ra))) := hD
  obtain ⟨n, h⟩ := h
  exact N21 x14 n 0 (va_up na 3 (upd (na 3) p2.toNatClampNeg 0)) _ _ _ h hP hD hS (lv_sub hl [2, 3, 4, 5, 1, 0] rfl)
abbrev vsX3_lookAtBaited : List Cond := Cond.code yX3_lookAtBaited cX3_lookAtBaited 5 none :: WS
abbrev rmX3_lookAtBaited : Room := { frames := 2, cells := 0, slots := 0, locals := 53 }
set_option maxHeartbeats 4000000 in
set_option maxRecDepth 100000 in
theorem k_X3_lookAtBaited (l : Launch) (D : va_G) (C : Nat → ClassId) (sz : Nat) (n0 : Nat) (aN : Nat → Nat) (aR : Nat → Nat)  (ns : Nat → Int32) (na : Nat → Nat → Int32) (nl : Nat → Nat → Int64) (rs : Nat → Int32) (ra : Nat → Nat → Int32) (p2 : Int32) {post : (Nat → Int32) → (Nat → Nat → Int32) → Prop} (h : P_X3_lookAtBaited ns na rs ra p2 post) : Met l yX3_lookAtBaited vsX3_lookAtBaited rmX3_lookAtBaited (cPre D C [.ref n0, .ref (aR 0), .int p2] sz (wNight n0 aN C ns na nl ++ (wRail aR C rs ra))) (cQv D (fun (u : (Nat → Int32) × (Nat → Nat → Int32)) => post u.1 u.2) (fun u => wNight n0 aN C u.1 u.2 nl ++ (wRail aR C rs ra)) (va_A (List.flatten (wNight n0 aN C ns na nl ++ (wRail aR C rs ra))) sz)) 0 0 (va_A (List.flatten (wNight n0 aN C ns na nl ++ (wRail aR C rs ra))) sz) := by
  refine cStart (QA := fun A => cQv D (fun (u : (Nat → Int32) × (Nat → Nat → Int32)) => post u.1 u.2) (fun u => wNight n0 aN C u.1 u.2 nl ++ (wRail aR C rs ra)) A) (cc := cX3_lookAtBaited) (maxL := 5) (ret := none) (by decide) (Nat.le_of_ble_eq_true rfl) ?_
  intro p e s m args below meth c A ls hx hb hr hml hown hw hlocks hname hK hN hA hP hD hS hl
  generalize hQ : MQ below _ args s 0 0 A = Q
  have hl : lv_has ls 5 [(0, .ref n0), (1, .ref (aR 0)), (2, .int p2)] := hl
  have hn75 : (Cond.fieldLinkNest "LockRail$Night" 75 "LockRail$Rail" "thieves" "LLockRail$Thieves;" "LockRail").before args s = true := hN.f 62 rfl
  have hn79 : (Cond.fieldLinkNest "LockRail$Night" 79 "LockRail$Thieves" "count" "I" "LockRail").before args s = true := hN.f 33 rfl
  have hn45 : (Cond.fieldLinkNest "LockRail$Night" 45 "LockRail$Rail" "bikes" "LLockRail$Bikes;" "LockRail").before args s = true := hN.f 59 rfl
  have hn51 : (Cond.fieldLinkNest "LockRail$Night" 51 "LockRail$Bikes" "count" "I" "LockRail").before args s = true := hN.f 18 rfl
  have hn64 : (Cond.fieldLinkNest "LockRail$Night" 64 "LockRail$Bikes" "place" "[I" "LockRail").before args s = true := hN.f 26 rfl
  obtain ⟨H, hH⟩ : ∃ H, H = s.heap := ⟨_, rfl⟩
  obtain ⟨locs, hlo⟩ : ∃ z : List Loc, z = [] := ⟨_, rfl⟩
  have hP : va_P D vwCl (List.flatten (wNight n0 aN C ns na nl ++ (wRail aR C rs ra))) H := by rw [hH]; exact hP
  have hS : va_S A s.heap H locs := by rw [hH, hlo]; exact hS
  rw [show W p l e rmX3_lookAtBaited s m args below meth c s.heap [] 0 0 Q (F0 m 0 ls []) = W p l e rmX3_lookAtBaited s m args below meth c H locs 0 0 Q (F0 m 0 ls []) from by rw [hH, hlo]]
  have N78 : ∀ (ns : Nat → Int32) (n78 : Nat) (x4_ : Int32) (na : Nat → Nat → Int32) (H : Heap) (locs : List Loc) (ls : Array Slot), P_X3_lookAtBaited_78 rs ra p2 post  ns n78 x4_ na → va_P D vwCl (List.flatten (wNight n0 aN C ns na nl ++ (wRail aR C rs ra))) H → va_D A (List.flatten (wNight n0 aN C ns na nl ++ (wRail aR C rs ra))) → va_S A s.heap H locs → lv_has ls 5 [(0, .ref n0), (1, .ref (aR 0)), (2, .int p2), (4, .int x4_)] → W p l e rmX3_lookAtBaited s m args below meth c H locs 0 0 Q (F0 m 78 ls []) := by
    intro ns
    intro n78
    induction n78 with
    | zero => intro x4_ na H locs ls h hP hD hS hl; exact False.elim h
    | succ n78 ih78 =>
      intro x4_ na H locs ls h hP hD hS hl
      refine lv_iload hx hb dX3_lookAtBaited_78 (lv_at hl 3 rfl) ?_
      refine lv_aload_n hx hb dX3_lookAtBaited_80 rfl (lv_at hl 1 rfl) ?_
      refine va_getN (D := D) (ci := 4) (v := .ref (aR 13)) (C := RX4) (T := TX4) (N := 16) hx hb hw inW_X4 hown hK hP 17 rfl rfl 6 (by decide) hn75 (fun _ h9 => h9) rfl dX3_lookAtBaited_81 ?_
      refine va_getN (D := D) (ci := 9) (v := .int (rs 14)) (C := RX9) (T := TX9) (N := 6) hx hb hw inW_X9 hown hK hP 30 rfl rfl 0 (by decide) hn79 (fun _ h9 => h9) rfl dX3_lookAtBaited_84 ?_
      refine lv_icmp_ge (tgt := 104) hx hb dX3_lookAtBaited_87 (by decide) (fun c1 => ?_) (fun c1 => ?_)
      · have h := h.1 c1
        rw [← hQ]
        exact cRetV (ns, na) hx hb hr hlocks hS hP hD h dX3_lookAtBaited_104
      · have h := h.2 c1
        refine lv_aload_n hx hb dX3_lookAtBaited_90 rfl (lv_at hl 0 rfl) ?_
        refine lv_aload_n hx hb dX3_lookAtBaited_91 rfl (lv_at hl 1 rfl) ?_
        refine lv_iload hx hb dX3_lookAtBaited_92 (lv_at hl 3 rfl) ?_
        refine lv_iload_n hx hb dX3_lookAtBaited_94 rfl (lv_at hl 2 rfl) ?_
        refine cGoAV (cRunAV (As := [.ref (aR 0), .int x4_, .int p2]) (rest := []) ⟨hx, hb, hml, hown, hw⟩ hK hN hP hD (k_X3_orderFor l D C _ n0 aN aR  ns na nl rs ra x4_ p2 h) (cwV 3 hw (goodV mw_3_227 mw_3_229 mw_s42 mw_1_11 mw_3_230) rfl rfl rfl (by decide +kernel) ⟨Nat.le_of_ble_eq_true rfl, Nat.le_of_ble_eq_true rfl⟩) rfl rfl rfl hl.1 rfl (Nat.le_of_ble_eq_true rfl) dX3_lookAtBaited_95 ⟨Nat.zero_le _, Nat.zero_le _⟩) hP hD hS hA (fun na_2 H locs h hP hD hS => ?_)
        have hP : va_P D vwCl (List.flatten (wNight n0 aN C ns na_2 nl ++ (wRail aR C rs ra))) H := hP
        have hD : va_D A (List.flatten (wNight n0 aN C ns na_2 nl ++ (wRail aR C rs ra))) := hD
        refine lv_iinc (v := (x4_ + 1)) (lv' := [(4, .int (x4_ + 1)), (0, .ref n0), (1, .ref (aR 0)), (2, .int p2)]) hx hb dX3_lookAtBaited_98 hl (k := 3) rfl rfl (by decide) rfl (fun ls hl => ?_)
        refine lv_goto (tgt := 78) hx hb dX3_lookAtBaited_101 (by decide) ?_
        exact ih78 (x4_ + 1) na_2 _ _ _ h hP hD hS (lv_sub hl [1, 2, 3, 0] rfl)
  have N22 : ∀ (x3_ : Int32) (ns : Nat → Int32) (n22 : Nat) (x4_ : Int32) (na : Nat → Nat → Int32) (H : Heap) (locs : List Loc) (ls : Array Slot), P_X3_lookAtBaited_22 rs ra p2 post (fun (ns : Nat → Int32) (x4_ : Int32) (na : Nat → Nat → Int32) => ∃ n : Nat, P_X3_lookAtBaited_78 rs ra p2 post  ns n x4_ na) x3_ ns n22 x4_ na → va_P D vwCl (List.flatten (wNight n0 aN C ns na nl ++ (wRail aR C rs ra))) H → va_D A (List.flatten (wNight n0 aN C ns na nl ++ (wRail aR C rs ra))) → va_S A s.heap H locs → lv_has ls 5 [(0, .ref n0), (1, .ref (aR 0)), (2, .int p2), (3, .int x3_), (4, .int x4_)] → W p l e rmX3_lookAtBaited s m args below meth c H locs 0 0 Q (F0 m 22 ls []) := by
    intro x3_ ns
    intro n22
    induction n22 with
    | zero => intro x4_ na H locs ls h hP hD hS hl; exact False.elim h
    | succ n22 ih22 =>
      intro x4_ na H locs ls h hP hD hS hl
      refine lv_iload hx hb dX3_lookAtBaited_22 (lv_at hl 4 rfl) ?_
      refine lv_aload_n hx hb dX3_lookAtBaited_24 rfl (lv_at hl 1 rfl) ?_
      refine va_getN (D := D) (ci := 4) (v := .ref (aR 7)) (C := RX4) (T := TX4) (N := 16) hx hb hw inW_X4 hown hK hP 17 rfl rfl 5 (by decide) hn45 (fun _ h9 => h9) rfl dX3_lookAtBaited_25 ?_
      refine va_getN (D := D) (ci := 0) (v := .int (rs 13)) (C := RX0) (T := TX0) (N := 6) hx hb hw inW_X0 hown hK hP 24 rfl rfl 0 (by decide) hn51 (fun _ h9 => h9) rfl dX3_lookAtBaited_28 ?_
      refine lv_icmp_ge (tgt := 75) hx hb dX3_lookAtBaited_31 (by decide) (fun c3 => ?_) (fun c3 => ?_)
      · have h := h.1 c3
        refine lv_iconst (v := 0) hx hb dX3_lookAtBaited_75 (by decide) ?_
        refine lv_istore (lv' := [(4, .int 0), (0, .ref n0), (1, .ref (aR 0)), (2, .int p2), (3, .int x3_)]) hx hb dX3_lookAtBaited_76 hl (by decide) rfl (fun ls hl => ?_)
        obtain ⟨n, h⟩ := h
        exact N78 ns n 0 na _ _ _ h hP hD hS (lv_sub hl [1, 2, 3, 0] rfl)
      · have h := h.2 c3
        refine lv_aload_n hx hb dX3_lookAtBaited_34 rfl (lv_at hl 0 rfl) ?_
        refine va_get (D := D) (ci := 3) (v := .ref (aN 1)) (C := RX3) (T := TX3) (N := 10) hx hb hw inW_X3 hown hK hP 0 rfl rfl 0 (by decide) (hw _ mw_2_110) (fun _ h9 => h9) rfl dX3_lookAtBaited_35 ?_
        refine lv_iload hx hb dX3_lookAtBaited_38 (lv_at hl 4 rfl) ?_
        refine lv_aload_n hx hb dX3_lookAtBaited_40 rfl (lv_at hl 1 rfl) ?_
        refine lv_aload_n hx hb dX3_lookAtBaited_41 rfl (lv_at hl 1 rfl) ?_
        refine va_getN (D := D) (ci := 4) (v := .ref (aR 7)) (C := RX4) (T := TX4) (N := 16) hx hb hw inW_X4 hown hK hP 17 rfl rfl 5 (by decide) hn45 (fun _ h9 => h9) rfl dX3_lookAtBaited_42 ?_
        refine va_getN (D := D) (ci := 0) (v := .ref (aR 10)) (C := RX0) (T := TX0) (N := 6) hx hb hw inW_X0 hown hK hP 24 rfl rfl 3 (by decide) hn64 (fun _ h9 => h9) rfl dX3_lookAtBaited_45 ?_
        refine lv_iload hx hb dX3_lookAtBaited_48 (lv_at hl 4 rfl) ?_
        refine cIald hx hb hK hP 27 0 rfl rfl x4_.toNatClampNeg rfl h.1 dX3_lookAtBaited_50 ?_
        have h := h.2
        refine gs_I9_31 (rs_VN9_27 (As := [.int (ra 6 x4_.toNatClampNeg)]) (rest := [.int x4_, .ref (aN 1)]) ⟨hx, hb, hml, hown, hw⟩ hK hN hP hD (k_X4_lightOf l D C _ aR  rs ra (ra 6 x4_.toNatClampNeg) h) ⟨va_cnB 1 hw (goodN mw_3_169) rfl rfl rfl (hN.m 39 rfl) (hw _ mw_1_4) (by decide +kernel) ⟨Nat.le_of_ble_eq_true rfl, Nat.le_of_ble_eq_true rfl⟩, hw _ mw_3_168, hw _ mw_s33⟩ rfl rfl rfl hl.1 rfl (Nat.le_of_ble_eq_true rfl) dX3_lookAtBaited_51 ⟨Nat.zero_le _, Nat.zero_le _⟩) hP hD hS hA (fun r4 u H locs h hP hD hS => ?_)
        have hP : va_P D vwCl (List.flatten (wNight n0 aN C ns na nl ++ (wRail aR C rs ra))) H := hP
        have hD : va_D A (List.flatten (wNight n0 aN C ns na nl ++ (wRail aR C rs ra))) := hD
        refine cIast hx hb hK hP hD hS 1 0 rfl rfl x4_.toNatClampNeg rfl h.1 dX3_lookAtBaited_54 (fun H locs hP hD hS => ?_)
        have h := h.2
        refine lv_aload_n hx hb dX3_lookAtBaited_55 rfl (lv_at hl 0 rfl) ?_
        refine va_get (D := D) (ci := 3) (v := .ref (aN 2)) (C := RX3) (T := TX3) (N := 10) hx hb hw inW_X3 hown hK hP 0 rfl rfl 1 (by decide) (hw _ mw_2_111) (fun _ h9 => h9) rfl dX3_lookAtBaited_56 ?_
        refine lv_iload hx hb dX3_lookAtBaited_59 (lv_at hl 4 rfl) ?_
        refine lv_aload_n hx hb dX3_lookAtBaited_61 rfl (lv_at hl 1 rfl) ?_
        refine lv_iload hx hb dX3_lookAtBaited_62 (lv_at hl 4 rfl) ?_
        refine lv_iload_n hx hb dX3_lookAtBaited_64 rfl (lv_at hl 3 rfl) ?_
        have hP : va_P D vwCl (List.flatten (wNight n0 aN C ns (va_up na 0 (upd (na 0) x4_.toNatClampNeg r4)) nl ++ (wRail aR C rs ra))) H := hP
        have hD : va_D A (List.flatten (wNight n0 aN C ns (va_up na 0 (upd (na 0) x4_.toNatClampNeg r4)) nl ++ (wRail aR C rs ra))) := hD
        refine gs_I9_31 (rs_VN9_27 (As := [.int x4_, .int x3_]) (rest := [.int x4_, .ref (aN 2)]) ⟨hx, hb, hml, hown, hw⟩ hK hN hP hD (k_X4_gainOf l D C _ aR  rs ra x4_ x3_ h) ⟨va_cnB 2 hw (goodN mw_3_207) rfl rfl rfl (hN.m 40 rfl) (hw _ mw_1_4) (by decide +kernel) ⟨Nat.le_of_ble_eq_true rfl, Nat.le_of_ble_eq_true rfl⟩, hw _ mw_3_206, hw _ mw_s38⟩ rfl rfl rfl hl.1 rfl (Nat.le_of_ble_eq_true rfl) dX3_lookAtBaited_65 ⟨Nat.zero_le _, Nat.zero_le _⟩) hP hD hS hA (fun r5 u H locs h hP hD hS => ?_)
        have hP : va_P D vwCl (List.flatten (wNight n0 aN C ns (va_up na 0 (upd (na 0) x4_.toNatClampNeg r4)) nl ++ (wRail aR C rs ra))) H := hP
        have hD : va_D A (List.flatten (wNight n0 aN C ns (va_up na 0 (upd (na 0) x4_.toNatClampNeg r4)) nl ++ (wRail aR C rs ra))) := hD
        refine cIast hx hb hK hP hD hS 2 0 rfl rfl x4_.toNatClampNeg rfl h.1 dX3_lookAtBaited_68 (fun H locs hP hD hS => ?_)
        have h := h.2
        refine lv_iinc (v := (x4_ + 1)) (lv' := [(4, .int (x4_ + 1)), (0, .ref n0), (1, .ref (aR 0)), (2, .int p2), (3, .int x3_)]) hx hb dX3_lookAtBaited_69 hl (k := 4) rfl rfl (by decide) rfl (fun ls hl => ?_)
        refine lv_goto (tgt := 22) hx hb dX3_lookAtBaited_72 (by decide) ?_
        have hP : va_P D vwCl (List.flatten (wNight n0 aN C ns (va_up (va_up na 0 (upd (na 0) x4_.toNatClampNeg r4)) 1 (upd (na 1) x4_.toNatClampNeg r5)) nl ++ (wRail aR C rs ra))) H := hP
        have hD : va_D A (List.flatten (wNight n0 aN C ns (va_up (va_up na 0 (upd (na 0) x4_.toNatClampNeg r4)) 1 (upd (na 1) x4_.toNatClampNeg r5)) nl ++ (wRail aR C rs ra))) := hD
        exact ih22 (x4_ + 1) (va_up (va_up na 0 (upd (na 0) x4_.toNatClampNeg r4)) 1 (upd (na 1) x4_.toNatClampNeg r5)) _ _ _ h hP hD hS (lv_sub hl [1, 2, 3, 4, 0] rfl)
  refine lv_aload_n hx hb dX3_lookAtBaited_0 rfl (lv_at hl 0 rfl) ?_
  refine lv_aload_n hx hb dX3_lookAtBaited_1 rfl (lv_at hl 1 rfl) ?_
  refine va_getN (D := D) (ci := 4) (v := .ref (aR 7)) (C := RX4) (T := TX4) (N := 16) hx hb hw inW_X4 hown hK hP 17 rfl rfl 5 (by decide) hn45 (fun _ h9 => h9) rfl dX3_lookAtBaited_2 ?_
  refine va_getN (D := D) (ci := 0) (v := .int (rs 13)) (C := RX0) (T := TX0) (N := 6) hx hb hw inW_X0 hown hK hP 24 rfl rfl 0 (by decide) hn51 (fun _ h9 => h9) rfl dX3_lookAtBaited_5 ?_
  refine lv_topi (fun x6 ex6 => ?_)
  have h := h x6 ex6
  refine va_put (D := D) (ci := 3) (v := .int x6) (ty := .int) (C := RX3) (T := TX3) (N := 10) hx hb hw inW_X3 tyX3 tyX3_ok nmX3 hown hK hP hD hS 0 rfl rfl 8 (by decide) (hw _ mw_2_118) (fun _ h9 => h9) rfl (by decide +kernel) rfl rfl (Nat.le_of_ble_eq_true rfl) dX3_lookAtBaited_8 (fun H locs hP hD hS => ?_)
  refine lv_aload_n hx hb dX3_lookAtBaited_11 rfl (lv_at hl 1 rfl) ?_
  refine va_getN (D := D) (ci := 4) (v := .ref (aR 7)) (C := RX4) (T := TX4) (N := 16) hx hb hw inW_X4 hown hK hP 17 rfl rfl 5 (by decide) hn45 (fun _ h9 => h9) rfl dX3_lookAtBaited_12 ?_
  have hP : va_P D vwCl (List.flatten (wNight n0 aN C (va_up ns 0 x6) na nl ++ (wRail aR C rs ra))) H := hP
  have hD : va_D A (List.flatten (wNight n0 aN C (va_up ns 0 x6) na nl ++ (wRail aR C rs ra))) := hD
  refine gs_I9_32 (rs_VN9_28 (As := []) (rest := []) ⟨hx, hb, hml, hown, hw⟩ hK hN hP hD (k_X0_markedOnes l D C _ (aR 7) (aR 8) (aR 9) (aR 10) (aR 11) (aR 12)  (rs 13) (ra 4) (ra 5) (ra 6) (ra 7) (ra 8)  h) ⟨va_cnB 0 hw (goodN mw_3_203) rfl rfl rfl (hN.m 38 rfl) (hw _ mw_1_7) (by decide +kernel) ⟨Nat.le_of_ble_eq_true rfl, Nat.le_of_ble_eq_true rfl⟩, hw _ mw_3_202, hw _ mw_s37⟩ rfl rfl rfl hl.1 rfl (Nat.le_of_ble_eq_true rfl) dX3_lookAtBaited_15 ⟨Nat.zero_le _, Nat.zero_le _⟩) hP hD hS hA (fun r7 u H locs h hP hD hS => ?_)
  have hP : va_P D vwCl (List.flatten (wNight n0 aN C (va_up ns 0 x6) na nl ++ (wRail aR C rs ra))) H := hP
  have hD : va_D A (List.flatten (wNight n0 aN C (va_up ns 0 x6) na nl ++ (wRail aR C rs ra))) := hD
  refine lv_istore_n (lv' := [(3, .int r7), (0, .ref n0), (1, .ref (aR 0)), (2, .int p2)]) hx hb dX3_lookAtBaited_18 rfl hl (by decide) rfl (fun ls hl => ?_)
  refine lv_iconst (v := 0) hx hb dX3_lookAtBaited_19 (by decide) ?_
  refine lv_istore (lv' := [(4, .int 0), (3, .int r7), (0, .ref n0), (1, .ref (aR 0)), (2, .int p2)]) hx hb dX3_lookAtBaited_20 hl (by decide) rfl (fun ls hl => ?_)
  obtain ⟨n, h⟩ := h
  exact N22 r7 (va_up ns 0 x6) n 0 na _ _ _ h hP hD hS (lv_sub hl [2, 3, 4, 1, 0] rfl)
abbrev vsX3_lookAt : List Cond := Cond.code yX3_lookAt cX3_lookAt 2 none :: WS
abbrev rmX3_lookAt : Room := { frames := 3, cells := 0, slots := 0, locals := 77 }
set_option maxHeartbeats 4000000 in
set_option maxRecDepth 100000 in
theorem k_X3_lookAt (l : Launch) (D : va_G) (C : Nat → ClassId) (sz : Nat) (n0 : Nat) (aN : Nat → Nat) (aR : Nat → Nat)  (ns : Nat → Int32) (na : Nat → Nat → Int32) (nl : Nat → Nat → Int64) (rs : Nat → Int32) (ra : Nat → Nat → Int32)  {post : (Nat → Int32) → (Nat → Nat → Int32) → Prop} (h : P_X3_lookAt ns na rs ra post) : Met l yX3_lookAt vsX3_lookAt rmX3_lookAt (cPre D C [.ref n0, .ref (aR 0)] sz (wNight n0 aN C ns na nl ++ (wRail aR C rs ra))) (cQv D (fun (u : (Nat → Int32) × (Nat → Nat → Int32)) => post u.1 u.2) (fun u => wNight n0 aN C u.1 u.2 nl ++ (wRail aR C rs ra)) (va_A (List.flatten (wNight n0 aN C ns na nl ++ (wRail aR C rs ra))) sz)) 0 0 (va_A (List.flatten (wNight n0 aN C ns na nl ++ (wRail aR C rs ra))) sz) := by
  refine cStart (QA := fun A => cQv D (fun (u : (Nat → Int32) × (Nat → Nat → Int32)) => post u.1 u.2) (fun u => wNight n0 aN C u.1 u.2 nl ++ (wRail aR C rs ra)) A) (cc := cX3_lookAt) (maxL := 2) (ret := none) (by decide) (Nat.le_of_ble_eq_true rfl) ?_
  intro p e s m args below meth c A ls hx hb hr hml hown hw hlocks hname hK hN hA hP hD hS hl
  generalize hQ : MQ below _ args s 0 0 A = Q
  have hl : lv_has ls 2 [(0, .ref n0), (1, .ref (aR 0))] := hl
  obtain ⟨H, hH⟩ : ∃ H, H = s.heap := ⟨_, rfl⟩
  obtain ⟨locs, hlo⟩ : ∃ z : List Loc, z = [] := ⟨_, rfl⟩
  have hP : va_P D vwCl (List.flatten (wNight n0 aN C ns na nl ++ (wRail aR C rs ra))) H := by rw [hH]; exact hP
  have hS : va_S A s.heap H locs := by rw [hH, hlo]; exact hS
  rw [show W p l e rmX3_lookAt s m args below meth c s.heap [] 0 0 Q (F0 m 0 ls []) = W p l e rmX3_lookAt s m args below meth c H locs 0 0 Q (F0 m 0 ls []) from by rw [hH, hlo]]
  refine lv_aload_n hx hb dX3_lookAt_0 rfl (lv_at hl 0 rfl) ?_
  refine lv_aload_n hx hb dX3_lookAt_1 rfl (lv_at hl 1 rfl) ?_
  refine lv_iconst (v := 0) hx hb dX3_lookAt_2 (by decide) ?_
  refine cGoAV (cRunAV (As := [.ref (aR 0), .int 0]) (rest := []) ⟨hx, hb, hml, hown, hw⟩ hK hN hP hD (k_X3_lookAtBaited l D C _ n0 aN aR  ns na nl rs ra 0 h) (cwV 2 hw (goodV mw_3_220 mw_3_222 mw_s41 mw_1_11 mw_3_223) rfl rfl rfl (by decide +kernel) ⟨Nat.le_of_ble_eq_true rfl, Nat.le_of_ble_eq_true rfl⟩) rfl rfl rfl hl.1 rfl (Nat.le_of_ble_eq_true rfl) dX3_lookAt_3 ⟨Nat.zero_le _, Nat.zero_le _⟩) hP hD hS hA (fun u H locs h hP hD hS => ?_)
  obtain ⟨ns_1, na_2⟩ := u
  have hP : va_P D vwCl (List.flatten (wNight n0 aN C ns_1 na_2 nl ++ (wRail aR C rs ra))) H := hP
  have hD : va_D A (List.flatten (wNight n0 aN C ns_1 na_2 nl ++ (wRail aR C rs ra))) := hD
  rw [← hQ]
  exact cRetV (ns_1, na_2) hx hb hr hlocks hS hP hD h dX3_lookAt_6
abbrev vsX3_pick : List Cond := Cond.code yX3_pick cX3_pick 6 (some .int) :: WS
abbrev rmX3_pick : Room := { frames := 0, cells := 0, slots := 0, locals := 0 }
set_option maxHeartbeats 4000000 in
set_option maxRecDepth 100000 in
theorem k_X3_pick (l : Launch) (D : va_G) (C : Nat → ClassId) (sz : Nat) (n0 : Nat) (aN : Nat → Nat)  (ns : Nat → Int32) (na : Nat → Nat → Int32) (nl : Nat → Nat → Int64) (p1 : Int32) (p2 : Int32) {post : Int32 → Prop} (h : P_X3_pick na p1 p2 post) : Met l yX3_pick vsX3_pick rmX3_pick (cPre D C [.ref n0, .int p1, .int p2] sz (wNight n0 aN C ns na nl)) (cQi D (fun (r : Int32) (u : Unit) => post r ) (fun u => wNight n0 aN C ns na nl) (va_A (List.flatten (wNight n0 aN C ns na nl)) sz)) 0 0 (va_A (List.flatten (wNight n0 aN C ns na nl)) sz) := by
  refine cStart (QA := fun A => cQi D (fun (r : Int32) (u : Unit) => post r ) (fun u => wNight n0 aN C ns na nl) A) (cc := cX3_pick) (maxL := 6) (ret := (some .int)) (by decide) (Nat.le_of_ble_eq_true rfl) ?_
  intro p e s m args below meth c A ls hx hb hr hml hown hw hlocks hname hK hN hA hP hD hS hl
  generalize hQ : MQ below _ args s 0 0 A = Q
  have hl : lv_has ls 6 [(0, .ref n0), (1, .int p1), (2, .int p2)] := hl
  obtain ⟨H, hH⟩ : ∃ H, H = s.heap := ⟨_, rfl⟩
  obtain ⟨locs, hlo⟩ : ∃ z : List Loc, z = [] := ⟨_, rfl⟩
  have hP : va_P D vwCl (List.flatten (wNight n0 aN C ns na nl)) H := by rw [hH]; exact hP
  have hS : va_S A s.heap H locs := by rw [hH, hlo]; exact hS
  rw [show W p l e rmX3_pick s m args below meth c s.heap [] 0 0 Q (F0 m 0 ls []) = W p l e rmX3_pick s m args below meth c H locs 0 0 Q (F0 m 0 ls []) from by rw [hH, hlo]]
  have N8 : ∀ (x3_ : Int32) (n8 : Nat) (x4_ : Int32) (H : Heap) (locs : List Loc) (ls : Array Slot), P_X3_pick_8 na p1 p2 post  x3_ n8 x4_ → va_P D vwCl (List.flatten (wNight n0 aN C ns na nl)) H → va_D A (List.flatten (wNight n0 aN C ns na nl)) → va_S A s.heap H locs → lv_has ls 6 [(0, .ref n0), (1, .int p1), (2, .int p2), (3, .int x3_), (4, .int x4_)] → W p l e rmX3_pick s m args below meth c H locs 0 0 Q (F0 m 8 ls []) := by
    intro x3_
    intro n8
    induction n8 with
    | zero => intro x4_ H locs ls h hP hD hS hl; exact False.elim h
    | succ n8 ih8 =>
      intro x4_ H locs ls h hP hD hS hl
      refine lv_iload hx hb dX3_pick_8 (lv_at hl 4 rfl) ?_
      refine lv_aload_n hx hb dX3_pick_10 rfl (lv_at hl 0 rfl) ?_
      refine va_get (D := D) (ci := 3) (v := .ref (aN 4)) (C := RX3) (T := TX3) (N := 10) hx hb hw inW_X3 hown hK hP 0 rfl rfl 3 (by decide) (hw _ mw_2_113) (fun _ h9 => h9) rfl dX3_pick_11 ?_
      refine lv_iload_n hx hb dX3_pick_14 rfl (lv_at hl 1 rfl) ?_
      refine cIald hx hb hK hP 4 0 rfl rfl p1.toNatClampNeg rfl h.1 dX3_pick_15 ?_
      have h := h.2
      refine lv_icmp_ge (tgt := 48) hx hb dX3_pick_16 (by decide) (fun c1 => ?_) (fun c1 => ?_)
      · have h := h.1 c1
        refine lv_iconst (v := (-1)) hx hb dX3_pick_48 (by decide) ?_
        rw [← hQ]
        exact cRetI (v := (-1)) () hx hb hr hlocks hS hP hD h dX3_pick_49
      · have h := h.2 c1
        refine lv_aload_n hx hb dX3_pick_19 rfl (lv_at hl 0 rfl) ?_
        refine va_get (D := D) (ci := 3) (v := .ref (aN 3)) (C := RX3) (T := TX3) (N := 10) hx hb hw inW_X3 hown hK hP 0 rfl rfl 2 (by decide) (hw _ mw_2_112) (fun _ h9 => h9) rfl dX3_pick_20 ?_
        refine lv_iload_n hx hb dX3_pick_23 rfl (lv_at hl 3 rfl) ?_
        refine lv_iload hx hb dX3_pick_24 (lv_at hl 4 rfl) ?_
        refine lv_iadd hx hb dX3_pick_26 ?_
        refine cIald hx hb hK hP 3 0 rfl rfl ((x3_ + x4_).toNatClampNeg) rfl h.1 dX3_pick_27 ?_
        have h := h.2
        refine lv_topi (fun x2 ex2 => ?_)
        have h := h x2 ex2
        refine lv_istore (lv' := [(5, .int x2), (0, .ref n0), (1, .int p1), (2, .int p2), (3, .int x3_), (4, .int x4_)]) hx hb dX3_pick_28 hl (by decide) rfl (fun ls hl => ?_)
        refine lv_iload_n hx hb dX3_pick_30 rfl (lv_at hl 3 rfl) ?_
        refine lv_iload hx hb dX3_pick_31 (lv_at hl 0 rfl) ?_
        refine lv_ishr hx hb dX3_pick_33 ?_
        refine lv_iconst (v := 1) hx hb dX3_pick_34 (by decide) ?_
        refine lv_iand hx hb dX3_pick_35 ?_
        refine lv_if_ne (tgt := 42) hx hb dX3_pick_36 (by decide) (fun c3 => ?_) (fun c3 => ?_)
        · have h := h.1 c3
          refine lv_iinc (v := (x4_ + 1)) (lv' := [(4, .int (x4_ + 1)), (5, .int x2), (0, .ref n0), (1, .int p1), (2, .int p2), (3, .int x3_)]) hx hb dX3_pick_42 hl (k := 5) rfl rfl (by decide) rfl (fun ls hl => ?_)
          refine lv_goto (tgt := 8) hx hb dX3_pick_45 (by decide) ?_
          exact ih8 (x4_ + 1) _ _ _ h hP hD hS (lv_sub hl [2, 3, 4, 5, 0] rfl)
        · have h := h.2 c3
          refine lv_iload hx hb dX3_pick_39 (lv_at hl 0 rfl) ?_
          rw [← hQ]
          exact cRetI (v := x2) () hx hb hr hlocks hS hP hD h dX3_pick_41
  refine lv_iload_n hx hb dX3_pick_0 rfl (lv_at hl 1 rfl) ?_
  refine lv_bipush (v := 11) hx hb dX3_pick_1 (by decide) ?_
  refine lv_imul hx hb dX3_pick_3 ?_
  refine lv_topi (fun x4 ex4 => ?_)
  have h := h x4 ex4
  refine lv_istore_n (lv' := [(3, .int x4), (0, .ref n0), (1, .int p1), (2, .int p2)]) hx hb dX3_pick_4 rfl hl (by decide) rfl (fun ls hl => ?_)
  refine lv_iconst (v := 0) hx hb dX3_pick_5 (by decide) ?_
  refine lv_istore (lv' := [(4, .int 0), (3, .int x4), (0, .ref n0), (1, .int p1), (2, .int p2)]) hx hb dX3_pick_6 hl (by decide) rfl (fun ls hl => ?_)
  obtain ⟨n, h⟩ := h
  exact N8 x4 n 0 _ _ _ h hP hD hS (lv_sub hl [2, 3, 4, 1, 0] rfl)
abbrev vsX3_netOf : List Cond := Cond.code yX3_netOf cX3_netOf 4 (some .int) :: WS
abbrev rmX3_netOf : Room := { frames := 1, cells := 0, slots := 0, locals := 25 }
set_option maxHeartbeats 4000000 in
set_option maxRecDepth 100000 in
theorem k_X3_netOf (l : Launch) (D : va_G) (C : Nat → ClassId) (sz : Nat) (n0 : Nat) (aN : Nat → Nat) (aR : Nat → Nat)  (ns : Nat → Int32) (na : Nat → Nat → Int32) (nl : Nat → Nat → Int64) (rs : Nat → Int32) (ra : Nat → Nat → Int32) (p2 : Int32) (p3 : Int32) {post : Int32 → Prop} (h : P_X3_netOf na ra p2 p3 post) : Met l yX3_netOf vsX3_netOf rmX3_netOf (cPre D C [.ref n0, .ref (aR 0), .int p2, .int p3] sz (wNight n0 aN C ns na nl ++ (wRail aR C rs ra))) (cQi D (fun (r : Int32) (u : Unit) => post r ) (fun u => wNight n0 aN C ns na nl ++ (wRail aR C rs ra)) (va_A (List.flatten (wNight n0 aN C ns na nl ++ (wRail aR C rs ra))) sz)) 0 0 (va_A (List.flatten (wNight n0 aN C ns na nl ++ (wRail aR C rs ra))) sz) := by
  refine cStart (QA := fun A => cQi D (fun (r : Int32) (u : Unit) => post r ) (fun u => wNight n0 aN C ns na nl ++ (wRail aR C rs ra)) A) (cc := cX3_netOf) (maxL := 4) (ret := (some .int)) (by decide) (Nat.le_of_ble_eq_true rfl) ?_
  intro p e s m args below meth c A ls hx hb hr hml hown hw hlocks hname hK hN hA hP hD hS hl
  generalize hQ : MQ below _ args s 0 0 A = Q
  have hl : lv_has ls 4 [(0, .ref n0), (1, .ref (aR 0)), (2, .int p2), (3, .int p3)] := hl
  obtain ⟨H, hH⟩ : ∃ H, H = s.heap := ⟨_, rfl⟩
  obtain ⟨locs, hlo⟩ : ∃ z : List Loc, z = [] := ⟨_, rfl⟩
  have hP : va_P D vwCl (List.flatten (wNight n0 aN C ns na nl ++ (wRail aR C rs ra))) H := by rw [hH]; exact hP
  have hS : va_S A s.heap H locs := by rw [hH, hlo]; exact hS
  rw [show W p l e rmX3_netOf s m args below meth c s.heap [] 0 0 Q (F0 m 0 ls []) = W p l e rmX3_netOf s m args below meth c H locs 0 0 Q (F0 m 0 ls []) from by rw [hH, hlo]]
  refine lv_aload_n hx hb dX3_netOf_0 rfl (lv_at hl 0 rfl) ?_
  refine va_get (D := D) (ci := 3) (v := .ref (aN 2)) (C := RX3) (T := TX3) (N := 10) hx hb hw inW_X3 hown hK hP 0 rfl rfl 1 (by decide) (hw _ mw_2_111) (fun _ h9 => h9) rfl dX3_netOf_1 ?_
  refine lv_iload_n hx hb dX3_netOf_4 rfl (lv_at hl 3 rfl) ?_
  refine cIald hx hb hK hP 2 0 rfl rfl p3.toNatClampNeg rfl h.1 dX3_netOf_5 ?_
  have h := h.2
  refine lv_aload_n hx hb dX3_netOf_6 rfl (lv_at hl 1 rfl) ?_
  refine lv_iload_n hx hb dX3_netOf_7 rfl (lv_at hl 2 rfl) ?_
  refine lv_iload_n hx hb dX3_netOf_8 rfl (lv_at hl 3 rfl) ?_
  refine lv_aload_n hx hb dX3_netOf_9 rfl (lv_at hl 0 rfl) ?_
  refine va_get (D := D) (ci := 3) (v := .ref (aN 1)) (C := RX3) (T := TX3) (N := 10) hx hb hw inW_X3 hown hK hP 0 rfl rfl 0 (by decide) (hw _ mw_2_110) (fun _ h9 => h9) rfl dX3_netOf_10 ?_
  refine lv_iload_n hx hb dX3_netOf_13 rfl (lv_at hl 3 rfl) ?_
  refine cIald hx hb hK hP 1 0 rfl rfl p3.toNatClampNeg rfl h.1 dX3_netOf_14 ?_
  have h := h.2
  refine gs_I9_31 (rs_VN9_27 (As := [.int p2, .int p3, .int (na 0 p3.toNatClampNeg)]) (rest := [.int (na 1 p3.toNatClampNeg)]) ⟨hx, hb, hml, hown, hw⟩ hK hN hP hD (k_X4_troubleOf l D C _ aR  rs ra p2 p3 (na 0 p3.toNatClampNeg) h) ⟨va_cnB 3 hw (goodN mw_3_195) rfl rfl rfl (hN.m 41 rfl) (hw _ mw_1_4) (by decide +kernel) ⟨Nat.le_of_ble_eq_true rfl, Nat.le_of_ble_eq_true rfl⟩, hw _ mw_3_194, hw _ mw_s36⟩ rfl rfl rfl hl.1 rfl (Nat.le_of_ble_eq_true rfl) dX3_netOf_15 ⟨Nat.zero_le _, Nat.zero_le _⟩) hP hD hS hA (fun r1 u H locs h hP hD hS => ?_)
  have hP : va_P D vwCl (List.flatten (wNight n0 aN C ns na nl ++ (wRail aR C rs ra))) H := hP
  have hD : va_D A (List.flatten (wNight n0 aN C ns na nl ++ (wRail aR C rs ra))) := hD
  refine lv_isub hx hb dX3_netOf_18 ?_
  rw [← hQ]
  exact cRetI (v := ((na 1 p3.toNatClampNeg) - r1)) () hx hb hr hlocks hS hP hD h dX3_netOf_19
abbrev vsX3_wantedBy : List Cond := Cond.code yX3_wantedBy cX3_wantedBy 5 (some .int) :: WS
abbrev rmX3_wantedBy : Room := { frames := 2, cells := 0, slots := 0, locals := 48 }
set_option maxHeartbeats 4000000 in
set_option maxRecDepth 100000 in
theorem k_X3_wantedBy (l : Launch) (D : va_G) (C : Nat → ClassId) (sz : Nat) (n0 : Nat) (aN : Nat → Nat) (aR : Nat → Nat)  (ns : Nat → Int32) (na : Nat → Nat → Int32) (nl : Nat → Nat → Int64) (rs : Nat → Int32) (ra : Nat → Nat → Int32) (p2 : Int32) {post : Int32 → Prop} (h : P_X3_wantedBy na rs ra p2 post) : Met l yX3_wantedBy vsX3_wantedBy rmX3_wantedBy (cPre D C [.ref n0, .ref (aR 0), .int p2] sz (wNight n0 aN C ns na nl ++ (wRail aR C rs ra))) (cQi D (fun (r : Int32) (u : Unit) => post r ) (fun u => wNight n0 aN C ns na nl ++ (wRail aR C rs ra)) (va_A (List.flatten (wNight n0 aN C ns na nl ++ (wRail aR C rs ra))) sz)) 0 0 (va_A (List.flatten (wNight n0 aN C ns na nl ++ (wRail aR C rs ra))) sz) := by
  refine cStart (QA := fun A => cQi D (fun (r : Int32) (u : Unit) => post r ) (fun u => wNight n0 aN C ns na nl ++ (wRail aR C rs ra)) A) (cc := cX3_wantedBy) (maxL := 5) (ret := (some .int)) (by decide) (Nat.le_of_ble_eq_true rfl) ?_
  intro p e s m args below meth c A ls hx hb hr hml hown hw hlocks hname hK hN hA hP hD hS hl
  generalize hQ : MQ below _ args s 0 0 A = Q
  have hl : lv_has ls 5 [(0, .ref n0), (1, .ref (aR 0)), (2, .int p2)] := hl
  have hn45 : (Cond.fieldLinkNest "LockRail$Night" 45 "LockRail$Rail" "bikes" "LLockRail$Bikes;" "LockRail").before args s = true := hN.f 59 rfl
  have hn51 : (Cond.fieldLinkNest "LockRail$Night" 51 "LockRail$Bikes" "count" "I" "LockRail").before args s = true := hN.f 18 rfl
  obtain ⟨H, hH⟩ : ∃ H, H = s.heap := ⟨_, rfl⟩
  obtain ⟨locs, hlo⟩ : ∃ z : List Loc, z = [] := ⟨_, rfl⟩
  have hP : va_P D vwCl (List.flatten (wNight n0 aN C ns na nl ++ (wRail aR C rs ra))) H := by rw [hH]; exact hP
  have hS : va_S A s.heap H locs := by rw [hH, hlo]; exact hS
  rw [show W p l e rmX3_wantedBy s m args below meth c s.heap [] 0 0 Q (F0 m 0 ls []) = W p l e rmX3_wantedBy s m args below meth c H locs 0 0 Q (F0 m 0 ls []) from by rw [hH, hlo]]
  have N5 : ∀  (n5 : Nat) (x3_ : Int32) (x4_ : Int32) (H : Heap) (locs : List Loc) (ls : Array Slot), P_X3_wantedBy_5 na rs ra p2 post   n5 x3_ x4_ → va_P D vwCl (List.flatten (wNight n0 aN C ns na nl ++ (wRail aR C rs ra))) H → va_D A (List.flatten (wNight n0 aN C ns na nl ++ (wRail aR C rs ra))) → va_S A s.heap H locs → lv_has ls 5 [(0, .ref n0), (1, .ref (aR 0)), (2, .int p2), (3, .int x3_), (4, .int x4_)] → W p l e rmX3_wantedBy s m args below meth c H locs 0 0 Q (F0 m 5 ls []) := by
    intro n5
    induction n5 with
    | zero => intro x3_ x4_ H locs ls h hP hD hS hl; exact False.elim h
    | succ n5 ih5 =>
      intro x3_ x4_ H locs ls h hP hD hS hl
      refine lv_iload hx hb dX3_wantedBy_5 (lv_at hl 4 rfl) ?_
      refine lv_aload_n hx hb dX3_wantedBy_7 rfl (lv_at hl 1 rfl) ?_
      refine va_getN (D := D) (ci := 4) (v := .ref (aR 7)) (C := RX4) (T := TX4) (N := 16) hx hb hw inW_X4 hown hK hP 17 rfl rfl 5 (by decide) hn45 (fun _ h9 => h9) rfl dX3_wantedBy_8 ?_
      refine va_getN (D := D) (ci := 0) (v := .int (rs 13)) (C := RX0) (T := TX0) (N := 6) hx hb hw inW_X0 hown hK hP 24 rfl rfl 0 (by decide) hn51 (fun _ h9 => h9) rfl dX3_wantedBy_11 ?_
      refine lv_icmp_ge (tgt := 37) hx hb dX3_wantedBy_14 (by decide) (fun c1 => ?_) (fun c1 => ?_)
      · have h := h.1 c1
        refine lv_iload_n hx hb dX3_wantedBy_37 rfl (lv_at hl 3 rfl) ?_
        rw [← hQ]
        exact cRetI (v := x3_) () hx hb hr hlocks hS hP hD h dX3_wantedBy_38
      · have h := h.2 c1
        refine lv_aload_n hx hb dX3_wantedBy_17 rfl (lv_at hl 0 rfl) ?_
        refine lv_aload_n hx hb dX3_wantedBy_18 rfl (lv_at hl 1 rfl) ?_
        refine lv_iload_n hx hb dX3_wantedBy_19 rfl (lv_at hl 2 rfl) ?_
        refine lv_iload hx hb dX3_wantedBy_20 (lv_at hl 4 rfl) ?_
        refine cGoAI (cRunAV (As := [.ref (aR 0), .int p2, .int x4_]) (rest := []) ⟨hx, hb, hml, hown, hw⟩ hK hN hP hD (k_X3_netOf l D C _ n0 aN aR  ns na nl rs ra p2 x4_ h) (cwV 3 hw (goodV mw_4_8 mw_4_10 mw_s46 mw_1_11 mw_4_11) rfl rfl rfl (by decide +kernel) ⟨Nat.le_of_ble_eq_true rfl, Nat.le_of_ble_eq_true rfl⟩) rfl rfl rfl hl.1 rfl (Nat.le_of_ble_eq_true rfl) dX3_wantedBy_22 ⟨Nat.zero_le _, Nat.zero_le _⟩) hP hD hS hA (fun r2 u H locs h hP hD hS => ?_)
        have hP : va_P D vwCl (List.flatten (wNight n0 aN C ns na nl ++ (wRail aR C rs ra))) H := hP
        have hD : va_D A (List.flatten (wNight n0 aN C ns na nl ++ (wRail aR C rs ra))) := hD
        refine lv_if_le (tgt := 31) hx hb dX3_wantedBy_25 (by decide) (fun c3 => ?_) (fun c3 => ?_)
        · have h := h.1 c3
          refine lv_iinc (v := (x4_ + 1)) (lv' := [(4, .int (x4_ + 1)), (0, .ref n0), (1, .ref (aR 0)), (2, .int p2), (3, .int x3_)]) hx hb dX3_wantedBy_31 hl (k := 4) rfl rfl (by decide) rfl (fun ls hl => ?_)
          refine lv_goto (tgt := 5) hx hb dX3_wantedBy_34 (by decide) ?_
          exact ih5 x3_ (x4_ + 1) _ _ _ h hP hD hS (lv_sub hl [1, 2, 3, 4, 0] rfl)
        · have h := h.2 c3
          refine lv_iinc (v := (x3_ + 1)) (lv' := [(3, .int (x3_ + 1)), (0, .ref n0), (1, .ref (aR 0)), (2, .int p2), (4, .int x4_)]) hx hb dX3_wantedBy_28 hl (k := 3) rfl rfl (by decide) rfl (fun ls hl => ?_)
          refine lv_iinc (v := (x4_ + 1)) (lv' := [(4, .int (x4_ + 1)), (3, .int (x3_ + 1)), (0, .ref n0), (1, .ref (aR 0)), (2, .int p2)]) hx hb dX3_wantedBy_31 hl (k := 4) rfl rfl (by decide) rfl (fun ls hl => ?_)
          refine lv_goto (tgt := 5) hx hb dX3_wantedBy_34 (by decide) ?_
          exact ih5 (x3_ + 1) (x4_ + 1) _ _ _ h hP hD hS (lv_sub hl [2, 3, 4, 1, 0] rfl)
  refine lv_iconst (v := 0) hx hb dX3_wantedBy_0 (by decide) ?_
  refine lv_istore_n (lv' := [(3, .int 0), (0, .ref n0), (1, .ref (aR 0)), (2, .int p2)]) hx hb dX3_wantedBy_1 rfl hl (by decide) rfl (fun ls hl => ?_)
  refine lv_iconst (v := 0) hx hb dX3_wantedBy_2 (by decide) ?_
  refine lv_istore (lv' := [(4, .int 0), (3, .int 0), (0, .ref n0), (1, .ref (aR 0)), (2, .int p2)]) hx hb dX3_wantedBy_3 hl (by decide) rfl (fun ls hl => ?_)
  obtain ⟨n, h⟩ := h
  exact N5  n 0 0 _ _ _ h hP hD hS (lv_sub hl [2, 3, 4, 1, 0] rfl)
abbrev vsX3_begin : List Cond := Cond.code yX3_begin cX3_begin 2 none :: WS
abbrev rmX3_begin : Room := { frames := 1, cells := 0, slots := 0, locals := 26 }
set_option maxHeartbeats 4000000 in
set_option maxRecDepth 100000 in
theorem k_X3_begin (l : Launch) (D : va_G) (C : Nat → ClassId) (sz : Nat) (n0 : Nat) (aN : Nat → Nat)  (ns : Nat → Int32) (na : Nat → Nat → Int32) (nl : Nat → Nat → Int64)  {post : (Nat → Int32) → (Nat → Nat → Int32) → (Nat → Nat → Int64) → Prop} (h : P_X3_begin ns na nl post) : Met l yX3_begin vsX3_begin rmX3_begin (cPre D C [.ref n0] sz (wNight n0 aN C ns na nl)) (cQv D (fun (u : (Nat → Int32) × (Nat → Nat → Int32) × (Nat → Nat → Int64)) => post u.1 u.2.1 u.2.2) (fun u => wNight n0 aN C u.1 u.2.1 u.2.2) (va_A (List.flatten (wNight n0 aN C ns na nl)) sz)) 0 0 (va_A (List.flatten (wNight n0 aN C ns na nl)) sz) := by
  refine cStart (QA := fun A => cQv D (fun (u : (Nat → Int32) × (Nat → Nat → Int32) × (Nat → Nat → Int64)) => post u.1 u.2.1 u.2.2) (fun u => wNight n0 aN C u.1 u.2.1 u.2.2) A) (cc := cX3_begin) (maxL := 2) (ret := none) (by decide) (Nat.le_of_ble_eq_true rfl) ?_
  intro p e s m args below meth c A ls hx hb hr hml hown hw hlocks hname hK hN hA hP hD hS hl
  generalize hQ : MQ below _ args s 0 0 A = Q
  have hl : lv_has ls 2 [(0, .ref n0)] := hl
  obtain ⟨H, hH⟩ : ∃ H, H = s.heap := ⟨_, rfl⟩
  obtain ⟨locs, hlo⟩ : ∃ z : List Loc, z = [] := ⟨_, rfl⟩
  have hP : va_P D vwCl (List.flatten (wNight n0 aN C ns na nl)) H := by rw [hH]; exact hP
  have hS : va_S A s.heap H locs := by rw [hH, hlo]; exact hS
  rw [show W p l e rmX3_begin s m args below meth c s.heap [] 0 0 Q (F0 m 0 ls []) = W p l e rmX3_begin s m args below meth c H locs 0 0 Q (F0 m 0 ls []) from by rw [hH, hlo]]
  have N24 : ∀ (ns : Nat → Int32) (na : Nat → Nat → Int32) (nl : Nat → Nat → Int64) (H : Heap) (locs : List Loc) (ls : Array Slot), P_X3_begin_24  post  ns na nl → va_P D vwCl (List.flatten (wNight n0 aN C ns na nl)) H → va_D A (List.flatten (wNight n0 aN C ns na nl)) → va_S A s.heap H locs → lv_has ls 2 [(0, .ref n0)] → W p l e rmX3_begin s m args below meth c H locs 0 0 Q (F0 m 24 ls []) := by
    intro ns na nl H locs ls h hP hD hS hl
    refine lv_aload_n hx hb dX3_begin_24 rfl (lv_at hl 0 rfl) ?_
    refine va_get (D := D) (ci := 3) (v := .ref (aN 7)) (C := RX3) (T := TX3) (N := 10) hx hb hw inW_X3 hown hK hP 0 rfl rfl 6 (by decide) (hw _ mw_2_116) (fun _ h9 => h9) rfl dX3_begin_25 ?_
    refine cGoV (wo := fun u => wNight n0 aN C (va_up ns 2 u.1) (va_up na 7 u.2) nl) (cRunVN (As := []) (rest := []) ⟨hx, hb, hml, hown, hw⟩ hK hN hP hD [1] rfl rfl (k_X7_wipe l D C _ (aN 7) (aN 8) (aN 9) (aN 10) (aN 11)  (ns 2) (na 5) (nl 1) (na 6) (na 7)  h) ⟨va_cnB 0 hw (goodN mw_4_32) rfl rfl rfl (hN.m 46 rfl) (hw _ mw_1_12) (by decide +kernel) ⟨Nat.le_of_ble_eq_true rfl, Nat.le_of_ble_eq_true rfl⟩, hw _ mw_4_31, hw _ mw_s50⟩ rfl rfl rfl hl.1 rfl (Nat.le_of_ble_eq_true rfl) dX3_begin_28 ⟨Nat.zero_le _, Nat.zero_le _⟩) hP hD hS hA [1] [0, 2] [0, 2, 1] rfl rfl rfl (by decide) rfl (fun _ => rfl) (fun u H locs h hP hD hS => ?_)
    obtain ⟨siz_1, tab_2⟩ := u
    have hP : va_P D vwCl (List.flatten (wNight n0 aN C (va_up ns 2 siz_1) (va_up na 7 tab_2) nl)) H := hP
    have hD : va_D A (List.flatten (wNight n0 aN C (va_up ns 2 siz_1) (va_up na 7 tab_2) nl)) := hD
    refine lv_aload_n hx hb dX3_begin_31 rfl (lv_at hl 0 rfl) ?_
    refine va_get (D := D) (ci := 3) (v := .ref (aN 7)) (C := RX3) (T := TX3) (N := 10) hx hb hw inW_X3 hown hK hP 0 rfl rfl 6 (by decide) (hw _ mw_2_116) (fun _ h9 => h9) rfl dX3_begin_32 ?_
    refine lv_iconst (v := 0) hx hb dX3_begin_35 (by decide) ?_
    refine lv_ldc2 (v := 1000000000000) hx hb hown (hw _ mw_4_33) dX3_begin_36 ?_
    refine cGoV (wo := fun u => wNight n0 aN C (va_up ns 2 u.1) (va_up (va_up (va_up na 5 u.2.1) 6 u.2.2.2.1) 7 u.2.2.2.2) (va_up nl 1 u.2.2.1)) (cRunVN (As := [.int 0, .long 1000000000000]) (rest := []) ⟨hx, hb, hml, hown, hw⟩ hK hN hP hD [1] rfl rfl (k_X7_put l D C _ (aN 7) (aN 8) (aN 9) (aN 10) (aN 11)  siz_1 (na 5) (nl 1) (na 6) tab_2 0 1000000000000 h) ⟨va_cnB 2 hw (goodN mw_4_37) rfl rfl rfl (hN.m 47 rfl) (hw _ mw_1_12) (by decide +kernel) ⟨Nat.le_of_ble_eq_true rfl, Nat.le_of_ble_eq_true rfl⟩, hw _ mw_4_36, hw _ mw_s51⟩ rfl rfl rfl hl.1 rfl (Nat.le_of_ble_eq_true rfl) dX3_begin_39 ⟨Nat.zero_le _, Nat.zero_le _⟩) hP hD hS hA [1] [0, 2] [0, 2, 1] rfl rfl rfl (by decide) rfl (fun _ => rfl) (fun u H locs h hP hD hS => ?_)
    obtain ⟨siz_3, sta_4, par_5, slo_6, tab_7⟩ := u
    have hP : va_P D vwCl (List.flatten (wNight n0 aN C (va_up ns 2 siz_3) (va_up (va_up (va_up na 5 sta_4) 6 slo_6) 7 tab_7) (va_up nl 1 par_5))) H := hP
    have hD : va_D A (List.flatten (wNight n0 aN C (va_up ns 2 siz_3) (va_up (va_up (va_up na 5 sta_4) 6 slo_6) 7 tab_7) (va_up nl 1 par_5))) := hD
    rw [← hQ]
    exact cRetV ((va_up ns 2 siz_3), (va_up (va_up (va_up na 5 sta_4) 6 slo_6) 7 tab_7), (va_up nl 1 par_5)) hx hb hr hlocks hS hP hD h dX3_begin_42
  have N2 : ∀ (ns : Nat → Int32) (na : Nat → Nat → Int32) (n2 : Nat) (x1_ : Int32) (nl : Nat → Nat → Int64) (H : Heap) (locs : List Loc) (ls : Array Slot), P_X3_begin_2  post (fun (ns : Nat → Int32) (na : Nat → Nat → Int32) (nl : Nat → Nat → Int64) => P_X3_begin_24  post  ns na nl) ns na n2 x1_ nl → va_P D vwCl (List.flatten (wNight n0 aN C ns na nl)) H → va_D A (List.flatten (wNight n0 aN C ns na nl)) → va_S A s.heap H locs → lv_has ls 2 [(0, .ref n0), (1, .int x1_)] → W p l e rmX3_begin s m args below meth c H locs 0 0 Q (F0 m 2 ls []) := by
    intro ns na
    intro n2
    induction n2 with
    | zero => intro x1_ nl H locs ls h hP hD hS hl; exact False.elim h
    | succ n2 ih2 =>
      intro x1_ nl H locs ls h hP hD hS hl
      refine lv_iload_n hx hb dX3_begin_2 rfl (lv_at hl 1 rfl) ?_
      refine lv_aload_n hx hb dX3_begin_3 rfl (lv_at hl 0 rfl) ?_
      refine va_get (D := D) (ci := 3) (v := .ref (aN 6)) (C := RX3) (T := TX3) (N := 10) hx hb hw inW_X3 hown hK hP 0 rfl rfl 5 (by decide) (hw _ mw_2_115) (fun _ h9 => h9) rfl dX3_begin_4 ?_
      refine va_alen (v := 60) hx hb hK hP 6 1 rfl rfl rfl dX3_begin_7 ?_
      refine lv_icmp_ge (tgt := 24) hx hb dX3_begin_8 (by decide) (fun c8 => ?_) (fun c8 => ?_)
      · have h := h.1 c8
        exact N24 ns na nl _ _ _ h hP hD hS (lv_sub hl [0] rfl)
      · have h := h.2 c8
        refine lv_aload_n hx hb dX3_begin_11 rfl (lv_at hl 0 rfl) ?_
        refine va_get (D := D) (ci := 3) (v := .ref (aN 6)) (C := RX3) (T := TX3) (N := 10) hx hb hw inW_X3 hown hK hP 0 rfl rfl 5 (by decide) (hw _ mw_2_115) (fun _ h9 => h9) rfl dX3_begin_12 ?_
        refine lv_iload_n hx hb dX3_begin_15 rfl (lv_at hl 1 rfl) ?_
        refine lv_lconst (v := 0) hx hb dX3_begin_16 (by decide) ?_
        refine cLast hx hb hK hP hD hS 6 1 rfl rfl x1_.toNatClampNeg rfl h.1 dX3_begin_17 (fun H locs hP hD hS => ?_)
        have h := h.2
        refine lv_iinc (v := (x1_ + 1)) (lv' := [(1, .int (x1_ + 1)), (0, .ref n0)]) hx hb dX3_begin_18 hl (k := 1) rfl rfl (by decide) rfl (fun ls hl => ?_)
        refine lv_goto (tgt := 2) hx hb dX3_begin_21 (by decide) ?_
        have hP : va_P D vwCl (List.flatten (wNight n0 aN C ns na (va_up nl 0 (vp_updL (nl 0) x1_.toNatClampNeg 0)))) H := hP
        have hD : va_D A (List.flatten (wNight n0 aN C ns na (va_up nl 0 (vp_updL (nl 0) x1_.toNatClampNeg 0)))) := hD
        exact ih2 (x1_ + 1) (va_up nl 0 (vp_updL (nl 0) x1_.toNatClampNeg 0)) _ _ _ h hP hD hS (lv_sub hl [1, 0] rfl)
  refine lv_iconst (v := 0) hx hb dX3_begin_0 (by decide) ?_
  refine lv_istore_n (lv' := [(1, .int 0), (0, .ref n0)]) hx hb dX3_begin_1 rfl hl (by decide) rfl (fun ls hl => ?_)
  obtain ⟨n, h⟩ := h
  exact N2 ns na n 0 nl _ _ _ h hP hD hS (lv_sub hl [1, 0] rfl)
abbrev vsX3_caughtBit : List Cond := Cond.code yX3_caughtBit cX3_caughtBit 1 (some .int) :: WS
abbrev rmX3_caughtBit : Room := { frames := 0, cells := 0, slots := 0, locals := 0 }
set_option maxHeartbeats 4000000 in
set_option maxRecDepth 100000 in
theorem k_X3_caughtBit (l : Launch) (D : va_G) (C : Nat → ClassId) (sz : Nat)    (p1 : Int32) {post : Int32 → Prop} (h : P_X3_caughtBit p1 post) : Met l yX3_caughtBit vsX3_caughtBit rmX3_caughtBit (cPre D C [.int p1] sz (([] : List va_W))) (cQi D (fun (r : Int32) (u : Unit) => post r ) (fun u => ([] : List va_W)) (va_A (List.flatten (([] : List va_W))) sz)) 0 0 (va_A (List.flatten (([] : List va_W))) sz) := by
  refine cStart (QA := fun A => cQi D (fun (r : Int32) (u : Unit) => post r ) (fun u => ([] : List va_W)) A) (cc := cX3_caughtBit) (maxL := 1) (ret := (some .int)) (by decide) (Nat.le_of_ble_eq_true rfl) ?_
  intro p e s m args below meth c A ls hx hb hr hml hown hw hlocks hname hK hN hA hP hD hS hl
  generalize hQ : MQ below _ args s 0 0 A = Q
  have hl : lv_has ls 1 [(0, .int p1)] := hl
  obtain ⟨H, hH⟩ : ∃ H, H = s.heap := ⟨_, rfl⟩
  obtain ⟨locs, hlo⟩ : ∃ z : List Loc, z = [] := ⟨_, rfl⟩
  have hP : va_P D vwCl (List.flatten (([] : List va_W))) H := by rw [hH]; exact hP
  have hS : va_S A s.heap H locs := by rw [hH, hlo]; exact hS
  rw [show W p l e rmX3_caughtBit s m args below meth c s.heap [] 0 0 Q (F0 m 0 ls []) = W p l e rmX3_caughtBit s m args below meth c H locs 0 0 Q (F0 m 0 ls []) from by rw [hH, hlo]]
  refine lv_iconst (v := 1) hx hb dX3_caughtBit_0 (by decide) ?_
  refine lv_bipush (v := 11) hx hb dX3_caughtBit_1 (by decide) ?_
  refine lv_iload_n hx hb dX3_caughtBit_3 rfl (lv_at hl 0 rfl) ?_
  refine lv_iadd hx hb dX3_caughtBit_4 ?_
  refine lv_ishl hx hb dX3_caughtBit_5 ?_
  rw [← hQ]
  exact cRetI (v := ((1 : Int32) <<< ((11 + p1) &&& 31))) () hx hb hr hlocks hS hP hD h dX3_caughtBit_6
abbrev vsX3_isCaught : List Cond := Cond.code yX3_isCaught cX3_isCaught 2 (some .boolean) :: WS
abbrev rmX3_isCaught : Room := { frames := 1, cells := 0, slots := 0, locals := 20 }
set_option maxHeartbeats 4000000 in
set_option maxRecDepth 100000 in
theorem k_X3_isCaught (l : Launch) (D : va_G) (C : Nat → ClassId) (sz : Nat)    (p1 : Int32) (p2 : Int32) {post : Int32 → Prop} (h : P_X3_isCaught p1 p2 post) : Met l yX3_isCaught vsX3_isCaught rmX3_isCaught (cPre D C [.int p1, .int p2] sz (([] : List va_W))) (cQi D (fun (r : Int32) (u : Unit) => post r ) (fun u => ([] : List va_W)) (va_A (List.flatten (([] : List va_W))) sz)) 0 0 (va_A (List.flatten (([] : List va_W))) sz) := by
  refine cStart (QA := fun A => cQi D (fun (r : Int32) (u : Unit) => post r ) (fun u => ([] : List va_W)) A) (cc := cX3_isCaught) (maxL := 2) (ret := (some .boolean)) (by decide) (Nat.le_of_ble_eq_true rfl) ?_
  intro p e s m args below meth c A ls hx hb hr hml hown hw hlocks hname hK hN hA hP hD hS hl
  generalize hQ : MQ below _ args s 0 0 A = Q
  have hl : lv_has ls 2 [(0, .int p1), (1, .int p2)] := hl
  obtain ⟨H, hH⟩ : ∃ H, H = s.heap := ⟨_, rfl⟩
  obtain ⟨locs, hlo⟩ : ∃ z : List Loc, z = [] := ⟨_, rfl⟩
  have hP : va_P D vwCl (List.flatten (([] : List va_W))) H := by rw [hH]; exact hP
  have hS : va_S A s.heap H locs := by rw [hH, hlo]; exact hS
  rw [show W p l e rmX3_isCaught s m args below meth c s.heap [] 0 0 Q (F0 m 0 ls []) = W p l e rmX3_isCaught s m args below meth c H locs 0 0 Q (F0 m 0 ls []) from by rw [hH, hlo]]
  refine lv_iload_n hx hb dX3_isCaught_0 rfl (lv_at hl 0 rfl) ?_
  refine lv_iload_n hx hb dX3_isCaught_1 rfl (lv_at hl 1 rfl) ?_
  refine cGoI (wo := fun u => ([] : List va_W)) (cRunS (As := [.int p2]) (rest := [.int p1]) ⟨hx, hb, hml, hown, hw⟩ hK hN hP hD [] rfl rfl (k_X3_caughtBit l D C _    p2 h) (va_cwS 1 hw (goodS mw_4_46 mw_4_47 mw_1_11 mw_4_48) rfl rfl rfl (by decide +kernel) ⟨Nat.le_of_ble_eq_true rfl, Nat.le_of_ble_eq_true rfl⟩) rfl hl.1 rfl (Nat.le_of_ble_eq_true rfl) dX3_isCaught_2 ⟨Nat.zero_le _, Nat.zero_le _⟩) hP hD hS hA [] [] [] rfl rfl rfl (by decide) rfl (fun _ => rfl) (fun r1 u H locs h hP hD hS => ?_)
  have hP : va_P D vwCl (List.flatten (([] : List va_W))) H := hP
  have hD : va_D A (List.flatten (([] : List va_W))) := hD
  refine lv_iand hx hb dX3_isCaught_5 ?_
  refine lv_if_eq (tgt := 13) hx hb dX3_isCaught_6 (by decide) (fun c2 => ?_) (fun c2 => ?_)
  · have h := h.1 c2
    refine lv_iconst (v := 0) hx hb dX3_isCaught_13 (by decide) ?_
    rw [← hQ]
    exact cRetZ (v := 0) () hx hb hr hlocks hS hP hD (Or.inl rfl) h dX3_isCaught_14
  · have h := h.2 c2
    refine lv_iconst (v := 1) hx hb dX3_isCaught_9 (by decide) ?_
    refine lv_goto (tgt := 14) hx hb dX3_isCaught_10 (by decide) ?_
    rw [← hQ]
    exact cRetZ (v := 1) () hx hb hr hlocks hS hP hD (Or.inr rfl) h dX3_isCaught_14
abbrev vsX3_letTake : List Cond := Cond.code yX3_letTake cX3_letTake 9 none :: WS
abbrev rmX3_letTake : Room := { frames := 1, cells := 0, slots := 0, locals := 26 }
set_option maxHeartbeats 4000000 in
set_option maxRecDepth 100000 in
theorem k_X3_letTake (l : Launch) (D : va_G) (C : Nat → ClassId) (sz : Nat) (n0 : Nat) (aN : Nat → Nat)  (ns : Nat → Int32) (na : Nat → Nat → Int32) (nl : Nat → Nat → Int64) (p1 : Int32) (p2 : Int32) (p3 : Int32) (p4 : Int64) {post : (Nat → Int32) → (Nat → Nat → Int32) → (Nat → Nat → Int64) → Prop} (h : P_X3_letTake ns na nl p1 p2 p3 p4 post) : Met l yX3_letTake vsX3_letTake rmX3_letTake (cPre D C [.ref n0, .int p1, .int p2, .int p3, .long p4] sz (wNight n0 aN C ns na nl)) (cQv D (fun (u : (Nat → Int32) × (Nat → Nat → Int32) × (Nat → Nat → Int64)) => post u.1 u.2.1 u.2.2) (fun u => wNight n0 aN C u.1 u.2.1 u.2.2) (va_A (List.flatten (wNight n0 aN C ns na nl)) sz)) 0 0 (va_A (List.flatten (wNight n0 aN C ns na nl)) sz) := by
  refine cStart (QA := fun A => cQv D (fun (u : (Nat → Int32) × (Nat → Nat → Int32) × (Nat → Nat → Int64)) => post u.1 u.2.1 u.2.2) (fun u => wNight n0 aN C u.1 u.2.1 u.2.2) A) (cc := cX3_letTake) (maxL := 9) (ret := none) (by decide) (Nat.le_of_ble_eq_true rfl) ?_
  intro p e s m args below meth c A ls hx hb hr hml hown hw hlocks hname hK hN hA hP hD hS hl
  generalize hQ : MQ below _ args s 0 0 A = Q
  have hl : lv_has ls 9 [(0, .ref n0), (1, .int p1), (2, .int p2), (3, .int p3), (4, .long p4)] := hl
  obtain ⟨H, hH⟩ : ∃ H, H = s.heap := ⟨_, rfl⟩
  obtain ⟨locs, hlo⟩ : ∃ z : List Loc, z = [] := ⟨_, rfl⟩
  have hP : va_P D vwCl (List.flatten (wNight n0 aN C ns na nl)) H := by rw [hH]; exact hP
  have hS : va_S A s.heap H locs := by rw [hH, hlo]; exact hS
  rw [show W p l e rmX3_letTake s m args below meth c s.heap [] 0 0 Q (F0 m 0 ls []) = W p l e rmX3_letTake s m args below meth c H locs 0 0 Q (F0 m 0 ls []) from by rw [hH, hlo]]
  refine lv_iload_n hx hb dX3_letTake_0 rfl (lv_at hl 1 rfl) ?_
  refine lv_iconst (v := 1) hx hb dX3_letTake_1 (by decide) ?_
  refine lv_iload_n hx hb dX3_letTake_2 rfl (lv_at hl 3 rfl) ?_
  refine lv_ishl hx hb dX3_letTake_3 ?_
  refine lv_ior hx hb dX3_letTake_4 ?_
  refine lv_topi (fun x1 ex1 => ?_)
  have h := h x1 ex1
  refine lv_istore (lv' := [(6, .int x1), (0, .ref n0), (1, .int p1), (2, .int p2), (3, .int p3), (4, .long p4)]) hx hb dX3_letTake_5 hl (by decide) rfl (fun ls hl => ?_)
  refine lv_iload_n hx hb dX3_letTake_7 rfl (lv_at hl 4 rfl) ?_
  refine lv_aload_n hx hb dX3_letTake_8 rfl (lv_at hl 1 rfl) ?_
  refine va_get (D := D) (ci := 3) (v := .int (ns 0)) (C := RX3) (T := TX3) (N := 10) hx hb hw inW_X3 hown hK hP 0 rfl rfl 8 (by decide) (hw _ mw_2_118) (fun _ h9 => h9) rfl dX3_letTake_9 ?_
  refine lv_icmp_ne (tgt := 62) hx hb dX3_letTake_12 (by decide) (fun c2 => ?_) (fun c2 => ?_)
  · have h := h.1 c2
    refine lv_aload_n hx hb dX3_letTake_62 rfl (lv_at hl 1 rfl) ?_
    refine va_get (D := D) (ci := 3) (v := .ref (aN 6)) (C := RX3) (T := TX3) (N := 10) hx hb hw inW_X3 hown hK hP 0 rfl rfl 5 (by decide) (hw _ mw_2_115) (fun _ h9 => h9) rfl dX3_letTake_63 ?_
    refine lv_iload_n hx hb dX3_letTake_66 rfl (lv_at hl 3 rfl) ?_
    refine lv_bipush (v := 10) hx hb dX3_letTake_67 (by decide) ?_
    refine lv_imul hx hb dX3_letTake_69 ?_
    refine lv_iload_n hx hb dX3_letTake_70 rfl (lv_at hl 4 rfl) ?_
    refine lv_iadd hx hb dX3_letTake_71 ?_
    refine lv_dup2_11 hx hb dX3_letTake_72 rfl rfl ?_
    refine cLald hx hb hK hP 6 1 rfl rfl (((p2 * 10) + p3).toNatClampNeg) rfl h.1 dX3_letTake_73 ?_
    have h := h.2
    refine lv_lload hx hb dX3_letTake_74 (lv_at hl 5 rfl) ?_
    refine lv_ladd hx hb dX3_letTake_76 ?_
    refine cLast hx hb hK hP hD hS 6 1 rfl rfl (((p2 * 10) + p3).toNatClampNeg) rfl h.1 dX3_letTake_77 (fun H locs hP hD hS => ?_)
    have h := h.2
    refine lv_aload_n hx hb dX3_letTake_78 rfl (lv_at hl 1 rfl) ?_
    refine va_get (D := D) (ci := 3) (v := .ref (aN 12)) (C := RX3) (T := TX3) (N := 10) hx hb hw inW_X3 hown hK hP 0 rfl rfl 7 (by decide) (hw _ mw_2_117) (fun _ h9 => h9) rfl dX3_letTake_79 ?_
    refine lv_iload hx hb dX3_letTake_82 (lv_at hl 0 rfl) ?_
    refine lv_lload hx hb dX3_letTake_84 (lv_at hl 5 rfl) ?_
    have hP : va_P D vwCl (List.flatten (wNight n0 aN C ns na (va_up nl 0 (vp_updL (nl 0) (((p2 * 10) + p3).toNatClampNeg) ((nl 0 (((p2 * 10) + p3).toNatClampNeg)) + p4))))) H := hP
    have hD : va_D A (List.flatten (wNight n0 aN C ns na (va_up nl 0 (vp_updL (nl 0) (((p2 * 10) + p3).toNatClampNeg) ((nl 0 (((p2 * 10) + p3).toNatClampNeg)) + p4))))) := hD
    refine cGoV (wo := fun u => wNight n0 aN C (va_up ns 3 u.1) (va_up (va_up (va_up na 8 u.2.1) 9 u.2.2.2.1) 10 u.2.2.2.2) (va_up (va_up nl 0 (vp_updL (nl 0) (((p2 * 10) + p3).toNatClampNeg) ((nl 0 (((p2 * 10) + p3).toNatClampNeg)) + p4))) 2 u.2.2.1)) (cRunVN (As := [.int x1, .long p4]) (rest := []) ⟨hx, hb, hml, hown, hw⟩ hK hN hP hD [2] rfl rfl (k_X7_put l D C _ (aN 12) (aN 13) (aN 14) (aN 15) (aN 16)  (ns 3) (na 8) (nl 2) (na 9) (na 10) x1 p4 h) ⟨va_cnB 2 hw (goodN mw_4_37) rfl rfl rfl (hN.m 47 rfl) (hw _ mw_1_12) (by decide +kernel) ⟨Nat.le_of_ble_eq_true rfl, Nat.le_of_ble_eq_true rfl⟩, hw _ mw_4_36, hw _ mw_s51⟩ rfl rfl rfl hl.1 rfl (Nat.le_of_ble_eq_true rfl) dX3_letTake_86 ⟨Nat.zero_le _, Nat.zero_le _⟩) hP hD hS hA [2] [0, 1] [0, 1, 2] rfl rfl rfl (by decide) rfl (fun _ => rfl) (fun u H locs h hP hD hS => ?_)
    obtain ⟨siz_3, sta_4, par_5, slo_6, tab_7⟩ := u
    have hP : va_P D vwCl (List.flatten (wNight n0 aN C (va_up ns 3 siz_3) (va_up (va_up (va_up na 8 sta_4) 9 slo_6) 10 tab_7) (va_up (va_up nl 0 (vp_updL (nl 0) (((p2 * 10) + p3).toNatClampNeg) ((nl 0 (((p2 * 10) + p3).toNatClampNeg)) + p4))) 2 par_5))) H := hP
    have hD : va_D A (List.flatten (wNight n0 aN C (va_up ns 3 siz_3) (va_up (va_up (va_up na 8 sta_4) 9 slo_6) 10 tab_7) (va_up (va_up nl 0 (vp_updL (nl 0) (((p2 * 10) + p3).toNatClampNeg) ((nl 0 (((p2 * 10) + p3).toNatClampNeg)) + p4))) 2 par_5))) := hD
    rw [← hQ]
    exact cRetV ((va_up ns 3 siz_3), (va_up (va_up (va_up na 8 sta_4) 9 slo_6) 10 tab_7), (va_up (va_up nl 0 (vp_updL (nl 0) (((p2 * 10) + p3).toNatClampNeg) ((nl 0 (((p2 * 10) + p3).toNatClampNeg)) + p4))) 2 par_5)) hx hb hr hlocks hS hP hD h dX3_letTake_89
  · have h := h.2 c2
    refine lv_lload hx hb dX3_letTake_15 (lv_at hl 5 rfl) ?_
    refine lv_aload_n hx hb dX3_letTake_17 rfl (lv_at hl 1 rfl) ?_
    refine va_get (D := D) (ci := 3) (v := .int (ns 1)) (C := RX3) (T := TX3) (N := 10) hx hb hw inW_X3 hown hK hP 0 rfl rfl 9 (by decide) (hw _ mw_2_119) (fun _ h9 => h9) rfl dX3_letTake_18 ?_
    refine lv_i2l hx hb dX3_letTake_21 rfl ?_
    refine lv_lmul hx hb dX3_letTake_22 ?_
    refine lv_ldc2 (v := 100) hx hb hown (hw _ mw_4_50) dX3_letTake_23 ?_
    refine lv_ldiv hx hb dX3_letTake_26 (by decide) ?_
    refine lv_topl (fun x8 ex8 => ?_)
    have h := h x8 ex8
    refine lv_lstore (lv' := [(7, .long x8), (6, .int x1), (0, .ref n0), (1, .int p1), (2, .int p2), (3, .int p3), (4, .long p4)]) hx hb dX3_letTake_27 hl (by decide) rfl (fun ls hl => ?_)
    refine lv_aload_n hx hb dX3_letTake_29 rfl (lv_at hl 2 rfl) ?_
    refine va_get (D := D) (ci := 3) (v := .ref (aN 12)) (C := RX3) (T := TX3) (N := 10) hx hb hw inW_X3 hown hK hP 0 rfl rfl 7 (by decide) (hw _ mw_2_117) (fun _ h9 => h9) rfl dX3_letTake_30 ?_
    refine lv_iload hx hb dX3_letTake_33 (lv_at hl 1 rfl) ?_
    refine lv_iload_n hx hb dX3_letTake_35 rfl (lv_at hl 4 rfl) ?_
    refine cGoEI (cRunES (As := [.int p2]) (rest := [.int x1, .ref (aN 12)]) ⟨hx, hb, hml, hown, hw⟩ hK hN hP hD (k_X3_caughtBit l D C _    p2 h) (va_cwS 1 hw (goodS mw_4_46 mw_4_47 mw_1_11 mw_4_48) rfl rfl rfl (by decide +kernel) ⟨Nat.le_of_ble_eq_true rfl, Nat.le_of_ble_eq_true rfl⟩) rfl hl.1 rfl (Nat.le_of_ble_eq_true rfl) dX3_letTake_36 ⟨Nat.zero_le _, Nat.zero_le _⟩) hP hD hS hA (fun r9 u H locs h hP hD hS => ?_)
    have hP : va_P D vwCl (List.flatten (wNight n0 aN C ns na nl)) H := hP
    have hD : va_D A (List.flatten (wNight n0 aN C ns na nl)) := hD
    refine lv_ior hx hb dX3_letTake_39 ?_
    refine lv_lload hx hb dX3_letTake_40 (lv_at hl 0 rfl) ?_
    refine cGoV (wo := fun u => wNight n0 aN C (va_up ns 3 u.1) (va_up (va_up (va_up na 8 u.2.1) 9 u.2.2.2.1) 10 u.2.2.2.2) (va_up nl 2 u.2.2.1)) (cRunVN (As := [.int (x1 ||| r9), .long x8]) (rest := []) ⟨hx, hb, hml, hown, hw⟩ hK hN hP hD [2] rfl rfl (k_X7_put l D C _ (aN 12) (aN 13) (aN 14) (aN 15) (aN 16)  (ns 3) (na 8) (nl 2) (na 9) (na 10) (x1 ||| r9) x8 h) ⟨va_cnB 2 hw (goodN mw_4_37) rfl rfl rfl (hN.m 47 rfl) (hw _ mw_1_12) (by decide +kernel) ⟨Nat.le_of_ble_eq_true rfl, Nat.le_of_ble_eq_true rfl⟩, hw _ mw_4_36, hw _ mw_s51⟩ rfl rfl rfl hl.1 rfl (Nat.le_of_ble_eq_true rfl) dX3_letTake_42 ⟨Nat.zero_le _, Nat.zero_le _⟩) hP hD hS hA [2] [0, 1] [0, 1, 2] rfl rfl rfl (by decide) rfl (fun _ => rfl) (fun u H locs h hP hD hS => ?_)
    obtain ⟨siz_10, sta_11, par_12, slo_13, tab_14⟩ := u
    have hP : va_P D vwCl (List.flatten (wNight n0 aN C (va_up ns 3 siz_10) (va_up (va_up (va_up na 8 sta_11) 9 slo_13) 10 tab_14) (va_up nl 2 par_12))) H := hP
    have hD : va_D A (List.flatten (wNight n0 aN C (va_up ns 3 siz_10) (va_up (va_up (va_up na 8 sta_11) 9 slo_13) 10 tab_14) (va_up nl 2 par_12))) := hD
    refine lv_aload_n hx hb dX3_letTake_45 rfl (lv_at hl 2 rfl) ?_
    refine va_get (D := D) (ci := 3) (v := .ref (aN 12)) (C := RX3) (T := TX3) (N := 10) hx hb hw inW_X3 hown hK hP 0 rfl rfl 7 (by decide) (hw _ mw_2_117) (fun _ h9 => h9) rfl dX3_letTake_46 ?_
    refine lv_iload hx hb dX3_letTake_49 (lv_at hl 1 rfl) ?_
    refine lv_lload hx hb dX3_letTake_51 (lv_at hl 6 rfl) ?_
    refine lv_lload hx hb dX3_letTake_53 (lv_at hl 0 rfl) ?_
    refine lv_lsub hx hb dX3_letTake_55 ?_
    refine cGoV (wo := fun u => wNight n0 aN C (va_up ns 3 u.1) (va_up (va_up (va_up na 8 u.2.1) 9 u.2.2.2.1) 10 u.2.2.2.2) (va_up nl 2 u.2.2.1)) (cRunVN (As := [.int x1, .long (p4 - x8)]) (rest := []) ⟨hx, hb, hml, hown, hw⟩ hK hN hP hD [2] rfl rfl (k_X7_put l D C _ (aN 12) (aN 13) (aN 14) (aN 15) (aN 16)  siz_10 sta_11 par_12 slo_13 tab_14 x1 (p4 - x8) h) ⟨va_cnB 2 hw (goodN mw_4_37) rfl rfl rfl (hN.m 47 rfl) (hw _ mw_1_12) (by decide +kernel) ⟨Nat.le_of_ble_eq_true rfl, Nat.le_of_ble_eq_true rfl⟩, hw _ mw_4_36, hw _ mw_s51⟩ rfl rfl rfl hl.1 rfl (Nat.le_of_ble_eq_true rfl) dX3_letTake_56 ⟨Nat.zero_le _, Nat.zero_le _⟩) hP hD hS hA [2] [0, 1] [0, 1, 2] rfl rfl rfl (by decide) rfl (fun _ => rfl) (fun u H locs h hP hD hS => ?_)
    obtain ⟨siz_15, sta_16, par_17, slo_18, tab_19⟩ := u
    have hP : va_P D vwCl (List.flatten (wNight n0 aN C (va_up ns 3 siz_15) (va_up (va_up (va_up na 8 sta_16) 9 slo_18) 10 tab_19) (va_up nl 2 par_17))) H := hP
    have hD : va_D A (List.flatten (wNight n0 aN C (va_up ns 3 siz_15) (va_up (va_up (va_up na 8 sta_16) 9 slo_18) 10 tab_19) (va_up nl 2 par_17))) := hD
    refine lv_goto (tgt := 89) hx hb dX3_letTake_59 (by decide) ?_
    rw [← hQ]
    exact cRetV ((va_up ns 3 siz_15), (va_up (va_up (va_up na 8 sta_16) 9 slo_18) 10 tab_19), (va_up nl 2 par_17)) hx hb hr hlocks hS hP hD h dX3_letTake_89
abbrev vsX3_turn : List Cond := Cond.code yX3_turn cX3_turn 2 none :: WS
abbrev rmX3_turn : Room := { frames := 0, cells := 0, slots := 0, locals := 0 }
set_option maxHeartbeats 4000000 in
set_option maxRecDepth 100000 in
theorem k_X3_turn (l : Launch) (D : va_G) (C : Nat → ClassId) (sz : Nat) (n0 : Nat) (aN : Nat → Nat)  (ns : Nat → Int32) (na : Nat → Nat → Int32) (nl : Nat → Nat → Int64)  {post : (Nat → Int32) → (Nat → Nat → Int32) → (Nat → Nat → Int64) → Prop} (h : P_X3_turn ns na nl post) : Met l yX3_turn vsX3_turn rmX3_turn (cPre D C [.ref n0] sz (wNight n0 aN C ns na nl)) (cQv D (fun (u : (Nat → Nat) × (Nat → Int32) × (Nat → Nat → Int32) × (Nat → Nat → Int64)) => post u.2.1 u.2.2.1 u.2.2.2) (fun u => wNight n0 u.1 C u.2.1 u.2.2.1 u.2.2.2) (va_A (List.flatten (wNight n0 aN C ns na nl)) sz)) 0 0 (va_A (List.flatten (wNight n0 aN C ns na nl)) sz) := by
  refine cStart (QA := fun A => cQv D (fun (u : (Nat → Nat) × (Nat → Int32) × (Nat → Nat → Int32) × (Nat → Nat → Int64)) => post u.2.1 u.2.2.1 u.2.2.2) (fun u => wNight n0 u.1 C u.2.1 u.2.2.1 u.2.2.2) A) (cc := cX3_turn) (maxL := 2) (ret := none) (by decide) (Nat.le_of_ble_eq_true rfl) ?_
  intro p e s m args below meth c A ls hx hb hr hml hown hw hlocks hname hK hN hA hP hD hS hl
  generalize hQ : MQ below _ args s 0 0 A = Q
  have hl : lv_has ls 2 [(0, .ref n0)] := hl
  obtain ⟨H, hH⟩ : ∃ H, H = s.heap := ⟨_, rfl⟩
  obtain ⟨locs, hlo⟩ : ∃ z : List Loc, z = [] := ⟨_, rfl⟩
  have hP : va_P D vwCl (List.flatten (wNight n0 aN C ns na nl)) H := by rw [hH]; exact hP
  have hS : va_S A s.heap H locs := by rw [hH, hlo]; exact hS
  rw [show W p l e rmX3_turn s m args below meth c s.heap [] 0 0 Q (F0 m 0 ls []) = W p l e rmX3_turn s m args below meth c H locs 0 0 Q (F0 m 0 ls []) from by rw [hH, hlo]]
  refine lv_aload_n hx hb dX3_turn_0 rfl (lv_at hl 0 rfl) ?_
  refine va_get (D := D) (ci := 3) (v := .ref (aN 7)) (C := RX3) (T := TX3) (N := 10) hx hb hw inW_X3 hown hK hP 0 rfl rfl 6 (by decide) (hw _ mw_2_116) (fun _ h9 => h9) rfl dX3_turn_1 ?_
  refine lv_astore_n (lv' := [(1, .ref (aN 7)), (0, .ref n0)]) hx hb dX3_turn_4 rfl hl (by decide) rfl (fun ls hl => ?_)
  refine lv_aload_n hx hb dX3_turn_5 rfl (lv_at hl 1 rfl) ?_
  refine lv_aload_n hx hb dX3_turn_6 rfl (lv_at hl 1 rfl) ?_
  refine va_get (D := D) (ci := 3) (v := .ref (aN 12)) (C := RX3) (T := TX3) (N := 10) hx hb hw inW_X3 hown hK hP 0 rfl rfl 7 (by decide) (hw _ mw_2_117) (fun _ h9 => h9) rfl dX3_turn_7 ?_
  refine va_put (D := D) (ci := 3) (v := .ref (aN 12)) (ty := (.object "LockRail$Spread")) (C := RX3) (T := TX3) (N := 10) hx hb hw inW_X3 tyX3 tyX3_ok nmX3 hown hK hP hD hS 0 rfl rfl 6 (by decide) (hw _ mw_2_116) (fun _ h9 => h9) rfl (by decide +kernel) rfl rfl (Nat.le_of_ble_eq_true rfl) dX3_turn_10 (fun H locs hP hD hS => ?_)
  refine lv_aload_n hx hb dX3_turn_13 rfl (lv_at hl 1 rfl) ?_
  refine lv_aload_n hx hb dX3_turn_14 rfl (lv_at hl 0 rfl) ?_
  refine va_put (D := D) (ci := 3) (v := .ref (aN 7)) (ty := (.object "LockRail$Spread")) (C := RX3) (T := TX3) (N := 10) hx hb hw inW_X3 tyX3 tyX3_ok nmX3 hown hK hP hD hS 0 rfl rfl 7 (by decide) (hw _ mw_2_117) (fun _ h9 => h9) rfl (by decide +kernel) rfl rfl (Nat.le_of_ble_eq_true rfl) dX3_turn_15 (fun H locs hP hD hS => ?_)
  have hP : va_P D vwCl (List.flatten ([cNight n0 (aN 1) (aN 2) (aN 3) (aN 4) (aN 5) (aN 6) (aN 12) (aN 7) C (na 0) (na 1) (na 2) (na 3) (na 4) (nl 0) (ns 0) (ns 1), cSpread (aN 7) (aN 8) (aN 9) (aN 10) (aN 11) C (ns 2) (na 5) (nl 1) (na 6) (na 7), cSpread (aN 12) (aN 13) (aN 14) (aN 15) (aN 16) C (ns 3) (na 8) (nl 2) (na 9) (na 10)])) H := hP
  have hD : va_D A (List.flatten ([cNight n0 (aN 1) (aN 2) (aN 3) (aN 4) (aN 5) (aN 6) (aN 12) (aN 7) C (na 0) (na 1) (na 2) (na 3) (na 4) (nl 0) (ns 0) (ns 1), cSpread (aN 7) (aN 8) (aN 9) (aN 10) (aN 11) C (ns 2) (na 5) (nl 1) (na 6) (na 7), cSpread (aN 12) (aN 13) (aN 14) (aN 15) (aN 16) C (ns 3) (na 8) (nl 2) (na 9) (na 10)])) := hD
  have hP : va_P D vwCl (List.flatten (wNight n0 (swN aN) C (va_up (va_up ns 2 (ns 3)) 3 (ns 2)) (va_up (va_up (va_up (va_up (va_up (va_up na 5 (na 8)) 6 (na 9)) 7 (na 10)) 8 (na 5)) 9 (na 6)) 10 (na 7)) (va_up (va_up nl 1 (nl 2)) 2 (nl 1)))) H := rg_subP hP [0, 2, 1] rfl
  have hD : va_D A (List.flatten (wNight n0 (swN aN) C (va_up (va_up ns 2 (ns 3)) 3 (ns 2)) (va_up (va_up (va_up (va_up (va_up (va_up na 5 (na 8)) 6 (na 9)) 7 (na 10)) 8 (na 5)) 9 (na 6)) 10 (na 7)) (va_up (va_up nl 1 (nl 2)) 2 (nl 1)))) := rg_subD hD [0, 2, 1] rfl rfl
  rw [← hQ]
  exact cRetV ((swN aN), (va_up (va_up ns 2 (ns 3)) 3 (ns 2)), (va_up (va_up (va_up (va_up (va_up (va_up na 5 (na 8)) 6 (na 9)) 7 (na 10)) 8 (na 5)) 9 (na 6)) 10 (na 7)), (va_up (va_up nl 1 (nl 2)) 2 (nl 1))) hx hb hr hlocks hS hP hD h dX3_turn_18
abbrev vsX3_letCome : List Cond := Cond.code yX3_letCome cX3_letCome 10 none :: WS
abbrev rmX3_letCome : Room := { frames := 2, cells := 0, slots := 0, locals := 54 }
set_option maxHeartbeats 4000000 in
set_option maxRecDepth 100000 in
theorem k_X3_letCome (l : Launch) (D : va_G) (C : Nat → ClassId) (sz : Nat) (n0 : Nat) (aN : Nat → Nat)  (ns : Nat → Int32) (na : Nat → Nat → Int32) (nl : Nat → Nat → Int64) (p1 : Int32) (p2 : Int32) {post : (Nat → Int32) → (Nat → Nat → Int32) → (Nat → Nat → Int64) → Prop} (h : P_X3_letCome ns na nl p1 p2 post) : Met l yX3_letCome vsX3_letCome rmX3_letCome (cPre D C [.ref n0, .int p1, .int p2] sz (wNight n0 aN C ns na nl)) (cQv D (fun (u : (Nat → Nat) × (Nat → Int32) × (Nat → Nat → Int32) × (Nat → Nat → Int64)) => post u.2.1 u.2.2.1 u.2.2.2) (fun u => wNight n0 u.1 C u.2.1 u.2.2.1 u.2.2.2) (va_A (List.flatten (wNight n0 aN C ns na nl)) sz)) 0 0 (va_A (List.flatten (wNight n0 aN C ns na nl)) sz) := by
  refine cStart (QA := fun A => cQv D (fun (u : (Nat → Nat) × (Nat → Int32) × (Nat → Nat → Int32) × (Nat → Nat → Int64)) => post u.2.1 u.2.2.1 u.2.2.2) (fun u => wNight n0 u.1 C u.2.1 u.2.2.1 u.2.2.2) A) (cc := cX3_letCome) (maxL := 10) (ret := none) (by decide) (Nat.le_of_ble_eq_true rfl) ?_
  intro p e s m args below meth c A ls hx hb hr hml hown hw hlocks hname hK hN hA hP hD hS hl
  generalize hQ : MQ below _ args s 0 0 A = Q
  have hl : lv_has ls 10 [(0, .ref n0), (1, .int p1), (2, .int p2)] := hl
  have hn123 : (Cond.fieldLinkNest "LockRail$Night" 123 "LockRail$Spread" "size" "I" "LockRail").before args s = true := hN.f 75 rfl
  have hn126 : (Cond.fieldLinkNest "LockRail$Night" 126 "LockRail$Spread" "states" "[I" "LockRail").before args s = true := hN.f 76 rfl
  have hn129 : (Cond.fieldLinkNest "LockRail$Night" 129 "LockRail$Spread" "parts" "[J" "LockRail").before args s = true := hN.f 77 rfl
  obtain ⟨H, hH⟩ : ∃ H, H = s.heap := ⟨_, rfl⟩
  obtain ⟨locs, hlo⟩ : ∃ z : List Loc, z = [] := ⟨_, rfl⟩
  have hP : va_P D vwCl (List.flatten (wNight n0 aN C ns na nl)) H := by rw [hH]; exact hP
  have hS : va_S A s.heap H locs := by rw [hH, hlo]; exact hS
  rw [show W p l e rmX3_letCome s m args below meth c s.heap [] 0 0 Q (F0 m 0 ls []) = W p l e rmX3_letCome s m args below meth c H locs 0 0 Q (F0 m 0 ls []) from by rw [hH, hlo]]
  have N130 : ∀ (ns : Nat → Int32) (na : Nat → Nat → Int32) (nl : Nat → Nat → Int64) (aN : Nat → Nat) (H : Heap) (locs : List Loc) (ls : Array Slot), P_X3_letCome_130 p1 p2 post  ns na nl → va_P D vwCl (List.flatten (wNight n0 aN C ns na nl)) H → va_D A (List.flatten (wNight n0 aN C ns na nl)) → va_S A s.heap H locs → lv_has ls 10 [(0, .ref n0)] → W p l e rmX3_letCome s m args below meth c H locs 0 0 Q (F0 m 130 ls []) := by
    intro ns na nl aN H locs ls h hP hD hS hl
    refine lv_aload_n hx hb dX3_letCome_130 rfl (lv_at hl 0 rfl) ?_
    refine cGoAV (cRunAV (As := []) (rest := []) ⟨hx, hb, hml, hown, hw⟩ hK hN hP hD (k_X3_turn l D C _ n0 aN  ns na nl  h) (cwV 0 hw (goodV mw_4_55 mw_4_57 mw_s54 mw_1_11 mw_4_58) rfl rfl rfl (by decide +kernel) ⟨Nat.le_of_ble_eq_true rfl, Nat.le_of_ble_eq_true rfl⟩) rfl rfl rfl hl.1 rfl (Nat.le_of_ble_eq_true rfl) dX3_letCome_131 ⟨Nat.zero_le _, Nat.zero_le _⟩) hP hD hS hA (fun u H locs h hP hD hS => ?_)
    obtain ⟨aN16, ns_17, na_18, nl_19⟩ := u
    have hP : va_P D vwCl (List.flatten (wNight n0 aN16 C ns_17 na_18 nl_19)) H := hP
    have hD : va_D A (List.flatten (wNight n0 aN16 C ns_17 na_18 nl_19)) := hD
    rw [← hQ]
    exact cRetV (aN16, ns_17, na_18, nl_19) hx hb hr hlocks hS hP hD h dX3_letCome_134
  have N9 : ∀  (n9 : Nat) (x3_ : Int32) (ns : Nat → Int32) (na : Nat → Nat → Int32) (nl : Nat → Nat → Int64) (aN : Nat → Nat) (H : Heap) (locs : List Loc) (ls : Array Slot), P_X3_letCome_9 p1 p2 post (fun (ns : Nat → Int32) (na : Nat → Nat → Int32) (nl : Nat → Nat → Int64) => P_X3_letCome_130 p1 p2 post  ns na nl)  n9 x3_ ns na nl → va_P D vwCl (List.flatten (wNight n0 aN C ns na nl)) H → va_D A (List.flatten (wNight n0 aN C ns na nl)) → va_S A s.heap H locs → lv_has ls 10 [(0, .ref n0), (1, .int p1), (2, .int p2), (3, .int x3_)] → W p l e rmX3_letCome s m args below meth c H locs 0 0 Q (F0 m 9 ls []) := by
    intro n9
    induction n9 with
    | zero => intro x3_ ns na nl aN H locs ls h hP hD hS hl; exact False.elim h
    | succ n9 ih9 =>
      have N66 : ∀ (x3_ : Int32) (x4_ : Int32) (x5_ : Int64) (k0_ : Int32) (ns : Nat → Int32) (na : Nat → Nat → Int32) (nl : Nat → Nat → Int64) (aN : Nat → Nat) (H : Heap) (locs : List Loc) (ls : Array Slot), P_X3_letCome_66 p1 p2 post (P_X3_letCome_9 p1 p2 post (fun (ns : Nat → Int32) (na : Nat → Nat → Int32) (nl : Nat → Nat → Int64) => P_X3_letCome_130 p1 p2 post  ns na nl)  n9) x3_ x4_ x5_ k0_ ns na nl → va_P D vwCl (List.flatten (wNight n0 aN C ns na nl)) H → va_D A (List.flatten (wNight n0 aN C ns na nl)) → va_S A s.heap H locs → lv_has ls 10 [(0, .ref n0), (1, .int p1), (2, .int p2), (3, .int x3_), (4, .int x4_), (5, .long x5_)] → W p l e rmX3_letCome s m args below meth c H locs 0 0 Q (F0 m 66 ls [.int k0_]) := by
        intro x3_ x4_ x5_ k0_ ns na nl aN H locs ls h hP hD hS hl
        refine lv_istore (lv' := [(7, .int k0_), (0, .ref n0), (1, .int p1), (2, .int p2), (3, .int x3_), (4, .int x4_), (5, .long x5_)]) hx hb dX3_letCome_66 hl (by decide) rfl (fun ls hl => ?_)
        refine lv_iload hx hb dX3_letCome_68 (lv_at hl 0 rfl) ?_
        refine lv_iconst (v := (-1)) hx hb dX3_letCome_70 (by decide) ?_
        refine lv_icmp_ne (tgt := 88) hx hb dX3_letCome_71 (by decide) (fun c1 => ?_) (fun c1 => ?_)
        · have h := h.1 c1
          refine lv_lload hx hb dX3_letCome_88 (lv_at hl 6 rfl) ?_
          refine lv_iload_n hx hb dX3_letCome_90 rfl (lv_at hl 3 rfl) ?_
          refine lv_i2l hx hb dX3_letCome_91 rfl ?_
          refine lv_lmul hx hb dX3_letCome_92 ?_
          refine lv_ldc2 (v := 100) hx hb hown (hw _ mw_4_50) dX3_letCome_93 ?_
          refine lv_ldiv hx hb dX3_letCome_96 (by decide) ?_
          refine lv_topl (fun x2 ex2 => ?_)
          have h := h x2 ex2
          refine lv_lstore (lv' := [(8, .long x2), (7, .int k0_), (0, .ref n0), (1, .int p1), (2, .int p2), (3, .int x3_), (4, .int x4_), (5, .long x5_)]) hx hb dX3_letCome_97 hl (by decide) rfl (fun ls hl => ?_)
          refine lv_aload_n hx hb dX3_letCome_99 rfl (lv_at hl 2 rfl) ?_
          refine va_get (D := D) (ci := 3) (v := .ref (aN 12)) (C := RX3) (T := TX3) (N := 10) hx hb hw inW_X3 hown hK hP 0 rfl rfl 7 (by decide) (hw _ mw_2_117) (fun _ h9 => h9) rfl dX3_letCome_100 ?_
          refine lv_iload hx hb dX3_letCome_103 (lv_at hl 6 rfl) ?_
          refine lv_lload hx hb dX3_letCome_105 (lv_at hl 7 rfl) ?_
          refine lv_lload hx hb dX3_letCome_107 (lv_at hl 0 rfl) ?_
          refine lv_lsub hx hb dX3_letCome_109 ?_
          refine cGoV (wo := fun u => wNight n0 aN C (va_up ns 3 u.1) (va_up (va_up (va_up na 8 u.2.1) 9 u.2.2.2.1) 10 u.2.2.2.2) (va_up nl 2 u.2.2.1)) (cRunVN (As := [.int x4_, .long (x5_ - x2)]) (rest := []) ⟨hx, hb, hml, hown, hw⟩ hK hN hP hD [2] rfl rfl (k_X7_put l D C _ (aN 12) (aN 13) (aN 14) (aN 15) (aN 16)  (ns 3) (na 8) (nl 2) (na 9) (na 10) x4_ (x5_ - x2) h) ⟨va_cnB 2 hw (goodN mw_4_37) rfl rfl rfl (hN.m 47 rfl) (hw _ mw_1_12) (by decide +kernel) ⟨Nat.le_of_ble_eq_true rfl, Nat.le_of_ble_eq_true rfl⟩, hw _ mw_4_36, hw _ mw_s51⟩ rfl rfl rfl hl.1 rfl (Nat.le_of_ble_eq_true rfl) dX3_letCome_110 ⟨Nat.zero_le _, Nat.zero_le _⟩) hP hD hS hA [2] [0, 1] [0, 1, 2] rfl rfl rfl (by decide) rfl (fun _ => rfl) (fun u H locs h hP hD hS => ?_)
          obtain ⟨siz_3, sta_4, par_5, slo_6, tab_7⟩ := u
          have hP : va_P D vwCl (List.flatten (wNight n0 aN C (va_up ns 3 siz_3) (va_up (va_up (va_up na 8 sta_4) 9 slo_6) 10 tab_7) (va_up nl 2 par_5))) H := hP
          have hD : va_D A (List.flatten (wNight n0 aN C (va_up ns 3 siz_3) (va_up (va_up (va_up na 8 sta_4) 9 slo_6) 10 tab_7) (va_up nl 2 par_5))) := hD
          refine lv_aload_n hx hb dX3_letCome_113 rfl (lv_at hl 2 rfl) ?_
          refine lv_iload hx hb dX3_letCome_114 (lv_at hl 6 rfl) ?_
          refine lv_iload_n hx hb dX3_letCome_116 rfl (lv_at hl 3 rfl) ?_
          refine lv_iload hx hb dX3_letCome_117 (lv_at hl 1 rfl) ?_
          refine lv_lload hx hb dX3_letCome_119 (lv_at hl 0 rfl) ?_
          refine cGoAV (cRunAV (As := [.int x4_, .int p1, .int k0_, .long x2]) (rest := []) ⟨hx, hb, hml, hown, hw⟩ hK hN hP hD (k_X3_letTake l D C _ n0 aN  (va_up ns 3 siz_3) (va_up (va_up (va_up na 8 sta_4) 9 slo_6) 10 tab_7) (va_up nl 2 par_5) x4_ p1 k0_ x2 h) (cwV 4 hw (goodV mw_4_51 mw_4_53 mw_s53 mw_1_11 mw_4_54) rfl rfl rfl (by decide +kernel) ⟨Nat.le_of_ble_eq_true rfl, Nat.le_of_ble_eq_true rfl⟩) rfl rfl rfl hl.1 rfl (Nat.le_of_ble_eq_true rfl) dX3_letCome_121 ⟨Nat.zero_le _, Nat.zero_le _⟩) hP hD hS hA (fun u H locs h hP hD hS => ?_)
          obtain ⟨ns_8, na_9, nl_10⟩ := u
          have hP : va_P D vwCl (List.flatten (wNight n0 aN C ns_8 na_9 nl_10)) H := hP
          have hD : va_D A (List.flatten (wNight n0 aN C ns_8 na_9 nl_10)) := hD
          refine lv_iinc (v := (x3_ + 1)) (lv' := [(3, .int (x3_ + 1)), (8, .long x2), (7, .int k0_), (0, .ref n0), (1, .int p1), (2, .int p2), (4, .int x4_), (5, .long x5_)]) hx hb dX3_letCome_124 hl (k := 5) rfl rfl (by decide) rfl (fun ls hl => ?_)
          refine lv_goto (tgt := 9) hx hb dX3_letCome_127 (by decide) ?_
          exact ih9 (x3_ + 1) ns_8 na_9 nl_10 aN _ _ _ h hP hD hS (lv_sub hl [3, 4, 5, 0] rfl)
        · have h := h.2 c1
          refine lv_aload_n hx hb dX3_letCome_74 rfl (lv_at hl 1 rfl) ?_
          refine va_get (D := D) (ci := 3) (v := .ref (aN 12)) (C := RX3) (T := TX3) (N := 10) hx hb hw inW_X3 hown hK hP 0 rfl rfl 7 (by decide) (hw _ mw_2_117) (fun _ h9 => h9) rfl dX3_letCome_75 ?_
          refine lv_iload hx hb dX3_letCome_78 (lv_at hl 5 rfl) ?_
          refine lv_lload hx hb dX3_letCome_80 (lv_at hl 6 rfl) ?_
          refine cGoV (wo := fun u => wNight n0 aN C (va_up ns 3 u.1) (va_up (va_up (va_up na 8 u.2.1) 9 u.2.2.2.1) 10 u.2.2.2.2) (va_up nl 2 u.2.2.1)) (cRunVN (As := [.int x4_, .long x5_]) (rest := []) ⟨hx, hb, hml, hown, hw⟩ hK hN hP hD [2] rfl rfl (k_X7_put l D C _ (aN 12) (aN 13) (aN 14) (aN 15) (aN 16)  (ns 3) (na 8) (nl 2) (na 9) (na 10) x4_ x5_ h) ⟨va_cnB 2 hw (goodN mw_4_37) rfl rfl rfl (hN.m 47 rfl) (hw _ mw_1_12) (by decide +kernel) ⟨Nat.le_of_ble_eq_true rfl, Nat.le_of_ble_eq_true rfl⟩, hw _ mw_4_36, hw _ mw_s51⟩ rfl rfl rfl hl.1 rfl (Nat.le_of_ble_eq_true rfl) dX3_letCome_82 ⟨Nat.zero_le _, Nat.zero_le _⟩) hP hD hS hA [2] [0, 1] [0, 1, 2] rfl rfl rfl (by decide) rfl (fun _ => rfl) (fun u H locs h hP hD hS => ?_)
          obtain ⟨siz_11, sta_12, par_13, slo_14, tab_15⟩ := u
          have hP : va_P D vwCl (List.flatten (wNight n0 aN C (va_up ns 3 siz_11) (va_up (va_up (va_up na 8 sta_12) 9 slo_14) 10 tab_15) (va_up nl 2 par_13))) H := hP
          have hD : va_D A (List.flatten (wNight n0 aN C (va_up ns 3 siz_11) (va_up (va_up (va_up na 8 sta_12) 9 slo_14) 10 tab_15) (va_up nl 2 par_13))) := hD
          refine lv_goto (tgt := 124) hx hb dX3_letCome_85 (by decide) ?_
          refine lv_iinc (v := (x3_ + 1)) (lv' := [(3, .int (x3_ + 1)), (7, .int k0_), (0, .ref n0), (1, .int p1), (2, .int p2), (4, .int x4_), (5, .long x5_)]) hx hb dX3_letCome_124 hl (k := 4) rfl rfl (by decide) rfl (fun ls hl => ?_)
          refine lv_goto (tgt := 9) hx hb dX3_letCome_127 (by decide) ?_
          exact ih9 (x3_ + 1) (va_up ns 3 siz_11) (va_up (va_up (va_up na 8 sta_12) 9 slo_14) 10 tab_15) (va_up nl 2 par_13) aN _ _ _ h hP hD hS (lv_sub hl [2, 3, 4, 0] rfl)
      intro x3_ ns na nl aN H locs ls h hP hD hS hl
      refine lv_iload_n hx hb dX3_letCome_9 rfl (lv_at hl 3 rfl) ?_
      refine lv_aload_n hx hb dX3_letCome_10 rfl (lv_at hl 0 rfl) ?_
      refine va_get (D := D) (ci := 3) (v := .ref (aN 7)) (C := RX3) (T := TX3) (N := 10) hx hb hw inW_X3 hown hK hP 0 rfl rfl 6 (by decide) (hw _ mw_2_116) (fun _ h9 => h9) rfl dX3_letCome_11 ?_
      refine va_getN (D := D) (ci := 7) (v := .int (ns 2)) (C := RX7) (T := TX7) (N := 5) hx hb hw inW_X7 hown hK hP 7 rfl rfl 0 (by decide) hn123 (fun _ h9 => h9) rfl dX3_letCome_14 ?_
      refine lv_icmp_ge (tgt := 130) hx hb dX3_letCome_17 (by decide) (fun c20 => ?_) (fun c20 => ?_)
      · have h := h.1 c20
        exact N130 ns na nl aN _ _ _ h hP hD hS (lv_sub hl [0] rfl)
      · have h := h.2 c20
        refine lv_aload_n hx hb dX3_letCome_20 rfl (lv_at hl 0 rfl) ?_
        refine va_get (D := D) (ci := 3) (v := .ref (aN 7)) (C := RX3) (T := TX3) (N := 10) hx hb hw inW_X3 hown hK hP 0 rfl rfl 6 (by decide) (hw _ mw_2_116) (fun _ h9 => h9) rfl dX3_letCome_21 ?_
        refine va_getN (D := D) (ci := 7) (v := .ref (aN 8)) (C := RX7) (T := TX7) (N := 5) hx hb hw inW_X7 hown hK hP 7 rfl rfl 1 (by decide) hn126 (fun _ h9 => h9) rfl dX3_letCome_24 ?_
        refine lv_iload_n hx hb dX3_letCome_27 rfl (lv_at hl 3 rfl) ?_
        refine cIald hx hb hK hP 8 0 rfl rfl x3_.toNatClampNeg rfl h.1 dX3_letCome_28 ?_
        have h := h.2
        refine lv_topi (fun x21 ex21 => ?_)
        have h := h x21 ex21
        refine lv_istore (lv' := [(4, .int x21), (0, .ref n0), (1, .int p1), (2, .int p2), (3, .int x3_)]) hx hb dX3_letCome_29 hl (by decide) rfl (fun ls hl => ?_)
        refine lv_aload_n hx hb dX3_letCome_31 rfl (lv_at hl 1 rfl) ?_
        refine va_get (D := D) (ci := 3) (v := .ref (aN 7)) (C := RX3) (T := TX3) (N := 10) hx hb hw inW_X3 hown hK hP 0 rfl rfl 6 (by decide) (hw _ mw_2_116) (fun _ h9 => h9) rfl dX3_letCome_32 ?_
        refine va_getN (D := D) (ci := 7) (v := .ref (aN 9)) (C := RX7) (T := TX7) (N := 5) hx hb hw inW_X7 hown hK hP 7 rfl rfl 2 (by decide) hn129 (fun _ h9 => h9) rfl dX3_letCome_35 ?_
        refine lv_iload_n hx hb dX3_letCome_38 rfl (lv_at hl 4 rfl) ?_
        refine cLald hx hb hK hP 9 1 rfl rfl x3_.toNatClampNeg rfl h.1 dX3_letCome_39 ?_
        have h := h.2
        refine lv_topl (fun x22 ex22 => ?_)
        have h := h x22 ex22
        refine lv_lstore (lv' := [(5, .long x22), (4, .int x21), (0, .ref n0), (1, .int p1), (2, .int p2), (3, .int x3_)]) hx hb dX3_letCome_40 hl (by decide) rfl (fun ls hl => ?_)
        refine lv_iload hx hb dX3_letCome_42 (lv_at hl 1 rfl) ?_
        refine lv_iload_n hx hb dX3_letCome_44 rfl (lv_at hl 3 rfl) ?_
        refine cGoEI (cRunES (As := [.int x21, .int p1]) (rest := []) ⟨hx, hb, hml, hown, hw⟩ hK hN hP hD (k_X3_isCaught l D C _    x21 p1 h) (va_cwS 2 hw (goodS mw_4_43 mw_4_44 mw_1_11 mw_4_45) rfl rfl rfl (by decide +kernel) ⟨Nat.le_of_ble_eq_true rfl, Nat.le_of_ble_eq_true rfl⟩) rfl hl.1 rfl (Nat.le_of_ble_eq_true rfl) dX3_letCome_45 ⟨Nat.zero_le _, Nat.zero_le _⟩) hP hD hS hA (fun r23 u H locs h hP hD hS => ?_)
        have hP : va_P D vwCl (List.flatten (wNight n0 aN C ns na nl)) H := hP
        have hD : va_D A (List.flatten (wNight n0 aN C ns na nl)) := hD
        refine lv_if_eq (tgt := 55) hx hb dX3_letCome_48 (by decide) (fun c24 => ?_) (fun c24 => ?_)
        · have h := h.1 c24
          refine lv_aload_n hx hb dX3_letCome_55 rfl (lv_at hl 2 rfl) ?_
          refine lv_iload_n hx hb dX3_letCome_56 rfl (lv_at hl 3 rfl) ?_
          refine lv_iload hx hb dX3_letCome_57 (lv_at hl 1 rfl) ?_
          refine lv_sipush (v := 2047) hx hb dX3_letCome_59 (by decide) ?_
          refine lv_iand hx hb dX3_letCome_62 ?_
          refine cGoAI (cRunAV (As := [.int p1, .int (x21 &&& 2047)]) (rest := []) ⟨hx, hb, hml, hown, hw⟩ hK hN hP hD (k_X3_pick l D C _ n0 aN  ns na nl p1 (x21 &&& 2047) h) (cwV 2 hw (goodV mw_4_49 mw_3_238 mw_s44 mw_1_11 mw_3_239) rfl rfl rfl (by decide +kernel) ⟨Nat.le_of_ble_eq_true rfl, Nat.le_of_ble_eq_true rfl⟩) rfl rfl rfl hl.1 rfl (Nat.le_of_ble_eq_true rfl) dX3_letCome_63 ⟨Nat.zero_le _, Nat.zero_le _⟩) hP hD hS hA (fun r25 u H locs h hP hD hS => ?_)
          have hP : va_P D vwCl (List.flatten (wNight n0 aN C ns na nl)) H := hP
          have hD : va_D A (List.flatten (wNight n0 aN C ns na nl)) := hD
          exact N66 x3_ x21 x22 r25 ns na nl aN _ _ _ h hP hD hS (lv_sub hl [2, 3, 4, 5, 1, 0] rfl)
        · have h := h.2 c24
          refine lv_iconst (v := (-1)) hx hb dX3_letCome_51 (by decide) ?_
          refine lv_goto (tgt := 66) hx hb dX3_letCome_52 (by decide) ?_
          exact N66 x3_ x21 x22 (-1) ns na nl aN _ _ _ h hP hD hS (lv_sub hl [2, 3, 4, 5, 1, 0] rfl)
  refine lv_aload_n hx hb dX3_letCome_0 rfl (lv_at hl 0 rfl) ?_
  refine va_get (D := D) (ci := 3) (v := .ref (aN 12)) (C := RX3) (T := TX3) (N := 10) hx hb hw inW_X3 hown hK hP 0 rfl rfl 7 (by decide) (hw _ mw_2_117) (fun _ h9 => h9) rfl dX3_letCome_1 ?_
  refine cGoV (wo := fun u => wNight n0 aN C (va_up ns 3 u.1) (va_up na 10 u.2) nl) (cRunVN (As := []) (rest := []) ⟨hx, hb, hml, hown, hw⟩ hK hN hP hD [2] rfl rfl (k_X7_wipe l D C _ (aN 12) (aN 13) (aN 14) (aN 15) (aN 16)  (ns 3) (na 8) (nl 2) (na 9) (na 10)  h) ⟨va_cnB 0 hw (goodN mw_4_32) rfl rfl rfl (hN.m 46 rfl) (hw _ mw_1_12) (by decide +kernel) ⟨Nat.le_of_ble_eq_true rfl, Nat.le_of_ble_eq_true rfl⟩, hw _ mw_4_31, hw _ mw_s50⟩ rfl rfl rfl hl.1 rfl (Nat.le_of_ble_eq_true rfl) dX3_letCome_4 ⟨Nat.zero_le _, Nat.zero_le _⟩) hP hD hS hA [2] [0, 1] [0, 1, 2] rfl rfl rfl (by decide) rfl (fun _ => rfl) (fun u H locs h hP hD hS => ?_)
  obtain ⟨siz_26, tab_27⟩ := u
  have hP : va_P D vwCl (List.flatten (wNight n0 aN C (va_up ns 3 siz_26) (va_up na 10 tab_27) nl)) H := hP
  have hD : va_D A (List.flatten (wNight n0 aN C (va_up ns 3 siz_26) (va_up na 10 tab_27) nl)) := hD
  refine lv_iconst (v := 0) hx hb dX3_letCome_7 (by decide) ?_
  refine lv_istore_n (lv' := [(3, .int 0), (0, .ref n0), (1, .int p1), (2, .int p2)]) hx hb dX3_letCome_8 rfl hl (by decide) rfl (fun ls hl => ?_)
  obtain ⟨n, h⟩ := h
  exact N9  n 0 (va_up ns 3 siz_26) (va_up na 10 tab_27) nl aN _ _ _ h hP hD hS (lv_sub hl [1, 2, 3, 0] rfl)
abbrev vsX3_play : List Cond := Cond.code yX3_play cX3_play 3 none :: WS
abbrev rmX3_play : Room := { frames := 3, cells := 0, slots := 0, locals := 83 }
set_option maxHeartbeats 4000000 in
set_option maxRecDepth 100000 in
theorem k_X3_play (l : Launch) (D : va_G) (C : Nat → ClassId) (sz : Nat) (n0 : Nat) (aN : Nat → Nat) (aR : Nat → Nat)  (ns : Nat → Int32) (na : Nat → Nat → Int32) (nl : Nat → Nat → Int64) (rs : Nat → Int32) (ra : Nat → Nat → Int32)  {post : (Nat → Int32) → (Nat → Nat → Int32) → (Nat → Nat → Int64) → Prop} (h : P_X3_play ns na nl rs ra post) : Met l yX3_play vsX3_play rmX3_play (cPre D C [.ref n0, .ref (aR 0)] sz (wNight n0 aN C ns na nl ++ (wRail aR C rs ra))) (cQv D (fun (u : (Nat → Nat) × (Nat → Int32) × (Nat → Nat → Int32) × (Nat → Nat → Int64)) => post u.2.1 u.2.2.1 u.2.2.2) (fun u => wNight n0 u.1 C u.2.1 u.2.2.1 u.2.2.2 ++ (wRail aR C rs ra)) (va_A (List.flatten (wNight n0 aN C ns na nl ++ (wRail aR C rs ra))) sz)) 0 0 (va_A (List.flatten (wNight n0 aN C ns na nl ++ (wRail aR C rs ra))) sz) := by
  refine cStart (QA := fun A => cQv D (fun (u : (Nat → Nat) × (Nat → Int32) × (Nat → Nat → Int32) × (Nat → Nat → Int64)) => post u.2.1 u.2.2.1 u.2.2.2) (fun u => wNight n0 u.1 C u.2.1 u.2.2.1 u.2.2.2 ++ (wRail aR C rs ra)) A) (cc := cX3_play) (maxL := 3) (ret := none) (by decide) (Nat.le_of_ble_eq_true rfl) ?_
  intro p e s m args below meth c A ls hx hb hr hml hown hw hlocks hname hK hN hA hP hD hS hl
  generalize hQ : MQ below _ args s 0 0 A = Q
  have hl : lv_has ls 3 [(0, .ref n0), (1, .ref (aR 0))] := hl
  have hn75 : (Cond.fieldLinkNest "LockRail$Night" 75 "LockRail$Rail" "thieves" "LLockRail$Thieves;" "LockRail").before args s = true := hN.f 62 rfl
  have hn79 : (Cond.fieldLinkNest "LockRail$Night" 79 "LockRail$Thieves" "count" "I" "LockRail").before args s = true := hN.f 33 rfl
  have hn107 : (Cond.fieldLinkNest "LockRail$Night" 107 "LockRail$Thieves" "comes" "[I" "LockRail").before args s = true := hN.f 37 rfl
  obtain ⟨H, hH⟩ : ∃ H, H = s.heap := ⟨_, rfl⟩
  obtain ⟨locs, hlo⟩ : ∃ z : List Loc, z = [] := ⟨_, rfl⟩
  have hP : va_P D vwCl (List.flatten (wNight n0 aN C ns na nl ++ (wRail aR C rs ra))) H := by rw [hH]; exact hP
  have hS : va_S A s.heap H locs := by rw [hH, hlo]; exact hS
  rw [show W p l e rmX3_play s m args below meth c s.heap [] 0 0 Q (F0 m 0 ls []) = W p l e rmX3_play s m args below meth c H locs 0 0 Q (F0 m 0 ls []) from by rw [hH, hlo]]
  have N12 : ∀  (n12 : Nat) (x2_ : Int32) (ns : Nat → Int32) (na : Nat → Nat → Int32) (nl : Nat → Nat → Int64) (aN : Nat → Nat) (H : Heap) (locs : List Loc) (ls : Array Slot), P_X3_play_12 rs ra post   n12 x2_ ns na nl → va_P D vwCl (List.flatten (wNight n0 aN C ns na nl ++ (wRail aR C rs ra))) H → va_D A (List.flatten (wNight n0 aN C ns na nl ++ (wRail aR C rs ra))) → va_S A s.heap H locs → lv_has ls 3 [(0, .ref n0), (1, .ref (aR 0)), (2, .int x2_)] → W p l e rmX3_play s m args below meth c H locs 0 0 Q (F0 m 12 ls []) := by
    intro n12
    induction n12 with
    | zero => intro x2_ ns na nl aN H locs ls h hP hD hS hl; exact False.elim h
    | succ n12 ih12 =>
      intro x2_ ns na nl aN H locs ls h hP hD hS hl
      refine lv_iload_n hx hb dX3_play_12 rfl (lv_at hl 2 rfl) ?_
      refine lv_aload_n hx hb dX3_play_13 rfl (lv_at hl 1 rfl) ?_
      refine va_getN (D := D) (ci := 4) (v := .ref (aR 13)) (C := RX4) (T := TX4) (N := 16) hx hb hw inW_X4 hown hK hP 17 rfl rfl 6 (by decide) hn75 (fun _ h9 => h9) rfl dX3_play_14 ?_
      refine va_getN (D := D) (ci := 9) (v := .int (rs 14)) (C := RX9) (T := TX9) (N := 6) hx hb hw inW_X9 hown hK hP 30 rfl rfl 0 (by decide) hn79 (fun _ h9 => h9) rfl dX3_play_17 ?_
      refine lv_icmp_ge (tgt := 43) hx hb dX3_play_20 (by decide) (fun c1 => ?_) (fun c1 => ?_)
      · have h := h.1 c1
        rw [← hQ]
        exact cRetV (aN, ns, na, nl) hx hb hr hlocks hS hP hD h dX3_play_43
      · have h := h.2 c1
        refine lv_aload_n hx hb dX3_play_23 rfl (lv_at hl 0 rfl) ?_
        refine lv_iload_n hx hb dX3_play_24 rfl (lv_at hl 2 rfl) ?_
        refine lv_aload_n hx hb dX3_play_25 rfl (lv_at hl 1 rfl) ?_
        refine va_getN (D := D) (ci := 4) (v := .ref (aR 13)) (C := RX4) (T := TX4) (N := 16) hx hb hw inW_X4 hown hK hP 17 rfl rfl 6 (by decide) hn75 (fun _ h9 => h9) rfl dX3_play_26 ?_
        refine va_getN (D := D) (ci := 9) (v := .ref (aR 15)) (C := RX9) (T := TX9) (N := 6) hx hb hw inW_X9 hown hK hP 30 rfl rfl 2 (by decide) hn107 (fun _ h9 => h9) rfl dX3_play_29 ?_
        refine lv_iload_n hx hb dX3_play_32 rfl (lv_at hl 2 rfl) ?_
        refine cIald hx hb hK hP 32 0 rfl rfl x2_.toNatClampNeg rfl h.1 dX3_play_33 ?_
        have h := h.2
        refine gs_V9_30 (rs_V9_26 (As := [.int x2_, .int (ra 10 x2_.toNatClampNeg)]) (rest := []) ⟨hx, hb, hml, hown, hw⟩ hK hN hP hD (k_X3_letCome l D C _ n0 aN  ns na nl x2_ (ra 10 x2_.toNatClampNeg) h) (cwV 2 hw (goodV mw_4_39 mw_4_41 mw_s52 mw_1_11 mw_4_42) rfl rfl rfl (by decide +kernel) ⟨Nat.le_of_ble_eq_true rfl, Nat.le_of_ble_eq_true rfl⟩) rfl rfl rfl hl.1 rfl (Nat.le_of_ble_eq_true rfl) dX3_play_34 ⟨Nat.zero_le _, Nat.zero_le _⟩) hP hD hS hA (fun u H locs h hP hD hS => ?_)
        obtain ⟨aN2, ns_3, na_4, nl_5⟩ := u
        have hP : va_P D vwCl (List.flatten (wNight n0 aN2 C ns_3 na_4 nl_5 ++ (wRail aR C rs ra))) H := hP
        have hD : va_D A (List.flatten (wNight n0 aN2 C ns_3 na_4 nl_5 ++ (wRail aR C rs ra))) := hD
        refine lv_iinc (v := (x2_ + 1)) (lv' := [(2, .int (x2_ + 1)), (0, .ref n0), (1, .ref (aR 0))]) hx hb dX3_play_37 hl (k := 2) rfl rfl (by decide) rfl (fun ls hl => ?_)
        refine lv_goto (tgt := 12) hx hb dX3_play_40 (by decide) ?_
        exact ih12 (x2_ + 1) ns_3 na_4 nl_5 aN2 _ _ _ h hP hD hS (lv_sub hl [1, 2, 0] rfl)
  refine lv_aload_n hx hb dX3_play_0 rfl (lv_at hl 0 rfl) ?_
  refine lv_aload_n hx hb dX3_play_1 rfl (lv_at hl 1 rfl) ?_
  refine lv_iconst (v := 0) hx hb dX3_play_2 (by decide) ?_
  refine cGoAV (cRunAV (As := [.ref (aR 0), .int 0]) (rest := []) ⟨hx, hb, hml, hown, hw⟩ hK hN hP hD (k_X3_lookAtBaited l D C _ n0 aN aR  ns na nl rs ra 0 h) (cwV 2 hw (goodV mw_3_220 mw_3_222 mw_s41 mw_1_11 mw_3_223) rfl rfl rfl (by decide +kernel) ⟨Nat.le_of_ble_eq_true rfl, Nat.le_of_ble_eq_true rfl⟩) rfl rfl rfl hl.1 rfl (Nat.le_of_ble_eq_true rfl) dX3_play_3 ⟨Nat.zero_le _, Nat.zero_le _⟩) hP hD hS hA (fun u H locs h hP hD hS => ?_)
  obtain ⟨ns_6, na_7⟩ := u
  have hP : va_P D vwCl (List.flatten (wNight n0 aN C ns_6 na_7 nl ++ (wRail aR C rs ra))) H := hP
  have hD : va_D A (List.flatten (wNight n0 aN C ns_6 na_7 nl ++ (wRail aR C rs ra))) := hD
  refine lv_aload_n hx hb dX3_play_6 rfl (lv_at hl 0 rfl) ?_
  refine gs_V9_30 (rs_V9_26 (As := []) (rest := []) ⟨hx, hb, hml, hown, hw⟩ hK hN hP hD (k_X3_begin l D C _ n0 aN  ns_6 na_7 nl  h) (cwV 0 hw (goodV mw_4_25 mw_4_27 mw_s49 mw_1_11 mw_4_28) rfl rfl rfl (by decide +kernel) ⟨Nat.le_of_ble_eq_true rfl, Nat.le_of_ble_eq_true rfl⟩) rfl rfl rfl hl.1 rfl (Nat.le_of_ble_eq_true rfl) dX3_play_7 ⟨Nat.zero_le _, Nat.zero_le _⟩) hP hD hS hA (fun u H locs h hP hD hS => ?_)
  obtain ⟨ns_8, na_9, nl_10⟩ := u
  have hP : va_P D vwCl (List.flatten (wNight n0 aN C ns_8 na_9 nl_10 ++ (wRail aR C rs ra))) H := hP
  have hD : va_D A (List.flatten (wNight n0 aN C ns_8 na_9 nl_10 ++ (wRail aR C rs ra))) := hD
  refine lv_iconst (v := 0) hx hb dX3_play_10 (by decide) ?_
  refine lv_istore_n (lv' := [(2, .int 0), (0, .ref n0), (1, .ref (aR 0))]) hx hb dX3_play_11 rfl hl (by decide) rfl (fun ls hl => ?_)
  obtain ⟨n, h⟩ := h
  exact N12  n 0 ns_8 na_9 nl_10 aN _ _ _ h hP hD hS (lv_sub hl [1, 2, 0] rfl)
abbrev vsX3_partsOf : List Cond := Cond.code yX3_partsOf cX3_partsOf 5 (some .long) :: WS
abbrev rmX3_partsOf : Room := { frames := 0, cells := 0, slots := 0, locals := 0 }
set_option maxHeartbeats 4000000 in
set_option maxRecDepth 100000 in
theorem k_X3_partsOf (l : Launch) (D : va_G) (C : Nat → ClassId) (sz : Nat) (n0 : Nat) (aN : Nat → Nat)  (ns : Nat → Int32) (na : Nat → Nat → Int32) (nl : Nat → Nat → Int64) (p1 : Int32) {post : Int64 → Prop} (h : P_X3_partsOf ns na nl p1 post) : Met l yX3_partsOf vsX3_partsOf rmX3_partsOf (cPre D C [.ref n0, .int p1] sz (wNight n0 aN C ns na nl)) (cQl D (fun (r : Int64) (u : Unit) => post r ) (fun u => wNight n0 aN C ns na nl) (va_A (List.flatten (wNight n0 aN C ns na nl)) sz)) 0 0 (va_A (List.flatten (wNight n0 aN C ns na nl)) sz) := by
  refine cStart (QA := fun A => cQl D (fun (r : Int64) (u : Unit) => post r ) (fun u => wNight n0 aN C ns na nl) A) (cc := cX3_partsOf) (maxL := 5) (ret := (some .long)) (by decide) (Nat.le_of_ble_eq_true rfl) ?_
  intro p e s m args below meth c A ls hx hb hr hml hown hw hlocks hname hK hN hA hP hD hS hl
  generalize hQ : MQ below _ args s 0 0 A = Q
  have hl : lv_has ls 5 [(0, .ref n0), (1, .int p1)] := hl
  have hn123 : (Cond.fieldLinkNest "LockRail$Night" 123 "LockRail$Spread" "size" "I" "LockRail").before args s = true := hN.f 75 rfl
  have hn126 : (Cond.fieldLinkNest "LockRail$Night" 126 "LockRail$Spread" "states" "[I" "LockRail").before args s = true := hN.f 76 rfl
  have hn129 : (Cond.fieldLinkNest "LockRail$Night" 129 "LockRail$Spread" "parts" "[J" "LockRail").before args s = true := hN.f 77 rfl
  obtain ⟨H, hH⟩ : ∃ H, H = s.heap := ⟨_, rfl⟩
  obtain ⟨locs, hlo⟩ : ∃ z : List Loc, z = [] := ⟨_, rfl⟩
  have hP : va_P D vwCl (List.flatten (wNight n0 aN C ns na nl)) H := by rw [hH]; exact hP
  have hS : va_S A s.heap H locs := by rw [hH, hlo]; exact hS
  rw [show W p l e rmX3_partsOf s m args below meth c s.heap [] 0 0 Q (F0 m 0 ls []) = W p l e rmX3_partsOf s m args below meth c H locs 0 0 Q (F0 m 0 ls []) from by rw [hH, hlo]]
  have N5 : ∀  (n5 : Nat) (x2_ : Int64) (x4_ : Int32) (H : Heap) (locs : List Loc) (ls : Array Slot), P_X3_partsOf_5 ns na nl p1 post   n5 x2_ x4_ → va_P D vwCl (List.flatten (wNight n0 aN C ns na nl)) H → va_D A (List.flatten (wNight n0 aN C ns na nl)) → va_S A s.heap H locs → lv_has ls 5 [(0, .ref n0), (1, .int p1), (2, .long x2_), (4, .int x4_)] → W p l e rmX3_partsOf s m args below meth c H locs 0 0 Q (F0 m 5 ls []) := by
    intro n5
    induction n5 with
    | zero => intro x2_ x4_ H locs ls h hP hD hS hl; exact False.elim h
    | succ n5 ih5 =>
      intro x2_ x4_ H locs ls h hP hD hS hl
      refine lv_iload hx hb dX3_partsOf_5 (lv_at hl 3 rfl) ?_
      refine lv_aload_n hx hb dX3_partsOf_7 rfl (lv_at hl 0 rfl) ?_
      refine va_get (D := D) (ci := 3) (v := .ref (aN 7)) (C := RX3) (T := TX3) (N := 10) hx hb hw inW_X3 hown hK hP 0 rfl rfl 6 (by decide) (hw _ mw_2_116) (fun _ h9 => h9) rfl dX3_partsOf_8 ?_
      refine va_getN (D := D) (ci := 7) (v := .int (ns 2)) (C := RX7) (T := TX7) (N := 5) hx hb hw inW_X7 hown hK hP 7 rfl rfl 0 (by decide) hn123 (fun _ h9 => h9) rfl dX3_partsOf_11 ?_
      refine lv_icmp_ge (tgt := 50) hx hb dX3_partsOf_14 (by decide) (fun c1 => ?_) (fun c1 => ?_)
      · have h := h.1 c1
        refine lv_lload_n hx hb dX3_partsOf_50 rfl (lv_at hl 2 rfl) ?_
        rw [← hQ]
        exact cRetL (v := x2_) () hx hb hr hlocks hS hP hD h dX3_partsOf_51
      · have h := h.2 c1
        refine lv_aload_n hx hb dX3_partsOf_17 rfl (lv_at hl 0 rfl) ?_
        refine va_get (D := D) (ci := 3) (v := .ref (aN 7)) (C := RX3) (T := TX3) (N := 10) hx hb hw inW_X3 hown hK hP 0 rfl rfl 6 (by decide) (hw _ mw_2_116) (fun _ h9 => h9) rfl dX3_partsOf_18 ?_
        refine va_getN (D := D) (ci := 7) (v := .ref (aN 8)) (C := RX7) (T := TX7) (N := 5) hx hb hw inW_X7 hown hK hP 7 rfl rfl 1 (by decide) hn126 (fun _ h9 => h9) rfl dX3_partsOf_21 ?_
        refine lv_iload hx hb dX3_partsOf_24 (lv_at hl 3 rfl) ?_
        refine cIald hx hb hK hP 8 0 rfl rfl x4_.toNatClampNeg rfl h.1 dX3_partsOf_26 ?_
        have h := h.2
        refine lv_iload_n hx hb dX3_partsOf_27 rfl (lv_at hl 1 rfl) ?_
        refine lv_icmp_ne (tgt := 44) hx hb dX3_partsOf_28 (by decide) (fun c2 => ?_) (fun c2 => ?_)
        · have h := h.1 c2
          refine lv_iinc (v := (x4_ + 1)) (lv' := [(4, .int (x4_ + 1)), (0, .ref n0), (1, .int p1), (2, .long x2_)]) hx hb dX3_partsOf_44 hl (k := 3) rfl rfl (by decide) rfl (fun ls hl => ?_)
          refine lv_goto (tgt := 5) hx hb dX3_partsOf_47 (by decide) ?_
          exact ih5 x2_ (x4_ + 1) _ _ _ h hP hD hS (lv_sub hl [1, 2, 3, 0] rfl)
        · have h := h.2 c2
          refine lv_lload_n hx hb dX3_partsOf_31 rfl (lv_at hl 2 rfl) ?_
          refine lv_aload_n hx hb dX3_partsOf_32 rfl (lv_at hl 0 rfl) ?_
          refine va_get (D := D) (ci := 3) (v := .ref (aN 7)) (C := RX3) (T := TX3) (N := 10) hx hb hw inW_X3 hown hK hP 0 rfl rfl 6 (by decide) (hw _ mw_2_116) (fun _ h9 => h9) rfl dX3_partsOf_33 ?_
          refine va_getN (D := D) (ci := 7) (v := .ref (aN 9)) (C := RX7) (T := TX7) (N := 5) hx hb hw inW_X7 hown hK hP 7 rfl rfl 2 (by decide) hn129 (fun _ h9 => h9) rfl dX3_partsOf_36 ?_
          refine lv_iload hx hb dX3_partsOf_39 (lv_at hl 3 rfl) ?_
          refine cLald hx hb hK hP 9 1 rfl rfl x4_.toNatClampNeg rfl h.1 dX3_partsOf_41 ?_
          have h := h.2
          refine lv_ladd hx hb dX3_partsOf_42 ?_
          refine lv_topl (fun x3 ex3 => ?_)
          have h := h x3 ex3
          refine lv_lstore_n (lv' := [(2, .long x3), (0, .ref n0), (1, .int p1), (4, .int x4_)]) hx hb dX3_partsOf_43 rfl hl (by decide) rfl (fun ls hl => ?_)
          refine lv_iinc (v := (x4_ + 1)) (lv' := [(4, .int (x4_ + 1)), (2, .long x3), (0, .ref n0), (1, .int p1)]) hx hb dX3_partsOf_44 hl (k := 3) rfl rfl (by decide) rfl (fun ls hl => ?_)
          refine lv_goto (tgt := 5) hx hb dX3_partsOf_47 (by decide) ?_
          exact ih5 x3 (x4_ + 1) _ _ _ h hP hD hS (lv_sub hl [2, 3, 1, 0] rfl)
  refine lv_lconst (v := 0) hx hb dX3_partsOf_0 (by decide) ?_
  refine lv_lstore_n (lv' := [(2, .long 0), (0, .ref n0), (1, .int p1)]) hx hb dX3_partsOf_1 rfl hl (by decide) rfl (fun ls hl => ?_)
  refine lv_iconst (v := 0) hx hb dX3_partsOf_2 (by decide) ?_
  refine lv_istore (lv' := [(4, .int 0), (2, .long 0), (0, .ref n0), (1, .int p1)]) hx hb dX3_partsOf_3 hl (by decide) rfl (fun ls hl => ?_)
  obtain ⟨n, h⟩ := h
  exact N5  n 0 0 _ _ _ h hP hD hS (lv_sub hl [2, 3, 1, 0] rfl)
abbrev vsX3_partsOfMany : List Cond := Cond.code yX3_partsOfMany cX3_partsOfMany 5 (some .long) :: WS
abbrev rmX3_partsOfMany : Room := { frames := 1, cells := 0, slots := 0, locals := 20 }
set_option maxHeartbeats 4000000 in
set_option maxRecDepth 100000 in
theorem k_X3_partsOfMany (l : Launch) (D : va_G) (C : Nat → ClassId) (sz : Nat) (n0 : Nat) (aN : Nat → Nat)  (ns : Nat → Int32) (na : Nat → Nat → Int32) (nl : Nat → Nat → Int64) (p1 : Int32) {post : Int64 → Prop} (h : P_X3_partsOfMany ns na nl p1 post) : Met l yX3_partsOfMany vsX3_partsOfMany rmX3_partsOfMany (cPre D C [.ref n0, .int p1] sz (wNight n0 aN C ns na nl)) (cQl D (fun (r : Int64) (u : Unit) => post r ) (fun u => wNight n0 aN C ns na nl) (va_A (List.flatten (wNight n0 aN C ns na nl)) sz)) 0 0 (va_A (List.flatten (wNight n0 aN C ns na nl)) sz) := by
  refine cStart (QA := fun A => cQl D (fun (r : Int64) (u : Unit) => post r ) (fun u => wNight n0 aN C ns na nl) A) (cc := cX3_partsOfMany) (maxL := 5) (ret := (some .long)) (by decide) (Nat.le_of_ble_eq_true rfl) ?_
  intro p e s m args below meth c A ls hx hb hr hml hown hw hlocks hname hK hN hA hP hD hS hl
  generalize hQ : MQ below _ args s 0 0 A = Q
  have hl : lv_has ls 5 [(0, .ref n0), (1, .int p1)] := hl
  have hn123 : (Cond.fieldLinkNest "LockRail$Night" 123 "LockRail$Spread" "size" "I" "LockRail").before args s = true := hN.f 75 rfl
  have hn126 : (Cond.fieldLinkNest "LockRail$Night" 126 "LockRail$Spread" "states" "[I" "LockRail").before args s = true := hN.f 76 rfl
  have hn129 : (Cond.fieldLinkNest "LockRail$Night" 129 "LockRail$Spread" "parts" "[J" "LockRail").before args s = true := hN.f 77 rfl
  obtain ⟨H, hH⟩ : ∃ H, H = s.heap := ⟨_, rfl⟩
  obtain ⟨locs, hlo⟩ : ∃ z : List Loc, z = [] := ⟨_, rfl⟩
  have hP : va_P D vwCl (List.flatten (wNight n0 aN C ns na nl)) H := by rw [hH]; exact hP
  have hS : va_S A s.heap H locs := by rw [hH, hlo]; exact hS
  rw [show W p l e rmX3_partsOfMany s m args below meth c s.heap [] 0 0 Q (F0 m 0 ls []) = W p l e rmX3_partsOfMany s m args below meth c H locs 0 0 Q (F0 m 0 ls []) from by rw [hH, hlo]]
  have N5 : ∀  (n5 : Nat) (x2_ : Int64) (x4_ : Int32) (H : Heap) (locs : List Loc) (ls : Array Slot), P_X3_partsOfMany_5 ns na nl p1 post   n5 x2_ x4_ → va_P D vwCl (List.flatten (wNight n0 aN C ns na nl)) H → va_D A (List.flatten (wNight n0 aN C ns na nl)) → va_S A s.heap H locs → lv_has ls 5 [(0, .ref n0), (1, .int p1), (2, .long x2_), (4, .int x4_)] → W p l e rmX3_partsOfMany s m args below meth c H locs 0 0 Q (F0 m 5 ls []) := by
    intro n5
    induction n5 with
    | zero => intro x2_ x4_ H locs ls h hP hD hS hl; exact False.elim h
    | succ n5 ih5 =>
      intro x2_ x4_ H locs ls h hP hD hS hl
      refine lv_iload hx hb dX3_partsOfMany_5 (lv_at hl 3 rfl) ?_
      refine lv_aload_n hx hb dX3_partsOfMany_7 rfl (lv_at hl 0 rfl) ?_
      refine va_get (D := D) (ci := 3) (v := .ref (aN 7)) (C := RX3) (T := TX3) (N := 10) hx hb hw inW_X3 hown hK hP 0 rfl rfl 6 (by decide) (hw _ mw_2_116) (fun _ h9 => h9) rfl dX3_partsOfMany_8 ?_
      refine va_getN (D := D) (ci := 7) (v := .int (ns 2)) (C := RX7) (T := TX7) (N := 5) hx hb hw inW_X7 hown hK hP 7 rfl rfl 0 (by decide) hn123 (fun _ h9 => h9) rfl dX3_partsOfMany_11 ?_
      refine lv_icmp_ge (tgt := 57) hx hb dX3_partsOfMany_14 (by decide) (fun c1 => ?_) (fun c1 => ?_)
      · have h := h.1 c1
        refine lv_lload_n hx hb dX3_partsOfMany_57 rfl (lv_at hl 2 rfl) ?_
        rw [← hQ]
        exact cRetL (v := x2_) () hx hb hr hlocks hS hP hD h dX3_partsOfMany_58
      · have h := h.2 c1
        refine lv_aload_n hx hb dX3_partsOfMany_17 rfl (lv_at hl 0 rfl) ?_
        refine va_get (D := D) (ci := 3) (v := .ref (aN 7)) (C := RX3) (T := TX3) (N := 10) hx hb hw inW_X3 hown hK hP 0 rfl rfl 6 (by decide) (hw _ mw_2_116) (fun _ h9 => h9) rfl dX3_partsOfMany_18 ?_
        refine va_getN (D := D) (ci := 7) (v := .ref (aN 8)) (C := RX7) (T := TX7) (N := 5) hx hb hw inW_X7 hown hK hP 7 rfl rfl 1 (by decide) hn126 (fun _ h9 => h9) rfl dX3_partsOfMany_21 ?_
        refine lv_iload hx hb dX3_partsOfMany_24 (lv_at hl 3 rfl) ?_
        refine cIald hx hb hK hP 8 0 rfl rfl x4_.toNatClampNeg rfl h.1 dX3_partsOfMany_26 ?_
        have h := h.2
        refine lv_sipush (v := 2047) hx hb dX3_partsOfMany_27 (by decide) ?_
        refine lv_iand hx hb dX3_partsOfMany_30 ?_
        refine cGoEI (cRunES (As := [.int ((na 5 x4_.toNatClampNeg) &&& 2047)]) (rest := []) ⟨hx, hb, hml, hown, hw⟩ hK hN hP hD (k_J6_bitCount_0f7a4 l D C _    ((na 5 x4_.toNatClampNeg) &&& 2047) h) (va_cwS 1 hw (goodS mw_4_71 mw_4_72 mw_1_20 mw_4_73) rfl rfl rfl (by decide +kernel) ⟨Nat.le_of_ble_eq_true rfl, Nat.le_of_ble_eq_true rfl⟩) rfl hl.1 rfl (Nat.le_of_ble_eq_true rfl) dX3_partsOfMany_31 ⟨Nat.zero_le _, Nat.zero_le _⟩) hP hD hS hA (fun r2 u H locs h hP hD hS => ?_)
        have hP : va_P D vwCl (List.flatten (wNight n0 aN C ns na nl)) H := hP
        have hD : va_D A (List.flatten (wNight n0 aN C ns na nl)) := hD
        refine lv_iload_n hx hb dX3_partsOfMany_34 rfl (lv_at hl 1 rfl) ?_
        refine lv_icmp_ne (tgt := 51) hx hb dX3_partsOfMany_35 (by decide) (fun c3 => ?_) (fun c3 => ?_)
        · have h := h.1 c3
          refine lv_iinc (v := (x4_ + 1)) (lv' := [(4, .int (x4_ + 1)), (0, .ref n0), (1, .int p1), (2, .long x2_)]) hx hb dX3_partsOfMany_51 hl (k := 3) rfl rfl (by decide) rfl (fun ls hl => ?_)
          refine lv_goto (tgt := 5) hx hb dX3_partsOfMany_54 (by decide) ?_
          exact ih5 x2_ (x4_ + 1) _ _ _ h hP hD hS (lv_sub hl [1, 2, 3, 0] rfl)
        · have h := h.2 c3
          refine lv_lload_n hx hb dX3_partsOfMany_38 rfl (lv_at hl 2 rfl) ?_
          refine lv_aload_n hx hb dX3_partsOfMany_39 rfl (lv_at hl 0 rfl) ?_
          refine va_get (D := D) (ci := 3) (v := .ref (aN 7)) (C := RX3) (T := TX3) (N := 10) hx hb hw inW_X3 hown hK hP 0 rfl rfl 6 (by decide) (hw _ mw_2_116) (fun _ h9 => h9) rfl dX3_partsOfMany_40 ?_
          refine va_getN (D := D) (ci := 7) (v := .ref (aN 9)) (C := RX7) (T := TX7) (N := 5) hx hb hw inW_X7 hown hK hP 7 rfl rfl 2 (by decide) hn129 (fun _ h9 => h9) rfl dX3_partsOfMany_43 ?_
          refine lv_iload hx hb dX3_partsOfMany_46 (lv_at hl 3 rfl) ?_
          refine cLald hx hb hK hP 9 1 rfl rfl x4_.toNatClampNeg rfl h.1 dX3_partsOfMany_48 ?_
          have h := h.2
          refine lv_ladd hx hb dX3_partsOfMany_49 ?_
          refine lv_topl (fun x4 ex4 => ?_)
          have h := h x4 ex4
          refine lv_lstore_n (lv' := [(2, .long x4), (0, .ref n0), (1, .int p1), (4, .int x4_)]) hx hb dX3_partsOfMany_50 rfl hl (by decide) rfl (fun ls hl => ?_)
          refine lv_iinc (v := (x4_ + 1)) (lv' := [(4, .int (x4_ + 1)), (2, .long x4), (0, .ref n0), (1, .int p1)]) hx hb dX3_partsOfMany_51 hl (k := 3) rfl rfl (by decide) rfl (fun ls hl => ?_)
          refine lv_goto (tgt := 5) hx hb dX3_partsOfMany_54 (by decide) ?_
          exact ih5 x4 (x4_ + 1) _ _ _ h hP hD hS (lv_sub hl [2, 3, 1, 0] rfl)
  refine lv_lconst (v := 0) hx hb dX3_partsOfMany_0 (by decide) ?_
  refine lv_lstore_n (lv' := [(2, .long 0), (0, .ref n0), (1, .int p1)]) hx hb dX3_partsOfMany_1 rfl hl (by decide) rfl (fun ls hl => ?_)
  refine lv_iconst (v := 0) hx hb dX3_partsOfMany_2 (by decide) ?_
  refine lv_istore (lv' := [(4, .int 0), (2, .long 0), (0, .ref n0), (1, .int p1)]) hx hb dX3_partsOfMany_3 hl (by decide) rfl (fun ls hl => ?_)
  obtain ⟨n, h⟩ := h
  exact N5  n 0 0 _ _ _ h hP hD hS (lv_sub hl [2, 3, 1, 0] rfl)
abbrev vsX3_hadBy : List Cond := Cond.code yX3_hadBy cX3_hadBy 3 (some .long) :: WS
abbrev rmX3_hadBy : Room := { frames := 0, cells := 0, slots := 0, locals := 0 }
set_option maxHeartbeats 4000000 in
set_option maxRecDepth 100000 in
theorem k_X3_hadBy (l : Launch) (D : va_G) (C : Nat → ClassId) (sz : Nat) (n0 : Nat) (aN : Nat → Nat)  (ns : Nat → Int32) (na : Nat → Nat → Int32) (nl : Nat → Nat → Int64) (p1 : Int32) (p2 : Int32) {post : Int64 → Prop} (h : P_X3_hadBy nl p1 p2 post) : Met l yX3_hadBy vsX3_hadBy rmX3_hadBy (cPre D C [.ref n0, .int p1, .int p2] sz (wNight n0 aN C ns na nl)) (cQl D (fun (r : Int64) (u : Unit) => post r ) (fun u => wNight n0 aN C ns na nl) (va_A (List.flatten (wNight n0 aN C ns na nl)) sz)) 0 0 (va_A (List.flatten (wNight n0 aN C ns na nl)) sz) := by
  refine cStart (QA := fun A => cQl D (fun (r : Int64) (u : Unit) => post r ) (fun u => wNight n0 aN C ns na nl) A) (cc := cX3_hadBy) (maxL := 3) (ret := (some .long)) (by decide) (Nat.le_of_ble_eq_true rfl) ?_
  intro p e s m args below meth c A ls hx hb hr hml hown hw hlocks hname hK hN hA hP hD hS hl
  generalize hQ : MQ below _ args s 0 0 A = Q
  have hl : lv_has ls 3 [(0, .ref n0), (1, .int p1), (2, .int p2)] := hl
  obtain ⟨H, hH⟩ : ∃ H, H = s.heap := ⟨_, rfl⟩
  obtain ⟨locs, hlo⟩ : ∃ z : List Loc, z = [] := ⟨_, rfl⟩
  have hP : va_P D vwCl (List.flatten (wNight n0 aN C ns na nl)) H := by rw [hH]; exact hP
  have hS : va_S A s.heap H locs := by rw [hH, hlo]; exact hS
  rw [show W p l e rmX3_hadBy s m args below meth c s.heap [] 0 0 Q (F0 m 0 ls []) = W p l e rmX3_hadBy s m args below meth c H locs 0 0 Q (F0 m 0 ls []) from by rw [hH, hlo]]
  refine lv_aload_n hx hb dX3_hadBy_0 rfl (lv_at hl 0 rfl) ?_
  refine va_get (D := D) (ci := 3) (v := .ref (aN 6)) (C := RX3) (T := TX3) (N := 10) hx hb hw inW_X3 hown hK hP 0 rfl rfl 5 (by decide) (hw _ mw_2_115) (fun _ h9 => h9) rfl dX3_hadBy_1 ?_
  refine lv_iload_n hx hb dX3_hadBy_4 rfl (lv_at hl 1 rfl) ?_
  refine lv_bipush (v := 10) hx hb dX3_hadBy_5 (by decide) ?_
  refine lv_imul hx hb dX3_hadBy_7 ?_
  refine lv_iload_n hx hb dX3_hadBy_8 rfl (lv_at hl 2 rfl) ?_
  refine lv_iadd hx hb dX3_hadBy_9 ?_
  refine cLald hx hb hK hP 6 1 rfl rfl (((p1 * 10) + p2).toNatClampNeg) rfl h.1 dX3_hadBy_10 ?_
  have h := h.2
  rw [← hQ]
  exact cRetL (v := (nl 0 (((p1 * 10) + p2).toNatClampNeg))) () hx hb hr hlocks hS hP hD h dX3_hadBy_11
abbrev vsX3_riskOf : List Cond := Cond.code yX3_riskOf cX3_riskOf 5 (some .long) :: WS
abbrev rmX3_riskOf : Room := { frames := 1, cells := 0, slots := 0, locals := 22 }
set_option maxHeartbeats 4000000 in
set_option maxRecDepth 100000 in
theorem k_X3_riskOf (l : Launch) (D : va_G) (C : Nat → ClassId) (sz : Nat) (n0 : Nat) (aN : Nat → Nat)  (ns : Nat → Int32) (na : Nat → Nat → Int32) (nl : Nat → Nat → Int64) (p1 : Int32) {post : Int64 → Prop} (h : P_X3_riskOf nl p1 post) : Met l yX3_riskOf vsX3_riskOf rmX3_riskOf (cPre D C [.ref n0, .int p1] sz (wNight n0 aN C ns na nl)) (cQl D (fun (r : Int64) (u : Unit) => post r ) (fun u => wNight n0 aN C ns na nl) (va_A (List.flatten (wNight n0 aN C ns na nl)) sz)) 0 0 (va_A (List.flatten (wNight n0 aN C ns na nl)) sz) := by
  refine cStart (QA := fun A => cQl D (fun (r : Int64) (u : Unit) => post r ) (fun u => wNight n0 aN C ns na nl) A) (cc := cX3_riskOf) (maxL := 5) (ret := (some .long)) (by decide) (Nat.le_of_ble_eq_true rfl) ?_
  intro p e s m args below meth c A ls hx hb hr hml hown hw hlocks hname hK hN hA hP hD hS hl
  generalize hQ : MQ below _ args s 0 0 A = Q
  have hl : lv_has ls 5 [(0, .ref n0), (1, .int p1)] := hl
  obtain ⟨H, hH⟩ : ∃ H, H = s.heap := ⟨_, rfl⟩
  obtain ⟨locs, hlo⟩ : ∃ z : List Loc, z = [] := ⟨_, rfl⟩
  have hP : va_P D vwCl (List.flatten (wNight n0 aN C ns na nl)) H := by rw [hH]; exact hP
  have hS : va_S A s.heap H locs := by rw [hH, hlo]; exact hS
  rw [show W p l e rmX3_riskOf s m args below meth c s.heap [] 0 0 Q (F0 m 0 ls []) = W p l e rmX3_riskOf s m args below meth c H locs 0 0 Q (F0 m 0 ls []) from by rw [hH, hlo]]
  have N5 : ∀  (n5 : Nat) (x2_ : Int64) (x4_ : Int32) (H : Heap) (locs : List Loc) (ls : Array Slot), P_X3_riskOf_5 nl p1 post   n5 x2_ x4_ → va_P D vwCl (List.flatten (wNight n0 aN C ns na nl)) H → va_D A (List.flatten (wNight n0 aN C ns na nl)) → va_S A s.heap H locs → lv_has ls 5 [(0, .ref n0), (1, .int p1), (2, .long x2_), (4, .int x4_)] → W p l e rmX3_riskOf s m args below meth c H locs 0 0 Q (F0 m 5 ls []) := by
    intro n5
    induction n5 with
    | zero => intro x2_ x4_ H locs ls h hP hD hS hl; exact False.elim h
    | succ n5 ih5 =>
      intro x2_ x4_ H locs ls h hP hD hS hl
      refine lv_iload hx hb dX3_riskOf_5 (lv_at hl 3 rfl) ?_
      refine lv_bipush (v := 6) hx hb dX3_riskOf_7 (by decide) ?_
      refine lv_icmp_ge (tgt := 28) hx hb dX3_riskOf_9 (by decide) (fun c1 => ?_) (fun c1 => ?_)
      · have h := h.1 c1
        refine lv_lload_n hx hb dX3_riskOf_28 rfl (lv_at hl 2 rfl) ?_
        rw [← hQ]
        exact cRetL (v := x2_) () hx hb hr hlocks hS hP hD h dX3_riskOf_29
      · have h := h.2 c1
        refine lv_lload_n hx hb dX3_riskOf_12 rfl (lv_at hl 2 rfl) ?_
        refine lv_aload_n hx hb dX3_riskOf_13 rfl (lv_at hl 0 rfl) ?_
        refine lv_iload hx hb dX3_riskOf_14 (lv_at hl 3 rfl) ?_
        refine lv_iload_n hx hb dX3_riskOf_16 rfl (lv_at hl 1 rfl) ?_
        refine cGoAL (cRunAV (As := [.int x4_, .int p1]) (rest := [.long x2_]) ⟨hx, hb, hml, hown, hw⟩ hK hN hP hD (k_X3_hadBy l D C _ n0 aN  ns na nl x4_ p1 h) (cwV 2 hw (goodV mw_4_85 mw_4_87 mw_s58 mw_1_11 mw_4_88) rfl rfl rfl (by decide +kernel) ⟨Nat.le_of_ble_eq_true rfl, Nat.le_of_ble_eq_true rfl⟩) rfl rfl rfl hl.1 rfl (Nat.le_of_ble_eq_true rfl) dX3_riskOf_17 ⟨Nat.zero_le _, Nat.zero_le _⟩) hP hD hS hA (fun r2 u H locs h hP hD hS => ?_)
        have hP : va_P D vwCl (List.flatten (wNight n0 aN C ns na nl)) H := hP
        have hD : va_D A (List.flatten (wNight n0 aN C ns na nl)) := hD
        refine lv_ladd hx hb dX3_riskOf_20 ?_
        refine lv_topl (fun x3 ex3 => ?_)
        have h := h x3 ex3
        refine lv_lstore_n (lv' := [(2, .long x3), (0, .ref n0), (1, .int p1), (4, .int x4_)]) hx hb dX3_riskOf_21 rfl hl (by decide) rfl (fun ls hl => ?_)
        refine lv_iinc (v := (x4_ + 1)) (lv' := [(4, .int (x4_ + 1)), (2, .long x3), (0, .ref n0), (1, .int p1)]) hx hb dX3_riskOf_22 hl (k := 3) rfl rfl (by decide) rfl (fun ls hl => ?_)
        refine lv_goto (tgt := 5) hx hb dX3_riskOf_25 (by decide) ?_
        exact ih5 x3 (x4_ + 1) _ _ _ h hP hD hS (lv_sub hl [2, 3, 1, 0] rfl)
  refine lv_lconst (v := 0) hx hb dX3_riskOf_0 (by decide) ?_
  refine lv_lstore_n (lv' := [(2, .long 0), (0, .ref n0), (1, .int p1)]) hx hb dX3_riskOf_1 rfl hl (by decide) rfl (fun ls hl => ?_)
  refine lv_iconst (v := 0) hx hb dX3_riskOf_2 (by decide) ?_
  refine lv_istore (lv' := [(4, .int 0), (2, .long 0), (0, .ref n0), (1, .int p1)]) hx hb dX3_riskOf_3 hl (by decide) rfl (fun ls hl => ?_)
  obtain ⟨n, h⟩ := h
  exact N5  n 0 0 _ _ _ h hP hD hS (lv_sub hl [2, 3, 1, 0] rfl)
abbrev vsX3_costOf : List Cond := Cond.code yX3_costOf cX3_costOf 8 (some .long) :: WS
abbrev rmX3_costOf : Room := { frames := 2, cells := 0, slots := 0, locals := 46 }
set_option maxHeartbeats 4000000 in
set_option maxRecDepth 100000 in
theorem k_X3_costOf (l : Launch) (D : va_G) (C : Nat → ClassId) (sz : Nat) (n0 : Nat) (aN : Nat → Nat) (aR : Nat → Nat)  (ns : Nat → Int32) (na : Nat → Nat → Int32) (nl : Nat → Nat → Int64) (rs : Nat → Int32) (ra : Nat → Nat → Int32) (p2 : Int32) (p3 : Int32) {post : Int64 → Prop} (h : P_X3_costOf nl rs ra p2 p3 post) : Met l yX3_costOf vsX3_costOf rmX3_costOf (cPre D C [.ref n0, .ref (aR 0), .int p2, .int p3] sz (wNight n0 aN C ns na nl ++ (wRail aR C rs ra))) (cQl D (fun (r : Int64) (u : Unit) => post r ) (fun u => wNight n0 aN C ns na nl ++ (wRail aR C rs ra)) (va_A (List.flatten (wNight n0 aN C ns na nl ++ (wRail aR C rs ra))) sz)) 0 0 (va_A (List.flatten (wNight n0 aN C ns na nl ++ (wRail aR C rs ra))) sz) := by
  refine cStart (QA := fun A => cQl D (fun (r : Int64) (u : Unit) => post r ) (fun u => wNight n0 aN C ns na nl ++ (wRail aR C rs ra)) A) (cc := cX3_costOf) (maxL := 8) (ret := (some .long)) (by decide) (Nat.le_of_ble_eq_true rfl) ?_
  intro p e s m args below meth c A ls hx hb hr hml hown hw hlocks hname hK hN hA hP hD hS hl
  generalize hQ : MQ below _ args s 0 0 A = Q
  have hl : lv_has ls 8 [(0, .ref n0), (1, .ref (aR 0)), (2, .int p2), (3, .int p3)] := hl
  have hn154 : (Cond.fieldLinkNest "LockRail$Night" 154 "LockRail$Rail" "nights" "I" "LockRail").before args s = true := hN.f 51 rfl
  have hn45 : (Cond.fieldLinkNest "LockRail$Night" 45 "LockRail$Rail" "bikes" "LLockRail$Bikes;" "LockRail").before args s = true := hN.f 59 rfl
  have hn173 : (Cond.fieldLinkNest "LockRail$Night" 173 "LockRail$Bikes" "worth" "[I" "LockRail").before args s = true := hN.f 23 rfl
  obtain ⟨H, hH⟩ : ∃ H, H = s.heap := ⟨_, rfl⟩
  obtain ⟨locs, hlo⟩ : ∃ z : List Loc, z = [] := ⟨_, rfl⟩
  have hP : va_P D vwCl (List.flatten (wNight n0 aN C ns na nl ++ (wRail aR C rs ra))) H := by rw [hH]; exact hP
  have hS : va_S A s.heap H locs := by rw [hH, hlo]; exact hS
  rw [show W p l e rmX3_costOf s m args below meth c s.heap [] 0 0 Q (F0 m 0 ls []) = W p l e rmX3_costOf s m args below meth c H locs 0 0 Q (F0 m 0 ls []) from by rw [hH, hlo]]
  refine lv_aload_n hx hb dX3_costOf_0 rfl (lv_at hl 1 rfl) ?_
  refine lv_iload_n hx hb dX3_costOf_1 rfl (lv_at hl 2 rfl) ?_
  refine gs_L9_33 (rs_VN9_27 (As := [.int p2]) (rest := []) ⟨hx, hb, hml, hown, hw⟩ hK hN hP hD (k_X4_paidFor l D C _ aR  rs ra p2 h) ⟨va_cnB 1 hw (goodN mw_4_108) rfl rfl rfl (hN.m 53 rfl) (hw _ mw_1_4) (by decide +kernel) ⟨Nat.le_of_ble_eq_true rfl, Nat.le_of_ble_eq_true rfl⟩, hw _ mw_4_107, hw _ mw_s60⟩ rfl rfl rfl hl.1 rfl (Nat.le_of_ble_eq_true rfl) dX3_costOf_2 ⟨Nat.zero_le _, Nat.zero_le _⟩) hP hD hS hA (fun r1 u H locs h hP hD hS => ?_)
  have hP : va_P D vwCl (List.flatten (wNight n0 aN C ns na nl ++ (wRail aR C rs ra))) H := hP
  have hD : va_D A (List.flatten (wNight n0 aN C ns na nl ++ (wRail aR C rs ra))) := hD
  refine lv_lstore (lv' := [(4, .long r1), (0, .ref n0), (1, .ref (aR 0)), (2, .int p2), (3, .int p3)]) hx hb dX3_costOf_5 hl (by decide) rfl (fun ls hl => ?_)
  refine lv_aload_n hx hb dX3_costOf_7 rfl (lv_at hl 2 rfl) ?_
  refine va_getN (D := D) (ci := 4) (v := .int (rs 1)) (C := RX4) (T := TX4) (N := 16) hx hb hw inW_X4 hown hK hP 17 rfl rfl 1 (by decide) hn154 (fun _ h9 => h9) rfl dX3_costOf_8 ?_
  refine lv_i2l hx hb dX3_costOf_11 rfl ?_
  refine lv_aload_n hx hb dX3_costOf_12 rfl (lv_at hl 2 rfl) ?_
  refine va_getN (D := D) (ci := 4) (v := .ref (aR 7)) (C := RX4) (T := TX4) (N := 16) hx hb hw inW_X4 hown hK hP 17 rfl rfl 5 (by decide) hn45 (fun _ h9 => h9) rfl dX3_costOf_13 ?_
  refine va_getN (D := D) (ci := 0) (v := .ref (aR 8)) (C := RX0) (T := TX0) (N := 6) hx hb hw inW_X0 hown hK hP 24 rfl rfl 1 (by decide) hn173 (fun _ h9 => h9) rfl dX3_costOf_16 ?_
  refine lv_iload_n hx hb dX3_costOf_19 rfl (lv_at hl 3 rfl) ?_
  refine cIald hx hb hK hP 25 0 rfl rfl p2.toNatClampNeg rfl h.1 dX3_costOf_20 ?_
  have h := h.2
  refine lv_i2l hx hb dX3_costOf_21 rfl ?_
  refine lv_lmul hx hb dX3_costOf_22 ?_
  refine lv_aload_n hx hb dX3_costOf_23 rfl (lv_at hl 1 rfl) ?_
  refine lv_iload_n hx hb dX3_costOf_24 rfl (lv_at hl 3 rfl) ?_
  refine gs_L9_34 (rs_V9_26 (As := [.int p2]) (rest := [.long ((rs 1).toInt64 * (ra 4 p2.toNatClampNeg).toInt64)]) ⟨hx, hb, hml, hown, hw⟩ hK hN hP hD (k_X3_riskOf l D C _ n0 aN  ns na nl p2 h) (cwV 1 hw (goodV mw_4_110 mw_4_83 mw_s57 mw_1_11 mw_4_84) rfl rfl rfl (by decide +kernel) ⟨Nat.le_of_ble_eq_true rfl, Nat.le_of_ble_eq_true rfl⟩) rfl rfl rfl hl.1 rfl (Nat.le_of_ble_eq_true rfl) dX3_costOf_25 ⟨Nat.zero_le _, Nat.zero_le _⟩) hP hD hS hA (fun r2 u H locs h hP hD hS => ?_)
  have hP : va_P D vwCl (List.flatten (wNight n0 aN C ns na nl ++ (wRail aR C rs ra))) H := hP
  have hD : va_D A (List.flatten (wNight n0 aN C ns na nl ++ (wRail aR C rs ra))) := hD
  refine lv_lmul hx hb dX3_costOf_28 ?_
  refine lv_ldc2 (v := 1000000000) hx hb hown (hw _ mw_4_111) dX3_costOf_29 ?_
  refine lv_ldiv hx hb dX3_costOf_32 (by decide) ?_
  refine lv_topl (fun x3 ex3 => ?_)
  have h := h x3 ex3
  refine lv_lstore (lv' := [(6, .long x3), (4, .long r1), (0, .ref n0), (1, .ref (aR 0)), (2, .int p2), (3, .int p3)]) hx hb dX3_costOf_33 hl (by decide) rfl (fun ls hl => ?_)
  refine lv_iload_n hx hb dX3_costOf_35 rfl (lv_at hl 5 rfl) ?_
  by_cases c4_0 : p3 = 0
  · refine lv_lookup (tgt := 64) hx hb dX3_costOf_36 (by decide) (by rw [c4_0] <;> rfl) (by decide) ?_
    have h := h.1 c4_0
    refine lv_lload hx hb dX3_costOf_64 (lv_at hl 1 rfl) ?_
    rw [← hQ]
    exact cRetL (v := r1) () hx hb hr hlocks hS hP hD h dX3_costOf_66
  by_cases c4_1 : p3 = 1
  · refine lv_lookup (tgt := 67) hx hb dX3_costOf_36 (by decide) (by rw [c4_1] <;> rfl) (by decide) ?_
    have h := h.2.1 c4_1
    refine lv_lload hx hb dX3_costOf_67 (lv_at hl 0 rfl) ?_
    rw [← hQ]
    exact cRetL (v := x3) () hx hb hr hlocks hS hP hD h dX3_costOf_69
  refine lv_lookup (tgt := 70) hx hb dX3_costOf_36 (by decide) (sw_look2 c4_0 c4_1) (by decide) ?_
  have h := h.2.2 c4_0 c4_1
  refine lv_lload hx hb dX3_costOf_70 (lv_at hl 1 rfl) ?_
  refine lv_lload hx hb dX3_costOf_72 (lv_at hl 0 rfl) ?_
  refine lv_ladd hx hb dX3_costOf_74 ?_
  refine lv_aload_n hx hb dX3_costOf_75 rfl (lv_at hl 3 rfl) ?_
  refine gs_L9_33 (rs_VN9_27 (As := []) (rest := [.long (r1 + x3)]) ⟨hx, hb, hml, hown, hw⟩ hK hN hP hD (k_X4_wageShare l D C _ aR  rs ra  h) ⟨va_cnB 0 hw (goodN mw_4_115) rfl rfl rfl (hN.m 54 rfl) (hw _ mw_1_4) (by decide +kernel) ⟨Nat.le_of_ble_eq_true rfl, Nat.le_of_ble_eq_true rfl⟩, hw _ mw_4_114, hw _ mw_s61⟩ rfl rfl rfl hl.1 rfl (Nat.le_of_ble_eq_true rfl) dX3_costOf_76 ⟨Nat.zero_le _, Nat.zero_le _⟩) hP hD hS hA (fun r5 u H locs h hP hD hS => ?_)
  have hP : va_P D vwCl (List.flatten (wNight n0 aN C ns na nl ++ (wRail aR C rs ra))) H := hP
  have hD : va_D A (List.flatten (wNight n0 aN C ns na nl ++ (wRail aR C rs ra))) := hD
  refine lv_ladd hx hb dX3_costOf_79 ?_
  rw [← hQ]
  exact cRetL (v := ((r1 + x3) + r5)) () hx hb hr hlocks hS hP hD h dX3_costOf_80
abbrev vsX3_costOfAll : List Cond := Cond.code yX3_costOfAll cX3_costOfAll 6 (some .long) :: WS
abbrev rmX3_costOfAll : Room := { frames := 3, cells := 0, slots := 0, locals := 73 }
set_option maxHeartbeats 4000000 in
set_option maxRecDepth 100000 in
theorem k_X3_costOfAll (l : Launch) (D : va_G) (C : Nat → ClassId) (sz : Nat) (n0 : Nat) (aN : Nat → Nat) (aR : Nat → Nat)  (ns : Nat → Int32) (na : Nat → Nat → Int32) (nl : Nat → Nat → Int64) (rs : Nat → Int32) (ra : Nat → Nat → Int32) (p2 : Int32) {post : Int64 → Prop} (h : P_X3_costOfAll nl rs ra p2 post) : Met l yX3_costOfAll vsX3_costOfAll rmX3_costOfAll (cPre D C [.ref n0, .ref (aR 0), .int p2] sz (wNight n0 aN C ns na nl ++ (wRail aR C rs ra))) (cQl D (fun (r : Int64) (u : Unit) => post r ) (fun u => wNight n0 aN C ns na nl ++ (wRail aR C rs ra)) (va_A (List.flatten (wNight n0 aN C ns na nl ++ (wRail aR C rs ra))) sz)) 0 0 (va_A (List.flatten (wNight n0 aN C ns na nl ++ (wRail aR C rs ra))) sz) := by
  refine cStart (QA := fun A => cQl D (fun (r : Int64) (u : Unit) => post r ) (fun u => wNight n0 aN C ns na nl ++ (wRail aR C rs ra)) A) (cc := cX3_costOfAll) (maxL := 6) (ret := (some .long)) (by decide) (Nat.le_of_ble_eq_true rfl) ?_
  intro p e s m args below meth c A ls hx hb hr hml hown hw hlocks hname hK hN hA hP hD hS hl
  generalize hQ : MQ below _ args s 0 0 A = Q
  have hl : lv_has ls 6 [(0, .ref n0), (1, .ref (aR 0)), (2, .int p2)] := hl
  have hn45 : (Cond.fieldLinkNest "LockRail$Night" 45 "LockRail$Rail" "bikes" "LLockRail$Bikes;" "LockRail").before args s = true := hN.f 59 rfl
  have hn51 : (Cond.fieldLinkNest "LockRail$Night" 51 "LockRail$Bikes" "count" "I" "LockRail").before args s = true := hN.f 18 rfl
  obtain ⟨H, hH⟩ : ∃ H, H = s.heap := ⟨_, rfl⟩
  obtain ⟨locs, hlo⟩ : ∃ z : List Loc, z = [] := ⟨_, rfl⟩
  have hP : va_P D vwCl (List.flatten (wNight n0 aN C ns na nl ++ (wRail aR C rs ra))) H := by rw [hH]; exact hP
  have hS : va_S A s.heap H locs := by rw [hH, hlo]; exact hS
  rw [show W p l e rmX3_costOfAll s m args below meth c s.heap [] 0 0 Q (F0 m 0 ls []) = W p l e rmX3_costOfAll s m args below meth c H locs 0 0 Q (F0 m 0 ls []) from by rw [hH, hlo]]
  have N5 : ∀  (n5 : Nat) (x3_ : Int64) (x5_ : Int32) (H : Heap) (locs : List Loc) (ls : Array Slot), P_X3_costOfAll_5 nl rs ra p2 post   n5 x3_ x5_ → va_P D vwCl (List.flatten (wNight n0 aN C ns na nl ++ (wRail aR C rs ra))) H → va_D A (List.flatten (wNight n0 aN C ns na nl ++ (wRail aR C rs ra))) → va_S A s.heap H locs → lv_has ls 6 [(0, .ref n0), (1, .ref (aR 0)), (2, .int p2), (3, .long x3_), (5, .int x5_)] → W p l e rmX3_costOfAll s m args below meth c H locs 0 0 Q (F0 m 5 ls []) := by
    intro n5
    induction n5 with
    | zero => intro x3_ x5_ H locs ls h hP hD hS hl; exact False.elim h
    | succ n5 ih5 =>
      intro x3_ x5_ H locs ls h hP hD hS hl
      refine lv_iload hx hb dX3_costOfAll_5 (lv_at hl 4 rfl) ?_
      refine lv_aload_n hx hb dX3_costOfAll_7 rfl (lv_at hl 1 rfl) ?_
      refine va_getN (D := D) (ci := 4) (v := .ref (aR 7)) (C := RX4) (T := TX4) (N := 16) hx hb hw inW_X4 hown hK hP 17 rfl rfl 5 (by decide) hn45 (fun _ h9 => h9) rfl dX3_costOfAll_8 ?_
      refine va_getN (D := D) (ci := 0) (v := .int (rs 13)) (C := RX0) (T := TX0) (N := 6) hx hb hw inW_X0 hown hK hP 24 rfl rfl 0 (by decide) hn51 (fun _ h9 => h9) rfl dX3_costOfAll_11 ?_
      refine lv_icmp_ge (tgt := 34) hx hb dX3_costOfAll_14 (by decide) (fun c1 => ?_) (fun c1 => ?_)
      · have h := h.1 c1
        refine lv_lload_n hx hb dX3_costOfAll_34 rfl (lv_at hl 3 rfl) ?_
        rw [← hQ]
        exact cRetL (v := x3_) () hx hb hr hlocks hS hP hD h dX3_costOfAll_35
      · have h := h.2 c1
        refine lv_lload_n hx hb dX3_costOfAll_17 rfl (lv_at hl 3 rfl) ?_
        refine lv_aload_n hx hb dX3_costOfAll_18 rfl (lv_at hl 0 rfl) ?_
        refine lv_aload_n hx hb dX3_costOfAll_19 rfl (lv_at hl 1 rfl) ?_
        refine lv_iload hx hb dX3_costOfAll_20 (lv_at hl 4 rfl) ?_
        refine lv_iload_n hx hb dX3_costOfAll_22 rfl (lv_at hl 2 rfl) ?_
        refine cGoAL (cRunAV (As := [.ref (aR 0), .int x5_, .int p2]) (rest := [.long x3_]) ⟨hx, hb, hml, hown, hw⟩ hK hN hP hD (k_X3_costOf l D C _ n0 aN aR  ns na nl rs ra x5_ p2 h) (cwV 3 hw (goodV mw_4_132 mw_4_103 mw_s59 mw_1_11 mw_4_104) rfl rfl rfl (by decide +kernel) ⟨Nat.le_of_ble_eq_true rfl, Nat.le_of_ble_eq_true rfl⟩) rfl rfl rfl hl.1 rfl (Nat.le_of_ble_eq_true rfl) dX3_costOfAll_23 ⟨Nat.zero_le _, Nat.zero_le _⟩) hP hD hS hA (fun r2 u H locs h hP hD hS => ?_)
        have hP : va_P D vwCl (List.flatten (wNight n0 aN C ns na nl ++ (wRail aR C rs ra))) H := hP
        have hD : va_D A (List.flatten (wNight n0 aN C ns na nl ++ (wRail aR C rs ra))) := hD
        refine lv_ladd hx hb dX3_costOfAll_26 ?_
        refine lv_topl (fun x3 ex3 => ?_)
        have h := h x3 ex3
        refine lv_lstore_n (lv' := [(3, .long x3), (0, .ref n0), (1, .ref (aR 0)), (2, .int p2), (5, .int x5_)]) hx hb dX3_costOfAll_27 rfl hl (by decide) rfl (fun ls hl => ?_)
        refine lv_iinc (v := (x5_ + 1)) (lv' := [(5, .int (x5_ + 1)), (3, .long x3), (0, .ref n0), (1, .ref (aR 0)), (2, .int p2)]) hx hb dX3_costOfAll_28 hl (k := 4) rfl rfl (by decide) rfl (fun ls hl => ?_)
        refine lv_goto (tgt := 5) hx hb dX3_costOfAll_31 (by decide) ?_
        exact ih5 x3 (x5_ + 1) _ _ _ h hP hD hS (lv_sub hl [2, 3, 4, 1, 0] rfl)
  refine lv_lconst (v := 0) hx hb dX3_costOfAll_0 (by decide) ?_
  refine lv_lstore_n (lv' := [(3, .long 0), (0, .ref n0), (1, .ref (aR 0)), (2, .int p2)]) hx hb dX3_costOfAll_1 rfl hl (by decide) rfl (fun ls hl => ?_)
  refine lv_iconst (v := 0) hx hb dX3_costOfAll_2 (by decide) ?_
  refine lv_istore (lv' := [(5, .int 0), (3, .long 0), (0, .ref n0), (1, .ref (aR 0)), (2, .int p2)]) hx hb dX3_costOfAll_3 hl (by decide) rfl (fun ls hl => ?_)
  obtain ⟨n, h⟩ := h
  exact N5  n 0 0 _ _ _ h hP hD hS (lv_sub hl [2, 3, 4, 1, 0] rfl)
abbrev vsX3_bringBack : List Cond := Cond.code yX3_bringBack cX3_bringBack 2 none :: WS
abbrev rmX3_bringBack : Room := { frames := 1, cells := 0, slots := 0, locals := 26 }
set_option maxHeartbeats 4000000 in
set_option maxRecDepth 100000 in
theorem k_X3_bringBack (l : Launch) (D : va_G) (C : Nat → ClassId) (sz : Nat) (n0 : Nat) (aN : Nat → Nat)  (ns : Nat → Int32) (na : Nat → Nat → Int32) (nl : Nat → Nat → Int64)  {post : (Nat → Int32) → (Nat → Nat → Int32) → (Nat → Nat → Int64) → Prop} (h : P_X3_bringBack ns na nl post) : Met l yX3_bringBack vsX3_bringBack rmX3_bringBack (cPre D C [.ref n0] sz (wNight n0 aN C ns na nl)) (cQv D (fun (u : (Nat → Nat) × (Nat → Int32) × (Nat → Nat → Int32) × (Nat → Nat → Int64)) => post u.2.1 u.2.2.1 u.2.2.2) (fun u => wNight n0 u.1 C u.2.1 u.2.2.1 u.2.2.2) (va_A (List.flatten (wNight n0 aN C ns na nl)) sz)) 0 0 (va_A (List.flatten (wNight n0 aN C ns na nl)) sz) := by
  refine cStart (QA := fun A => cQv D (fun (u : (Nat → Nat) × (Nat → Int32) × (Nat → Nat → Int32) × (Nat → Nat → Int64)) => post u.2.1 u.2.2.1 u.2.2.2) (fun u => wNight n0 u.1 C u.2.1 u.2.2.1 u.2.2.2) A) (cc := cX3_bringBack) (maxL := 2) (ret := none) (by decide) (Nat.le_of_ble_eq_true rfl) ?_
  intro p e s m args below meth c A ls hx hb hr hml hown hw hlocks hname hK hN hA hP hD hS hl
  generalize hQ : MQ below _ args s 0 0 A = Q
  have hl : lv_has ls 2 [(0, .ref n0)] := hl
  have hn123 : (Cond.fieldLinkNest "LockRail$Night" 123 "LockRail$Spread" "size" "I" "LockRail").before args s = true := hN.f 75 rfl
  have hn126 : (Cond.fieldLinkNest "LockRail$Night" 126 "LockRail$Spread" "states" "[I" "LockRail").before args s = true := hN.f 76 rfl
  have hn129 : (Cond.fieldLinkNest "LockRail$Night" 129 "LockRail$Spread" "parts" "[J" "LockRail").before args s = true := hN.f 77 rfl
  obtain ⟨H, hH⟩ : ∃ H, H = s.heap := ⟨_, rfl⟩
  obtain ⟨locs, hlo⟩ : ∃ z : List Loc, z = [] := ⟨_, rfl⟩
  have hP : va_P D vwCl (List.flatten (wNight n0 aN C ns na nl)) H := by rw [hH]; exact hP
  have hS : va_S A s.heap H locs := by rw [hH, hlo]; exact hS
  rw [show W p l e rmX3_bringBack s m args below meth c s.heap [] 0 0 Q (F0 m 0 ls []) = W p l e rmX3_bringBack s m args below meth c H locs 0 0 Q (F0 m 0 ls []) from by rw [hH, hlo]]
  have N55 : ∀ (ns : Nat → Int32) (na : Nat → Nat → Int32) (nl : Nat → Nat → Int64) (aN : Nat → Nat) (H : Heap) (locs : List Loc) (ls : Array Slot), P_X3_bringBack_55  post  ns na nl → va_P D vwCl (List.flatten (wNight n0 aN C ns na nl)) H → va_D A (List.flatten (wNight n0 aN C ns na nl)) → va_S A s.heap H locs → lv_has ls 2 [(0, .ref n0)] → W p l e rmX3_bringBack s m args below meth c H locs 0 0 Q (F0 m 55 ls []) := by
    intro ns na nl aN H locs ls h hP hD hS hl
    refine lv_aload_n hx hb dX3_bringBack_55 rfl (lv_at hl 0 rfl) ?_
    refine cGoAV (cRunAV (As := []) (rest := []) ⟨hx, hb, hml, hown, hw⟩ hK hN hP hD (k_X3_turn l D C _ n0 aN  ns na nl  h) (cwV 0 hw (goodV mw_4_55 mw_4_57 mw_s54 mw_1_11 mw_4_58) rfl rfl rfl (by decide +kernel) ⟨Nat.le_of_ble_eq_true rfl, Nat.le_of_ble_eq_true rfl⟩) rfl rfl rfl hl.1 rfl (Nat.le_of_ble_eq_true rfl) dX3_bringBack_56 ⟨Nat.zero_le _, Nat.zero_le _⟩) hP hD hS hA (fun u H locs h hP hD hS => ?_)
    obtain ⟨aN1, ns_2, na_3, nl_4⟩ := u
    have hP : va_P D vwCl (List.flatten (wNight n0 aN1 C ns_2 na_3 nl_4)) H := hP
    have hD : va_D A (List.flatten (wNight n0 aN1 C ns_2 na_3 nl_4)) := hD
    rw [← hQ]
    exact cRetV (aN1, ns_2, na_3, nl_4) hx hb hr hlocks hS hP hD h dX3_bringBack_59
  have N9 : ∀  (n9 : Nat) (x1_ : Int32) (ns : Nat → Int32) (na : Nat → Nat → Int32) (nl : Nat → Nat → Int64) (aN : Nat → Nat) (H : Heap) (locs : List Loc) (ls : Array Slot), P_X3_bringBack_9  post (fun (ns : Nat → Int32) (na : Nat → Nat → Int32) (nl : Nat → Nat → Int64) => P_X3_bringBack_55  post  ns na nl)  n9 x1_ ns na nl → va_P D vwCl (List.flatten (wNight n0 aN C ns na nl)) H → va_D A (List.flatten (wNight n0 aN C ns na nl)) → va_S A s.heap H locs → lv_has ls 2 [(0, .ref n0), (1, .int x1_)] → W p l e rmX3_bringBack s m args below meth c H locs 0 0 Q (F0 m 9 ls []) := by
    intro n9
    induction n9 with
    | zero => intro x1_ ns na nl aN H locs ls h hP hD hS hl; exact False.elim h
    | succ n9 ih9 =>
      intro x1_ ns na nl aN H locs ls h hP hD hS hl
      refine lv_iload_n hx hb dX3_bringBack_9 rfl (lv_at hl 1 rfl) ?_
      refine lv_aload_n hx hb dX3_bringBack_10 rfl (lv_at hl 0 rfl) ?_
      refine va_get (D := D) (ci := 3) (v := .ref (aN 7)) (C := RX3) (T := TX3) (N := 10) hx hb hw inW_X3 hown hK hP 0 rfl rfl 6 (by decide) (hw _ mw_2_116) (fun _ h9 => h9) rfl dX3_bringBack_11 ?_
      refine va_getN (D := D) (ci := 7) (v := .int (ns 2)) (C := RX7) (T := TX7) (N := 5) hx hb hw inW_X7 hown hK hP 7 rfl rfl 0 (by decide) hn123 (fun _ h9 => h9) rfl dX3_bringBack_14 ?_
      refine lv_icmp_ge (tgt := 55) hx hb dX3_bringBack_17 (by decide) (fun c5 => ?_) (fun c5 => ?_)
      · have h := h.1 c5
        exact N55 ns na nl aN _ _ _ h hP hD hS (lv_sub hl [0] rfl)
      · have h := h.2 c5
        refine lv_aload_n hx hb dX3_bringBack_20 rfl (lv_at hl 0 rfl) ?_
        refine va_get (D := D) (ci := 3) (v := .ref (aN 12)) (C := RX3) (T := TX3) (N := 10) hx hb hw inW_X3 hown hK hP 0 rfl rfl 7 (by decide) (hw _ mw_2_117) (fun _ h9 => h9) rfl dX3_bringBack_21 ?_
        refine lv_aload_n hx hb dX3_bringBack_24 rfl (lv_at hl 0 rfl) ?_
        refine va_get (D := D) (ci := 3) (v := .ref (aN 7)) (C := RX3) (T := TX3) (N := 10) hx hb hw inW_X3 hown hK hP 0 rfl rfl 6 (by decide) (hw _ mw_2_116) (fun _ h9 => h9) rfl dX3_bringBack_25 ?_
        refine va_getN (D := D) (ci := 7) (v := .ref (aN 8)) (C := RX7) (T := TX7) (N := 5) hx hb hw inW_X7 hown hK hP 7 rfl rfl 1 (by decide) hn126 (fun _ h9 => h9) rfl dX3_bringBack_28 ?_
        refine lv_iload_n hx hb dX3_bringBack_31 rfl (lv_at hl 1 rfl) ?_
        refine cIald hx hb hK hP 8 0 rfl rfl x1_.toNatClampNeg rfl h.1 dX3_bringBack_32 ?_
        have h := h.2
        refine lv_sipush (v := (-2048)) hx hb dX3_bringBack_33 (by decide) ?_
        refine lv_iand hx hb dX3_bringBack_36 ?_
        refine lv_aload_n hx hb dX3_bringBack_37 rfl (lv_at hl 0 rfl) ?_
        refine va_get (D := D) (ci := 3) (v := .ref (aN 7)) (C := RX3) (T := TX3) (N := 10) hx hb hw inW_X3 hown hK hP 0 rfl rfl 6 (by decide) (hw _ mw_2_116) (fun _ h9 => h9) rfl dX3_bringBack_38 ?_
        refine va_getN (D := D) (ci := 7) (v := .ref (aN 9)) (C := RX7) (T := TX7) (N := 5) hx hb hw inW_X7 hown hK hP 7 rfl rfl 2 (by decide) hn129 (fun _ h9 => h9) rfl dX3_bringBack_41 ?_
        refine lv_iload_n hx hb dX3_bringBack_44 rfl (lv_at hl 1 rfl) ?_
        refine cLald hx hb hK hP 9 1 rfl rfl x1_.toNatClampNeg rfl h.1 dX3_bringBack_45 ?_
        have h := h.2
        refine cGoV (wo := fun u => wNight n0 aN C (va_up ns 3 u.1) (va_up (va_up (va_up na 8 u.2.1) 9 u.2.2.2.1) 10 u.2.2.2.2) (va_up nl 2 u.2.2.1)) (cRunVN (As := [.int ((na 5 x1_.toNatClampNeg) &&& (-2048)), .long (nl 1 x1_.toNatClampNeg)]) (rest := []) ⟨hx, hb, hml, hown, hw⟩ hK hN hP hD [2] rfl rfl (k_X7_put l D C _ (aN 12) (aN 13) (aN 14) (aN 15) (aN 16)  (ns 3) (na 8) (nl 2) (na 9) (na 10) ((na 5 x1_.toNatClampNeg) &&& (-2048)) (nl 1 x1_.toNatClampNeg) h) ⟨va_cnB 2 hw (goodN mw_4_37) rfl rfl rfl (hN.m 47 rfl) (hw _ mw_1_12) (by decide +kernel) ⟨Nat.le_of_ble_eq_true rfl, Nat.le_of_ble_eq_true rfl⟩, hw _ mw_4_36, hw _ mw_s51⟩ rfl rfl rfl hl.1 rfl (Nat.le_of_ble_eq_true rfl) dX3_bringBack_46 ⟨Nat.zero_le _, Nat.zero_le _⟩) hP hD hS hA [2] [0, 1] [0, 1, 2] rfl rfl rfl (by decide) rfl (fun _ => rfl) (fun u H locs h hP hD hS => ?_)
        obtain ⟨siz_6, sta_7, par_8, slo_9, tab_10⟩ := u
        have hP : va_P D vwCl (List.flatten (wNight n0 aN C (va_up ns 3 siz_6) (va_up (va_up (va_up na 8 sta_7) 9 slo_9) 10 tab_10) (va_up nl 2 par_8))) H := hP
        have hD : va_D A (List.flatten (wNight n0 aN C (va_up ns 3 siz_6) (va_up (va_up (va_up na 8 sta_7) 9 slo_9) 10 tab_10) (va_up nl 2 par_8))) := hD
        refine lv_iinc (v := (x1_ + 1)) (lv' := [(1, .int (x1_ + 1)), (0, .ref n0)]) hx hb dX3_bringBack_49 hl (k := 1) rfl rfl (by decide) rfl (fun ls hl => ?_)
        refine lv_goto (tgt := 9) hx hb dX3_bringBack_52 (by decide) ?_
        exact ih9 (x1_ + 1) (va_up ns 3 siz_6) (va_up (va_up (va_up na 8 sta_7) 9 slo_9) 10 tab_10) (va_up nl 2 par_8) aN _ _ _ h hP hD hS (lv_sub hl [1, 0] rfl)
  refine lv_aload_n hx hb dX3_bringBack_0 rfl (lv_at hl 0 rfl) ?_
  refine va_get (D := D) (ci := 3) (v := .ref (aN 12)) (C := RX3) (T := TX3) (N := 10) hx hb hw inW_X3 hown hK hP 0 rfl rfl 7 (by decide) (hw _ mw_2_117) (fun _ h9 => h9) rfl dX3_bringBack_1 ?_
  refine cGoV (wo := fun u => wNight n0 aN C (va_up ns 3 u.1) (va_up na 10 u.2) nl) (cRunVN (As := []) (rest := []) ⟨hx, hb, hml, hown, hw⟩ hK hN hP hD [2] rfl rfl (k_X7_wipe l D C _ (aN 12) (aN 13) (aN 14) (aN 15) (aN 16)  (ns 3) (na 8) (nl 2) (na 9) (na 10)  h) ⟨va_cnB 0 hw (goodN mw_4_32) rfl rfl rfl (hN.m 46 rfl) (hw _ mw_1_12) (by decide +kernel) ⟨Nat.le_of_ble_eq_true rfl, Nat.le_of_ble_eq_true rfl⟩, hw _ mw_4_31, hw _ mw_s50⟩ rfl rfl rfl hl.1 rfl (Nat.le_of_ble_eq_true rfl) dX3_bringBack_4 ⟨Nat.zero_le _, Nat.zero_le _⟩) hP hD hS hA [2] [0, 1] [0, 1, 2] rfl rfl rfl (by decide) rfl (fun _ => rfl) (fun u H locs h hP hD hS => ?_)
  obtain ⟨siz_11, tab_12⟩ := u
  have hP : va_P D vwCl (List.flatten (wNight n0 aN C (va_up ns 3 siz_11) (va_up na 10 tab_12) nl)) H := hP
  have hD : va_D A (List.flatten (wNight n0 aN C (va_up ns 3 siz_11) (va_up na 10 tab_12) nl)) := hD
  refine lv_iconst (v := 0) hx hb dX3_bringBack_7 (by decide) ?_
  refine lv_istore_n (lv' := [(1, .int 0), (0, .ref n0)]) hx hb dX3_bringBack_8 rfl hl (by decide) rfl (fun ls hl => ?_)
  obtain ⟨n, h⟩ := h
  exact N9  n 0 (va_up ns 3 siz_11) (va_up na 10 tab_12) nl aN _ _ _ h hP hD hS (lv_sub hl [1, 0] rfl)
abbrev vsX3_playBaited : List Cond := Cond.code yX3_playBaited cX3_playBaited 6 none :: WS
abbrev rmX3_playBaited : Room := { frames := 3, cells := 0, slots := 0, locals := 83 }
set_option maxHeartbeats 4000000 in
set_option maxRecDepth 100000 in
theorem k_X3_playBaited (l : Launch) (D : va_G) (C : Nat → ClassId) (sz : Nat) (n0 : Nat) (aN : Nat → Nat) (aR : Nat → Nat)  (ns : Nat → Int32) (na : Nat → Nat → Int32) (nl : Nat → Nat → Int64) (rs : Nat → Int32) (ra : Nat → Nat → Int32) (p2 : Int32) (p3 : Int32) {post : (Nat → Int32) → (Nat → Nat → Int32) → (Nat → Nat → Int64) → Prop} (h : P_X3_playBaited ns na nl rs ra p2 p3 post) : Met l yX3_playBaited vsX3_playBaited rmX3_playBaited (cPre D C [.ref n0, .ref (aR 0), .int p2, .int p3] sz (wNight n0 aN C ns na nl ++ (wRail aR C rs ra))) (cQv D (fun (u : (Nat → Nat) × (Nat → Int32) × (Nat → Nat → Int32) × (Nat → Nat → Int64)) => post u.2.1 u.2.2.1 u.2.2.2) (fun u => wNight n0 u.1 C u.2.1 u.2.2.1 u.2.2.2 ++ (wRail aR C rs ra)) (va_A (List.flatten (wNight n0 aN C ns na nl ++ (wRail aR C rs ra))) sz)) 0 0 (va_A (List.flatten (wNight n0 aN C ns na nl ++ (wRail aR C rs ra))) sz) := by
  refine cStart (QA := fun A => cQv D (fun (u : (Nat → Nat) × (Nat → Int32) × (Nat → Nat → Int32) × (Nat → Nat → Int64)) => post u.2.1 u.2.2.1 u.2.2.2) (fun u => wNight n0 u.1 C u.2.1 u.2.2.1 u.2.2.2 ++ (wRail aR C rs ra)) A) (cc := cX3_playBaited) (maxL := 6) (ret := none) (by decide) (Nat.le_of_ble_eq_true rfl) ?_
  intro p e s m args below meth c A ls hx hb hr hml hown hw hlocks hname hK hN hA hP hD hS hl
  generalize hQ : MQ below _ args s 0 0 A = Q
  have hl : lv_has ls 6 [(0, .ref n0), (1, .ref (aR 0)), (2, .int p2), (3, .int p3)] := hl
  have hn75 : (Cond.fieldLinkNest "LockRail$Night" 75 "LockRail$Rail" "thieves" "LLockRail$Thieves;" "LockRail").before args s = true := hN.f 62 rfl
  have hn79 : (Cond.fieldLinkNest "LockRail$Night" 79 "LockRail$Thieves" "count" "I" "LockRail").before args s = true := hN.f 33 rfl
  have hn107 : (Cond.fieldLinkNest "LockRail$Night" 107 "LockRail$Thieves" "comes" "[I" "LockRail").before args s = true := hN.f 37 rfl
  have hn154 : (Cond.fieldLinkNest "LockRail$Night" 154 "LockRail$Rail" "nights" "I" "LockRail").before args s = true := hN.f 51 rfl
  obtain ⟨H, hH⟩ : ∃ H, H = s.heap := ⟨_, rfl⟩
  obtain ⟨locs, hlo⟩ : ∃ z : List Loc, z = [] := ⟨_, rfl⟩
  have hP : va_P D vwCl (List.flatten (wNight n0 aN C ns na nl ++ (wRail aR C rs ra))) H := by rw [hH]; exact hP
  have hS : va_S A s.heap H locs := by rw [hH, hlo]; exact hS
  rw [show W p l e rmX3_playBaited s m args below meth c s.heap [] 0 0 Q (F0 m 0 ls []) = W p l e rmX3_playBaited s m args below meth c H locs 0 0 Q (F0 m 0 ls []) from by rw [hH, hlo]]
  have N18 : ∀  (n18 : Nat) (x4_ : Int32) (ns : Nat → Int32) (na : Nat → Nat → Int32) (nl : Nat → Nat → Int64) (aN : Nat → Nat) (H : Heap) (locs : List Loc) (ls : Array Slot), P_X3_playBaited_18 rs ra p2 p3 post   n18 x4_ ns na nl → va_P D vwCl (List.flatten (wNight n0 aN C ns na nl ++ (wRail aR C rs ra))) H → va_D A (List.flatten (wNight n0 aN C ns na nl ++ (wRail aR C rs ra))) → va_S A s.heap H locs → lv_has ls 6 [(0, .ref n0), (1, .ref (aR 0)), (4, .int x4_)] → W p l e rmX3_playBaited s m args below meth c H locs 0 0 Q (F0 m 18 ls []) := by
    intro n18
    induction n18 with
    | zero => intro x4_ ns na nl aN H locs ls h hP hD hS hl; exact False.elim h
    | succ n18 ih18 =>
      have N64 : ∀ (x4_ : Int32) (ns : Nat → Int32) (na : Nat → Nat → Int32) (nl : Nat → Nat → Int64) (aN : Nat → Nat) (H : Heap) (locs : List Loc) (ls : Array Slot), P_X3_playBaited_64 rs ra p2 p3 post (P_X3_playBaited_18 rs ra p2 p3 post   n18) x4_ ns na nl → va_P D vwCl (List.flatten (wNight n0 aN C ns na nl ++ (wRail aR C rs ra))) H → va_D A (List.flatten (wNight n0 aN C ns na nl ++ (wRail aR C rs ra))) → va_S A s.heap H locs → lv_has ls 6 [(0, .ref n0), (1, .ref (aR 0)), (4, .int x4_)] → W p l e rmX3_playBaited s m args below meth c H locs 0 0 Q (F0 m 64 ls []) := by
        intro x4_ ns na nl aN H locs ls h hP hD hS hl
        refine lv_aload_n hx hb dX3_playBaited_64 rfl (lv_at hl 0 rfl) ?_
        refine gs_V9_30 (rs_V9_26 (As := []) (rest := []) ⟨hx, hb, hml, hown, hw⟩ hK hN hP hD (k_X3_bringBack l D C _ n0 aN  ns na nl  h) (cwV 0 hw (goodV mw_5_77 mw_5_79 mw_s83 mw_1_11 mw_5_80) rfl rfl rfl (by decide +kernel) ⟨Nat.le_of_ble_eq_true rfl, Nat.le_of_ble_eq_true rfl⟩) rfl rfl rfl hl.1 rfl (Nat.le_of_ble_eq_true rfl) dX3_playBaited_65 ⟨Nat.zero_le _, Nat.zero_le _⟩) hP hD hS hA (fun u H locs h hP hD hS => ?_)
        obtain ⟨aN1, ns_2, na_3, nl_4⟩ := u
        have hP : va_P D vwCl (List.flatten (wNight n0 aN1 C ns_2 na_3 nl_4 ++ (wRail aR C rs ra))) H := hP
        have hD : va_D A (List.flatten (wNight n0 aN1 C ns_2 na_3 nl_4 ++ (wRail aR C rs ra))) := hD
        refine lv_iinc (v := (x4_ + 1)) (lv' := [(4, .int (x4_ + 1)), (0, .ref n0), (1, .ref (aR 0))]) hx hb dX3_playBaited_68 hl (k := 2) rfl rfl (by decide) rfl (fun ls hl => ?_)
        refine lv_goto (tgt := 18) hx hb dX3_playBaited_71 (by decide) ?_
        exact ih18 (x4_ + 1) ns_2 na_3 nl_4 aN1 _ _ _ h hP hD hS (lv_sub hl [1, 2, 0] rfl)
      have N30 : ∀ (x4_ : Int32) (n30 : Nat) (x5_ : Int32) (ns : Nat → Int32) (na : Nat → Nat → Int32) (nl : Nat → Nat → Int64) (aN : Nat → Nat) (H : Heap) (locs : List Loc) (ls : Array Slot), P_X3_playBaited_30 rs ra p2 p3 post (fun (x4_ : Int32) (ns : Nat → Int32) (na : Nat → Nat → Int32) (nl : Nat → Nat → Int64) => P_X3_playBaited_64 rs ra p2 p3 post (P_X3_playBaited_18 rs ra p2 p3 post   n18) x4_ ns na nl) x4_ n30 x5_ ns na nl → va_P D vwCl (List.flatten (wNight n0 aN C ns na nl ++ (wRail aR C rs ra))) H → va_D A (List.flatten (wNight n0 aN C ns na nl ++ (wRail aR C rs ra))) → va_S A s.heap H locs → lv_has ls 6 [(0, .ref n0), (1, .ref (aR 0)), (4, .int x4_), (5, .int x5_)] → W p l e rmX3_playBaited s m args below meth c H locs 0 0 Q (F0 m 30 ls []) := by
        intro x4_
        intro n30
        induction n30 with
        | zero => intro x5_ ns na nl aN H locs ls h hP hD hS hl; exact False.elim h
        | succ n30 ih30 =>
          intro x5_ ns na nl aN H locs ls h hP hD hS hl
          refine lv_iload hx hb dX3_playBaited_30 (lv_at hl 3 rfl) ?_
          refine lv_aload_n hx hb dX3_playBaited_32 rfl (lv_at hl 1 rfl) ?_
          refine va_getN (D := D) (ci := 4) (v := .ref (aR 13)) (C := RX4) (T := TX4) (N := 16) hx hb hw inW_X4 hown hK hP 17 rfl rfl 6 (by decide) hn75 (fun _ h9 => h9) rfl dX3_playBaited_33 ?_
          refine va_getN (D := D) (ci := 9) (v := .int (rs 14)) (C := RX9) (T := TX9) (N := 6) hx hb hw inW_X9 hown hK hP 30 rfl rfl 0 (by decide) hn79 (fun _ h9 => h9) rfl dX3_playBaited_36 ?_
          refine lv_icmp_ge (tgt := 64) hx hb dX3_playBaited_39 (by decide) (fun c5 => ?_) (fun c5 => ?_)
          · have h := h.1 c5
            exact N64 x4_ ns na nl aN _ _ _ h hP hD hS (lv_sub hl [0, 1, 2] rfl)
          · have h := h.2 c5
            refine lv_aload_n hx hb dX3_playBaited_42 rfl (lv_at hl 0 rfl) ?_
            refine lv_iload hx hb dX3_playBaited_43 (lv_at hl 3 rfl) ?_
            refine lv_aload_n hx hb dX3_playBaited_45 rfl (lv_at hl 1 rfl) ?_
            refine va_getN (D := D) (ci := 4) (v := .ref (aR 13)) (C := RX4) (T := TX4) (N := 16) hx hb hw inW_X4 hown hK hP 17 rfl rfl 6 (by decide) hn75 (fun _ h9 => h9) rfl dX3_playBaited_46 ?_
            refine va_getN (D := D) (ci := 9) (v := .ref (aR 15)) (C := RX9) (T := TX9) (N := 6) hx hb hw inW_X9 hown hK hP 30 rfl rfl 2 (by decide) hn107 (fun _ h9 => h9) rfl dX3_playBaited_49 ?_
            refine lv_iload hx hb dX3_playBaited_52 (lv_at hl 3 rfl) ?_
            refine cIald hx hb hK hP 32 0 rfl rfl x5_.toNatClampNeg rfl h.1 dX3_playBaited_54 ?_
            have h := h.2
            refine gs_V9_30 (rs_V9_26 (As := [.int x5_, .int (ra 10 x5_.toNatClampNeg)]) (rest := []) ⟨hx, hb, hml, hown, hw⟩ hK hN hP hD (k_X3_letCome l D C _ n0 aN  ns na nl x5_ (ra 10 x5_.toNatClampNeg) h) (cwV 2 hw (goodV mw_4_39 mw_4_41 mw_s52 mw_1_11 mw_4_42) rfl rfl rfl (by decide +kernel) ⟨Nat.le_of_ble_eq_true rfl, Nat.le_of_ble_eq_true rfl⟩) rfl rfl rfl hl.1 rfl (Nat.le_of_ble_eq_true rfl) dX3_playBaited_55 ⟨Nat.zero_le _, Nat.zero_le _⟩) hP hD hS hA (fun u H locs h hP hD hS => ?_)
            obtain ⟨aN6, ns_7, na_8, nl_9⟩ := u
            have hP : va_P D vwCl (List.flatten (wNight n0 aN6 C ns_7 na_8 nl_9 ++ (wRail aR C rs ra))) H := hP
            have hD : va_D A (List.flatten (wNight n0 aN6 C ns_7 na_8 nl_9 ++ (wRail aR C rs ra))) := hD
            refine lv_iinc (v := (x5_ + 1)) (lv' := [(5, .int (x5_ + 1)), (0, .ref n0), (1, .ref (aR 0)), (4, .int x4_)]) hx hb dX3_playBaited_58 hl (k := 3) rfl rfl (by decide) rfl (fun ls hl => ?_)
            refine lv_goto (tgt := 30) hx hb dX3_playBaited_61 (by decide) ?_
            exact ih30 (x5_ + 1) ns_7 na_8 nl_9 aN6 _ _ _ h hP hD hS (lv_sub hl [1, 2, 3, 0] rfl)
      intro x4_ ns na nl aN H locs ls h hP hD hS hl
      refine lv_iload hx hb dX3_playBaited_18 (lv_at hl 2 rfl) ?_
      refine lv_aload_n hx hb dX3_playBaited_20 rfl (lv_at hl 1 rfl) ?_
      refine va_getN (D := D) (ci := 4) (v := .int (rs 1)) (C := RX4) (T := TX4) (N := 16) hx hb hw inW_X4 hown hK hP 17 rfl rfl 1 (by decide) hn154 (fun _ h9 => h9) rfl dX3_playBaited_21 ?_
      refine lv_icmp_ge (tgt := 74) hx hb dX3_playBaited_24 (by decide) (fun c10 => ?_) (fun c10 => ?_)
      · have h := h.1 c10
        rw [← hQ]
        exact cRetV (aN, ns, na, nl) hx hb hr hlocks hS hP hD h dX3_playBaited_74
      · have h := h.2 c10
        refine lv_iconst (v := 0) hx hb dX3_playBaited_27 (by decide) ?_
        refine lv_istore (lv' := [(5, .int 0), (0, .ref n0), (1, .ref (aR 0)), (4, .int x4_)]) hx hb dX3_playBaited_28 hl (by decide) rfl (fun ls hl => ?_)
        obtain ⟨n, h⟩ := h
        exact N30 x4_ n 0 ns na nl aN _ _ _ h hP hD hS (lv_sub hl [1, 2, 3, 0] rfl)
  refine lv_aload_n hx hb dX3_playBaited_0 rfl (lv_at hl 0 rfl) ?_
  refine lv_aload_n hx hb dX3_playBaited_1 rfl (lv_at hl 1 rfl) ?_
  refine lv_iload_n hx hb dX3_playBaited_2 rfl (lv_at hl 2 rfl) ?_
  refine cGoAV (cRunAV (As := [.ref (aR 0), .int p2]) (rest := []) ⟨hx, hb, hml, hown, hw⟩ hK hN hP hD (k_X3_lookAtBaited l D C _ n0 aN aR  ns na nl rs ra p2 h) (cwV 2 hw (goodV mw_3_220 mw_3_222 mw_s41 mw_1_11 mw_3_223) rfl rfl rfl (by decide +kernel) ⟨Nat.le_of_ble_eq_true rfl, Nat.le_of_ble_eq_true rfl⟩) rfl rfl rfl hl.1 rfl (Nat.le_of_ble_eq_true rfl) dX3_playBaited_3 ⟨Nat.zero_le _, Nat.zero_le _⟩) hP hD hS hA (fun u H locs h hP hD hS => ?_)
  obtain ⟨ns_11, na_12⟩ := u
  have hP : va_P D vwCl (List.flatten (wNight n0 aN C ns_11 na_12 nl ++ (wRail aR C rs ra))) H := hP
  have hD : va_D A (List.flatten (wNight n0 aN C ns_11 na_12 nl ++ (wRail aR C rs ra))) := hD
  refine lv_aload_n hx hb dX3_playBaited_6 rfl (lv_at hl 0 rfl) ?_
  refine lv_iload_n hx hb dX3_playBaited_7 rfl (lv_at hl 3 rfl) ?_
  refine va_put (D := D) (ci := 3) (v := .int p3) (ty := .int) (C := RX3) (T := TX3) (N := 10) hx hb hw inW_X3 tyX3 tyX3_ok nmX3 hown hK hP hD hS 0 rfl rfl 9 (by decide) (hw _ mw_2_119) (fun _ h9 => h9) rfl (by decide +kernel) rfl rfl (Nat.le_of_ble_eq_true rfl) dX3_playBaited_8 (fun H locs hP hD hS => ?_)
  refine lv_aload_n hx hb dX3_playBaited_11 rfl (lv_at hl 0 rfl) ?_
  have hP : va_P D vwCl (List.flatten (wNight n0 aN C (va_up ns_11 1 p3) na_12 nl ++ (wRail aR C rs ra))) H := hP
  have hD : va_D A (List.flatten (wNight n0 aN C (va_up ns_11 1 p3) na_12 nl ++ (wRail aR C rs ra))) := hD
  refine gs_V9_30 (rs_V9_26 (As := []) (rest := []) ⟨hx, hb, hml, hown, hw⟩ hK hN hP hD (k_X3_begin l D C _ n0 aN  (va_up ns_11 1 p3) na_12 nl  h) (cwV 0 hw (goodV mw_4_25 mw_4_27 mw_s49 mw_1_11 mw_4_28) rfl rfl rfl (by decide +kernel) ⟨Nat.le_of_ble_eq_true rfl, Nat.le_of_ble_eq_true rfl⟩) rfl rfl rfl hl.1 rfl (Nat.le_of_ble_eq_true rfl) dX3_playBaited_12 ⟨Nat.zero_le _, Nat.zero_le _⟩) hP hD hS hA (fun u H locs h hP hD hS => ?_)
  obtain ⟨ns_13, na_14, nl_15⟩ := u
  have hP : va_P D vwCl (List.flatten (wNight n0 aN C ns_13 na_14 nl_15 ++ (wRail aR C rs ra))) H := hP
  have hD : va_D A (List.flatten (wNight n0 aN C ns_13 na_14 nl_15 ++ (wRail aR C rs ra))) := hD
  refine lv_iconst (v := 0) hx hb dX3_playBaited_15 (by decide) ?_
  refine lv_istore (lv' := [(4, .int 0), (0, .ref n0), (1, .ref (aR 0)), (2, .int p2), (3, .int p3)]) hx hb dX3_playBaited_16 hl (by decide) rfl (fun ls hl => ?_)
  obtain ⟨n, h⟩ := h
  exact N18  n 0 ns_13 na_14 nl_15 aN _ _ _ h hP hD hS (lv_sub hl [1, 2, 0] rfl)
abbrev vsX3_baitedLoss : List Cond := Cond.code yX3_baitedLoss cX3_baitedLoss 5 (some .long) :: WS
abbrev rmX3_baitedLoss : Room := { frames := 2, cells := 0, slots := 0, locals := 46 }
set_option maxHeartbeats 4000000 in
set_option maxRecDepth 100000 in
theorem k_X3_baitedLoss (l : Launch) (D : va_G) (C : Nat → ClassId) (sz : Nat) (n0 : Nat) (aN : Nat → Nat) (aR : Nat → Nat)  (ns : Nat → Int32) (na : Nat → Nat → Int32) (nl : Nat → Nat → Int64) (rs : Nat → Int32) (ra : Nat → Nat → Int32)  {post : Int64 → Prop} (h : P_X3_baitedLoss nl rs ra post) : Met l yX3_baitedLoss vsX3_baitedLoss rmX3_baitedLoss (cPre D C [.ref n0, .ref (aR 0)] sz (wNight n0 aN C ns na nl ++ (wRail aR C rs ra))) (cQl D (fun (r : Int64) (u : Unit) => post r ) (fun u => wNight n0 aN C ns na nl ++ (wRail aR C rs ra)) (va_A (List.flatten (wNight n0 aN C ns na nl ++ (wRail aR C rs ra))) sz)) 0 0 (va_A (List.flatten (wNight n0 aN C ns na nl ++ (wRail aR C rs ra))) sz) := by
  refine cStart (QA := fun A => cQl D (fun (r : Int64) (u : Unit) => post r ) (fun u => wNight n0 aN C ns na nl ++ (wRail aR C rs ra)) A) (cc := cX3_baitedLoss) (maxL := 5) (ret := (some .long)) (by decide) (Nat.le_of_ble_eq_true rfl) ?_
  intro p e s m args below meth c A ls hx hb hr hml hown hw hlocks hname hK hN hA hP hD hS hl
  generalize hQ : MQ below _ args s 0 0 A = Q
  have hl : lv_has ls 5 [(0, .ref n0), (1, .ref (aR 0))] := hl
  have hn45 : (Cond.fieldLinkNest "LockRail$Night" 45 "LockRail$Rail" "bikes" "LLockRail$Bikes;" "LockRail").before args s = true := hN.f 59 rfl
  have hn51 : (Cond.fieldLinkNest "LockRail$Night" 51 "LockRail$Bikes" "count" "I" "LockRail").before args s = true := hN.f 18 rfl
  have hn173 : (Cond.fieldLinkNest "LockRail$Night" 173 "LockRail$Bikes" "worth" "[I" "LockRail").before args s = true := hN.f 23 rfl
  obtain ⟨H, hH⟩ : ∃ H, H = s.heap := ⟨_, rfl⟩
  obtain ⟨locs, hlo⟩ : ∃ z : List Loc, z = [] := ⟨_, rfl⟩
  have hP : va_P D vwCl (List.flatten (wNight n0 aN C ns na nl ++ (wRail aR C rs ra))) H := by rw [hH]; exact hP
  have hS : va_S A s.heap H locs := by rw [hH, hlo]; exact hS
  rw [show W p l e rmX3_baitedLoss s m args below meth c s.heap [] 0 0 Q (F0 m 0 ls []) = W p l e rmX3_baitedLoss s m args below meth c H locs 0 0 Q (F0 m 0 ls []) from by rw [hH, hlo]]
  have N5 : ∀  (n5 : Nat) (x2_ : Int64) (x4_ : Int32) (H : Heap) (locs : List Loc) (ls : Array Slot), P_X3_baitedLoss_5 nl rs ra post   n5 x2_ x4_ → va_P D vwCl (List.flatten (wNight n0 aN C ns na nl ++ (wRail aR C rs ra))) H → va_D A (List.flatten (wNight n0 aN C ns na nl ++ (wRail aR C rs ra))) → va_S A s.heap H locs → lv_has ls 5 [(0, .ref n0), (1, .ref (aR 0)), (2, .long x2_), (4, .int x4_)] → W p l e rmX3_baitedLoss s m args below meth c H locs 0 0 Q (F0 m 5 ls []) := by
    intro n5
    induction n5 with
    | zero => intro x2_ x4_ H locs ls h hP hD hS hl; exact False.elim h
    | succ n5 ih5 =>
      intro x2_ x4_ H locs ls h hP hD hS hl
      refine lv_iload hx hb dX3_baitedLoss_5 (lv_at hl 3 rfl) ?_
      refine lv_aload_n hx hb dX3_baitedLoss_7 rfl (lv_at hl 1 rfl) ?_
      refine va_getN (D := D) (ci := 4) (v := .ref (aR 7)) (C := RX4) (T := TX4) (N := 16) hx hb hw inW_X4 hown hK hP 17 rfl rfl 5 (by decide) hn45 (fun _ h9 => h9) rfl dX3_baitedLoss_8 ?_
      refine va_getN (D := D) (ci := 0) (v := .int (rs 13)) (C := RX0) (T := TX0) (N := 6) hx hb hw inW_X0 hown hK hP 24 rfl rfl 0 (by decide) hn51 (fun _ h9 => h9) rfl dX3_baitedLoss_11 ?_
      refine lv_icmp_ge (tgt := 44) hx hb dX3_baitedLoss_14 (by decide) (fun c1 => ?_) (fun c1 => ?_)
      · have h := h.1 c1
        refine lv_lload_n hx hb dX3_baitedLoss_44 rfl (lv_at hl 2 rfl) ?_
        refine lv_ldc2 (v := 1000000000) hx hb hown (hw _ mw_4_111) dX3_baitedLoss_45 ?_
        refine lv_ldiv hx hb dX3_baitedLoss_48 (by decide) ?_
        rw [← hQ]
        exact cRetL (v := (x2_ / 1000000000)) () hx hb hr hlocks hS hP hD h dX3_baitedLoss_49
      · have h := h.2 c1
        refine lv_lload_n hx hb dX3_baitedLoss_17 rfl (lv_at hl 2 rfl) ?_
        refine lv_aload_n hx hb dX3_baitedLoss_18 rfl (lv_at hl 1 rfl) ?_
        refine va_getN (D := D) (ci := 4) (v := .ref (aR 7)) (C := RX4) (T := TX4) (N := 16) hx hb hw inW_X4 hown hK hP 17 rfl rfl 5 (by decide) hn45 (fun _ h9 => h9) rfl dX3_baitedLoss_19 ?_
        refine va_getN (D := D) (ci := 0) (v := .ref (aR 8)) (C := RX0) (T := TX0) (N := 6) hx hb hw inW_X0 hown hK hP 24 rfl rfl 1 (by decide) hn173 (fun _ h9 => h9) rfl dX3_baitedLoss_22 ?_
        refine lv_iload hx hb dX3_baitedLoss_25 (lv_at hl 3 rfl) ?_
        refine cIald hx hb hK hP 25 0 rfl rfl x4_.toNatClampNeg rfl h.1 dX3_baitedLoss_27 ?_
        have h := h.2
        refine lv_i2l hx hb dX3_baitedLoss_28 rfl ?_
        refine lv_aload_n hx hb dX3_baitedLoss_29 rfl (lv_at hl 0 rfl) ?_
        refine lv_iload hx hb dX3_baitedLoss_30 (lv_at hl 3 rfl) ?_
        refine gs_L9_34 (rs_V9_26 (As := [.int x4_]) (rest := [.long ((ra 4 x4_.toNatClampNeg).toInt64), .long x2_]) ⟨hx, hb, hml, hown, hw⟩ hK hN hP hD (k_X3_riskOf l D C _ n0 aN  ns na nl x4_ h) (cwV 1 hw (goodV mw_4_110 mw_4_83 mw_s57 mw_1_11 mw_4_84) rfl rfl rfl (by decide +kernel) ⟨Nat.le_of_ble_eq_true rfl, Nat.le_of_ble_eq_true rfl⟩) rfl rfl rfl hl.1 rfl (Nat.le_of_ble_eq_true rfl) dX3_baitedLoss_32 ⟨Nat.zero_le _, Nat.zero_le _⟩) hP hD hS hA (fun r2 u H locs h hP hD hS => ?_)
        have hP : va_P D vwCl (List.flatten (wNight n0 aN C ns na nl ++ (wRail aR C rs ra))) H := hP
        have hD : va_D A (List.flatten (wNight n0 aN C ns na nl ++ (wRail aR C rs ra))) := hD
        refine lv_lmul hx hb dX3_baitedLoss_35 ?_
        refine lv_ladd hx hb dX3_baitedLoss_36 ?_
        refine lv_topl (fun x3 ex3 => ?_)
        have h := h x3 ex3
        refine lv_lstore_n (lv' := [(2, .long x3), (0, .ref n0), (1, .ref (aR 0)), (4, .int x4_)]) hx hb dX3_baitedLoss_37 rfl hl (by decide) rfl (fun ls hl => ?_)
        refine lv_iinc (v := (x4_ + 1)) (lv' := [(4, .int (x4_ + 1)), (2, .long x3), (0, .ref n0), (1, .ref (aR 0))]) hx hb dX3_baitedLoss_38 hl (k := 3) rfl rfl (by decide) rfl (fun ls hl => ?_)
        refine lv_goto (tgt := 5) hx hb dX3_baitedLoss_41 (by decide) ?_
        exact ih5 x3 (x4_ + 1) _ _ _ h hP hD hS (lv_sub hl [2, 3, 1, 0] rfl)
  refine lv_lconst (v := 0) hx hb dX3_baitedLoss_0 (by decide) ?_
  refine lv_lstore_n (lv' := [(2, .long 0), (0, .ref n0), (1, .ref (aR 0))]) hx hb dX3_baitedLoss_1 rfl hl (by decide) rfl (fun ls hl => ?_)
  refine lv_iconst (v := 0) hx hb dX3_baitedLoss_2 (by decide) ?_
  refine lv_istore (lv' := [(4, .int 0), (2, .long 0), (0, .ref n0), (1, .ref (aR 0))]) hx hb dX3_baitedLoss_3 hl (by decide) rfl (fun ls hl => ?_)
  obtain ⟨n, h⟩ := h
  exact N5  n 0 0 _ _ _ h hP hD hS (lv_sub hl [2, 3, 1, 0] rfl)
abbrev vsX3_partsCaught : List Cond := Cond.code yX3_partsCaught cX3_partsCaught 5 (some .long) :: WS
abbrev rmX3_partsCaught : Room := { frames := 2, cells := 0, slots := 0, locals := 41 }
set_option maxHeartbeats 4000000 in
set_option maxRecDepth 100000 in
theorem k_X3_partsCaught (l : Launch) (D : va_G) (C : Nat → ClassId) (sz : Nat) (n0 : Nat) (aN : Nat → Nat)  (ns : Nat → Int32) (na : Nat → Nat → Int32) (nl : Nat → Nat → Int64) (p1 : Int32) {post : Int64 → Prop} (h : P_X3_partsCaught ns na nl p1 post) : Met l yX3_partsCaught vsX3_partsCaught rmX3_partsCaught (cPre D C [.ref n0, .int p1] sz (wNight n0 aN C ns na nl)) (cQl D (fun (r : Int64) (u : Unit) => post r ) (fun u => wNight n0 aN C ns na nl) (va_A (List.flatten (wNight n0 aN C ns na nl)) sz)) 0 0 (va_A (List.flatten (wNight n0 aN C ns na nl)) sz) := by
  refine cStart (QA := fun A => cQl D (fun (r : Int64) (u : Unit) => post r ) (fun u => wNight n0 aN C ns na nl) A) (cc := cX3_partsCaught) (maxL := 5) (ret := (some .long)) (by decide) (Nat.le_of_ble_eq_true rfl) ?_
  intro p e s m args below meth c A ls hx hb hr hml hown hw hlocks hname hK hN hA hP hD hS hl
  generalize hQ : MQ below _ args s 0 0 A = Q
  have hl : lv_has ls 5 [(0, .ref n0), (1, .int p1)] := hl
  have hn123 : (Cond.fieldLinkNest "LockRail$Night" 123 "LockRail$Spread" "size" "I" "LockRail").before args s = true := hN.f 75 rfl
  have hn126 : (Cond.fieldLinkNest "LockRail$Night" 126 "LockRail$Spread" "states" "[I" "LockRail").before args s = true := hN.f 76 rfl
  have hn129 : (Cond.fieldLinkNest "LockRail$Night" 129 "LockRail$Spread" "parts" "[J" "LockRail").before args s = true := hN.f 77 rfl
  obtain ⟨H, hH⟩ : ∃ H, H = s.heap := ⟨_, rfl⟩
  obtain ⟨locs, hlo⟩ : ∃ z : List Loc, z = [] := ⟨_, rfl⟩
  have hP : va_P D vwCl (List.flatten (wNight n0 aN C ns na nl)) H := by rw [hH]; exact hP
  have hS : va_S A s.heap H locs := by rw [hH, hlo]; exact hS
  rw [show W p l e rmX3_partsCaught s m args below meth c s.heap [] 0 0 Q (F0 m 0 ls []) = W p l e rmX3_partsCaught s m args below meth c H locs 0 0 Q (F0 m 0 ls []) from by rw [hH, hlo]]
  have N5 : ∀  (n5 : Nat) (x2_ : Int64) (x4_ : Int32) (H : Heap) (locs : List Loc) (ls : Array Slot), P_X3_partsCaught_5 ns na nl p1 post   n5 x2_ x4_ → va_P D vwCl (List.flatten (wNight n0 aN C ns na nl)) H → va_D A (List.flatten (wNight n0 aN C ns na nl)) → va_S A s.heap H locs → lv_has ls 5 [(0, .ref n0), (1, .int p1), (2, .long x2_), (4, .int x4_)] → W p l e rmX3_partsCaught s m args below meth c H locs 0 0 Q (F0 m 5 ls []) := by
    intro n5
    induction n5 with
    | zero => intro x2_ x4_ H locs ls h hP hD hS hl; exact False.elim h
    | succ n5 ih5 =>
      intro x2_ x4_ H locs ls h hP hD hS hl
      refine lv_iload hx hb dX3_partsCaught_5 (lv_at hl 3 rfl) ?_
      refine lv_aload_n hx hb dX3_partsCaught_7 rfl (lv_at hl 0 rfl) ?_
      refine va_get (D := D) (ci := 3) (v := .ref (aN 7)) (C := RX3) (T := TX3) (N := 10) hx hb hw inW_X3 hown hK hP 0 rfl rfl 6 (by decide) (hw _ mw_2_116) (fun _ h9 => h9) rfl dX3_partsCaught_8 ?_
      refine va_getN (D := D) (ci := 7) (v := .int (ns 2)) (C := RX7) (T := TX7) (N := 5) hx hb hw inW_X7 hown hK hP 7 rfl rfl 0 (by decide) hn123 (fun _ h9 => h9) rfl dX3_partsCaught_11 ?_
      refine lv_icmp_ge (tgt := 53) hx hb dX3_partsCaught_14 (by decide) (fun c1 => ?_) (fun c1 => ?_)
      · have h := h.1 c1
        refine lv_lload_n hx hb dX3_partsCaught_53 rfl (lv_at hl 2 rfl) ?_
        rw [← hQ]
        exact cRetL (v := x2_) () hx hb hr hlocks hS hP hD h dX3_partsCaught_54
      · have h := h.2 c1
        refine lv_aload_n hx hb dX3_partsCaught_17 rfl (lv_at hl 0 rfl) ?_
        refine va_get (D := D) (ci := 3) (v := .ref (aN 7)) (C := RX3) (T := TX3) (N := 10) hx hb hw inW_X3 hown hK hP 0 rfl rfl 6 (by decide) (hw _ mw_2_116) (fun _ h9 => h9) rfl dX3_partsCaught_18 ?_
        refine va_getN (D := D) (ci := 7) (v := .ref (aN 8)) (C := RX7) (T := TX7) (N := 5) hx hb hw inW_X7 hown hK hP 7 rfl rfl 1 (by decide) hn126 (fun _ h9 => h9) rfl dX3_partsCaught_21 ?_
        refine lv_iload hx hb dX3_partsCaught_24 (lv_at hl 3 rfl) ?_
        refine cIald hx hb hK hP 8 0 rfl rfl x4_.toNatClampNeg rfl h.1 dX3_partsCaught_26 ?_
        have h := h.2
        refine lv_iload_n hx hb dX3_partsCaught_27 rfl (lv_at hl 1 rfl) ?_
        refine cGoEI (cRunES (As := [.int (na 5 x4_.toNatClampNeg), .int p1]) (rest := []) ⟨hx, hb, hml, hown, hw⟩ hK hN hP hD (k_X3_isCaught l D C _    (na 5 x4_.toNatClampNeg) p1 h) (va_cwS 2 hw (goodS mw_4_43 mw_4_44 mw_1_11 mw_4_45) rfl rfl rfl (by decide +kernel) ⟨Nat.le_of_ble_eq_true rfl, Nat.le_of_ble_eq_true rfl⟩) rfl hl.1 rfl (Nat.le_of_ble_eq_true rfl) dX3_partsCaught_28 ⟨Nat.zero_le _, Nat.zero_le _⟩) hP hD hS hA (fun r2 u H locs h hP hD hS => ?_)
        have hP : va_P D vwCl (List.flatten (wNight n0 aN C ns na nl)) H := hP
        have hD : va_D A (List.flatten (wNight n0 aN C ns na nl)) := hD
        refine lv_if_eq (tgt := 47) hx hb dX3_partsCaught_31 (by decide) (fun c3 => ?_) (fun c3 => ?_)
        · have h := h.1 c3
          refine lv_iinc (v := (x4_ + 1)) (lv' := [(4, .int (x4_ + 1)), (0, .ref n0), (1, .int p1), (2, .long x2_)]) hx hb dX3_partsCaught_47 hl (k := 3) rfl rfl (by decide) rfl (fun ls hl => ?_)
          refine lv_goto (tgt := 5) hx hb dX3_partsCaught_50 (by decide) ?_
          exact ih5 x2_ (x4_ + 1) _ _ _ h hP hD hS (lv_sub hl [1, 2, 3, 0] rfl)
        · have h := h.2 c3
          refine lv_lload_n hx hb dX3_partsCaught_34 rfl (lv_at hl 2 rfl) ?_
          refine lv_aload_n hx hb dX3_partsCaught_35 rfl (lv_at hl 0 rfl) ?_
          refine va_get (D := D) (ci := 3) (v := .ref (aN 7)) (C := RX3) (T := TX3) (N := 10) hx hb hw inW_X3 hown hK hP 0 rfl rfl 6 (by decide) (hw _ mw_2_116) (fun _ h9 => h9) rfl dX3_partsCaught_36 ?_
          refine va_getN (D := D) (ci := 7) (v := .ref (aN 9)) (C := RX7) (T := TX7) (N := 5) hx hb hw inW_X7 hown hK hP 7 rfl rfl 2 (by decide) hn129 (fun _ h9 => h9) rfl dX3_partsCaught_39 ?_
          refine lv_iload hx hb dX3_partsCaught_42 (lv_at hl 3 rfl) ?_
          refine cLald hx hb hK hP 9 1 rfl rfl x4_.toNatClampNeg rfl h.1 dX3_partsCaught_44 ?_
          have h := h.2
          refine lv_ladd hx hb dX3_partsCaught_45 ?_
          refine lv_topl (fun x4 ex4 => ?_)
          have h := h x4 ex4
          refine lv_lstore_n (lv' := [(2, .long x4), (0, .ref n0), (1, .int p1), (4, .int x4_)]) hx hb dX3_partsCaught_46 rfl hl (by decide) rfl (fun ls hl => ?_)
          refine lv_iinc (v := (x4_ + 1)) (lv' := [(4, .int (x4_ + 1)), (2, .long x4), (0, .ref n0), (1, .int p1)]) hx hb dX3_partsCaught_47 hl (k := 3) rfl rfl (by decide) rfl (fun ls hl => ?_)
          refine lv_goto (tgt := 5) hx hb dX3_partsCaught_50 (by decide) ?_
          exact ih5 x4 (x4_ + 1) _ _ _ h hP hD hS (lv_sub hl [2, 3, 1, 0] rfl)
  refine lv_lconst (v := 0) hx hb dX3_partsCaught_0 (by decide) ?_
  refine lv_lstore_n (lv' := [(2, .long 0), (0, .ref n0), (1, .int p1)]) hx hb dX3_partsCaught_1 rfl hl (by decide) rfl (fun ls hl => ?_)
  refine lv_iconst (v := 0) hx hb dX3_partsCaught_2 (by decide) ?_
  refine lv_istore (lv' := [(4, .int 0), (2, .long 0), (0, .ref n0), (1, .int p1)]) hx hb dX3_partsCaught_3 hl (by decide) rfl (fun ls hl => ?_)
  obtain ⟨n, h⟩ := h
  exact N5  n 0 0 _ _ _ h hP hD hS (lv_sub hl [2, 3, 1, 0] rfl)
abbrev vsX3_leastLure : List Cond := Cond.code yX3_leastLure cX3_leastLure 5 (some .int) :: WS
abbrev rmX3_leastLure : Room := { frames := 2, cells := 0, slots := 0, locals := 48 }
set_option maxHeartbeats 4000000 in
set_option maxRecDepth 100000 in
theorem k_X3_leastLure (l : Launch) (D : va_G) (C : Nat → ClassId) (sz : Nat) (n0 : Nat) (aN : Nat → Nat) (aR : Nat → Nat)  (ns : Nat → Int32) (na : Nat → Nat → Int32) (nl : Nat → Nat → Int64) (rs : Nat → Int32) (ra : Nat → Nat → Int32) (p2 : Int32) {post : Int32 → Prop} (h : P_X3_leastLure na ra p2 post) : Met l yX3_leastLure vsX3_leastLure rmX3_leastLure (cPre D C [.ref n0, .ref (aR 0), .int p2] sz (wNight n0 aN C ns na nl ++ (wRail aR C rs ra))) (cQi D (fun (r : Int32) (u : Unit) => post r ) (fun u => wNight n0 aN C ns na nl ++ (wRail aR C rs ra)) (va_A (List.flatten (wNight n0 aN C ns na nl ++ (wRail aR C rs ra))) sz)) 0 0 (va_A (List.flatten (wNight n0 aN C ns na nl ++ (wRail aR C rs ra))) sz) := by
  refine cStart (QA := fun A => cQi D (fun (r : Int32) (u : Unit) => post r ) (fun u => wNight n0 aN C ns na nl ++ (wRail aR C rs ra)) A) (cc := cX3_leastLure) (maxL := 5) (ret := (some .int)) (by decide) (Nat.le_of_ble_eq_true rfl) ?_
  intro p e s m args below meth c A ls hx hb hr hml hown hw hlocks hname hK hN hA hP hD hS hl
  generalize hQ : MQ below _ args s 0 0 A = Q
  have hl : lv_has ls 5 [(0, .ref n0), (1, .ref (aR 0)), (2, .int p2)] := hl
  have hn75 : (Cond.fieldLinkNest "LockRail$Night" 75 "LockRail$Rail" "thieves" "LLockRail$Thieves;" "LockRail").before args s = true := hN.f 62 rfl
  have hn86 : (Cond.fieldLinkNest "LockRail$Night" 86 "LockRail$Thieves" "kind" "[I" "LockRail").before args s = true := hN.f 39 rfl
  obtain ⟨H, hH⟩ : ∃ H, H = s.heap := ⟨_, rfl⟩
  obtain ⟨locs, hlo⟩ : ∃ z : List Loc, z = [] := ⟨_, rfl⟩
  have hP : va_P D vwCl (List.flatten (wNight n0 aN C ns na nl ++ (wRail aR C rs ra))) H := by rw [hH]; exact hP
  have hS : va_S A s.heap H locs := by rw [hH, hlo]; exact hS
  rw [show W p l e rmX3_leastLure s m args below meth c s.heap [] 0 0 Q (F0 m 0 ls []) = W p l e rmX3_leastLure s m args below meth c H locs 0 0 Q (F0 m 0 ls []) from by rw [hH, hlo]]
  refine lv_aload_n hx hb dX3_leastLure_0 rfl (lv_at hl 0 rfl) ?_
  refine lv_iload_n hx hb dX3_leastLure_1 rfl (lv_at hl 2 rfl) ?_
  refine lv_iconst (v := 0) hx hb dX3_leastLure_2 (by decide) ?_
  refine gs_I9_35 (rs_V9_26 (As := [.int p2, .int 0]) (rest := []) ⟨hx, hb, hml, hown, hw⟩ hK hN hP hD (k_X3_pick l D C _ n0 aN  ns na nl p2 0 h) (cwV 2 hw (goodV mw_4_49 mw_3_238 mw_s44 mw_1_11 mw_3_239) rfl rfl rfl (by decide +kernel) ⟨Nat.le_of_ble_eq_true rfl, Nat.le_of_ble_eq_true rfl⟩) rfl rfl rfl hl.1 rfl (Nat.le_of_ble_eq_true rfl) dX3_leastLure_3 ⟨Nat.zero_le _, Nat.zero_le _⟩) hP hD hS hA (fun r1 u H locs h hP hD hS => ?_)
  have hP : va_P D vwCl (List.flatten (wNight n0 aN C ns na nl ++ (wRail aR C rs ra))) H := hP
  have hD : va_D A (List.flatten (wNight n0 aN C ns na nl ++ (wRail aR C rs ra))) := hD
  refine lv_istore_n (lv' := [(3, .int r1), (0, .ref n0), (1, .ref (aR 0)), (2, .int p2)]) hx hb dX3_leastLure_6 rfl hl (by decide) rfl (fun ls hl => ?_)
  refine lv_aload_n hx hb dX3_leastLure_7 rfl (lv_at hl 2 rfl) ?_
  refine va_getN (D := D) (ci := 4) (v := .ref (aR 13)) (C := RX4) (T := TX4) (N := 16) hx hb hw inW_X4 hown hK hP 17 rfl rfl 6 (by decide) hn75 (fun _ h9 => h9) rfl dX3_leastLure_8 ?_
  refine va_getN (D := D) (ci := 9) (v := .ref (aR 17)) (C := RX9) (T := TX9) (N := 6) hx hb hw inW_X9 hown hK hP 30 rfl rfl 4 (by decide) hn86 (fun _ h9 => h9) rfl dX3_leastLure_11 ?_
  refine lv_iload_n hx hb dX3_leastLure_14 rfl (lv_at hl 3 rfl) ?_
  refine cIald hx hb hK hP 34 0 rfl rfl p2.toNatClampNeg rfl h.1 dX3_leastLure_15 ?_
  have h := h.2
  refine lv_topi (fun x2 ex2 => ?_)
  have h := h x2 ex2
  refine lv_istore (lv' := [(4, .int x2), (3, .int r1), (0, .ref n0), (1, .ref (aR 0)), (2, .int p2)]) hx hb dX3_leastLure_16 hl (by decide) rfl (fun ls hl => ?_)
  refine lv_iload hx hb dX3_leastLure_18 (lv_at hl 0 rfl) ?_
  refine lv_iconst (v := 2) hx hb dX3_leastLure_20 (by decide) ?_
  refine lv_icmp_ne (tgt := 28) hx hb dX3_leastLure_21 (by decide) (fun c3 => ?_) (fun c3 => ?_)
  · have h := h.1 c3
    refine lv_iload_n hx hb dX3_leastLure_28 rfl (lv_at hl 1 rfl) ?_
    refine lv_iconst (v := (-1)) hx hb dX3_leastLure_29 (by decide) ?_
    refine lv_icmp_ne (tgt := 35) hx hb dX3_leastLure_30 (by decide) (fun c4 => ?_) (fun c4 => ?_)
    · have h := h.1 c4
      refine lv_iload hx hb dX3_leastLure_35 (lv_at hl 0 rfl) ?_
      refine lv_if_ne (tgt := 50) hx hb dX3_leastLure_37 (by decide) (fun c5 => ?_) (fun c5 => ?_)
      · have h := h.1 c5
        refine lv_aload_n hx hb dX3_leastLure_50 rfl (lv_at hl 3 rfl) ?_
        refine lv_iload_n hx hb dX3_leastLure_51 rfl (lv_at hl 4 rfl) ?_
        refine lv_iload_n hx hb dX3_leastLure_52 rfl (lv_at hl 1 rfl) ?_
        refine lv_aload_n hx hb dX3_leastLure_53 rfl (lv_at hl 2 rfl) ?_
        refine va_get (D := D) (ci := 3) (v := .ref (aN 1)) (C := RX3) (T := TX3) (N := 10) hx hb hw inW_X3 hown hK hP 0 rfl rfl 0 (by decide) (hw _ mw_2_110) (fun _ h9 => h9) rfl dX3_leastLure_54 ?_
        refine lv_iload_n hx hb dX3_leastLure_57 rfl (lv_at hl 1 rfl) ?_
        refine cIald hx hb hK hP 1 0 rfl rfl r1.toNatClampNeg rfl h.1 dX3_leastLure_58 ?_
        have h := h.2
        refine gs_I9_31 (rs_VN9_27 (As := [.int p2, .int r1, .int (na 0 r1.toNatClampNeg)]) (rest := []) ⟨hx, hb, hml, hown, hw⟩ hK hN hP hD (k_X4_troubleOf l D C _ aR  rs ra p2 r1 (na 0 r1.toNatClampNeg) h) ⟨va_cnB 3 hw (goodN mw_3_195) rfl rfl rfl (hN.m 41 rfl) (hw _ mw_1_4) (by decide +kernel) ⟨Nat.le_of_ble_eq_true rfl, Nat.le_of_ble_eq_true rfl⟩, hw _ mw_3_194, hw _ mw_s36⟩ rfl rfl rfl hl.1 rfl (Nat.le_of_ble_eq_true rfl) dX3_leastLure_59 ⟨Nat.zero_le _, Nat.zero_le _⟩) hP hD hS hA (fun r6 u H locs h hP hD hS => ?_)
        have hP : va_P D vwCl (List.flatten (wNight n0 aN C ns na nl ++ (wRail aR C rs ra))) H := hP
        have hD : va_D A (List.flatten (wNight n0 aN C ns na nl ++ (wRail aR C rs ra))) := hD
        refine lv_if_ne (tgt := 71) hx hb dX3_leastLure_62 (by decide) (fun c7 => ?_) (fun c7 => ?_)
        · have h := h.1 c7
          refine lv_iconst (v := 1) hx hb dX3_leastLure_71 (by decide) ?_
          rw [← hQ]
          exact cRetI (v := 1) () hx hb hr hlocks hS hP hD h dX3_leastLure_72
        · have h := h.2 c7
          refine lv_sipush (v := 10000) hx hb dX3_leastLure_65 (by decide) ?_
          refine lv_goto (tgt := 72) hx hb dX3_leastLure_68 (by decide) ?_
          rw [← hQ]
          exact cRetI (v := 10000) () hx hb hr hlocks hS hP hD h dX3_leastLure_72
      · have h := h.2 c5
        refine lv_aload_n hx hb dX3_leastLure_40 rfl (lv_at hl 2 rfl) ?_
        refine lv_aload_n hx hb dX3_leastLure_41 rfl (lv_at hl 3 rfl) ?_
        refine lv_iload_n hx hb dX3_leastLure_42 rfl (lv_at hl 4 rfl) ?_
        refine lv_iload_n hx hb dX3_leastLure_43 rfl (lv_at hl 1 rfl) ?_
        refine cGoAI (cRunAV (As := [.ref (aR 0), .int p2, .int r1]) (rest := []) ⟨hx, hb, hml, hown, hw⟩ hK hN hP hD (k_X3_netOf l D C _ n0 aN aR  ns na nl rs ra p2 r1 h) (cwV 3 hw (goodV mw_4_8 mw_4_10 mw_s46 mw_1_11 mw_4_11) rfl rfl rfl (by decide +kernel) ⟨Nat.le_of_ble_eq_true rfl, Nat.le_of_ble_eq_true rfl⟩) rfl rfl rfl hl.1 rfl (Nat.le_of_ble_eq_true rfl) dX3_leastLure_44 ⟨Nat.zero_le _, Nat.zero_le _⟩) hP hD hS hA (fun r8 u H locs h hP hD hS => ?_)
        have hP : va_P D vwCl (List.flatten (wNight n0 aN C ns na nl ++ (wRail aR C rs ra))) H := hP
        have hD : va_D A (List.flatten (wNight n0 aN C ns na nl ++ (wRail aR C rs ra))) := hD
        refine lv_iconst (v := 1) hx hb dX3_leastLure_47 (by decide) ?_
        refine lv_iadd hx hb dX3_leastLure_48 ?_
        rw [← hQ]
        exact cRetI (v := (r8 + 1)) () hx hb hr hlocks hS hP hD h dX3_leastLure_49
    · have h := h.2 c4
      refine lv_iconst (v := 1) hx hb dX3_leastLure_33 (by decide) ?_
      rw [← hQ]
      exact cRetI (v := 1) () hx hb hr hlocks hS hP hD h dX3_leastLure_34
  · have h := h.2 c3
    refine lv_sipush (v := 10000) hx hb dX3_leastLure_24 (by decide) ?_
    rw [← hQ]
    exact cRetI (v := 10000) () hx hb hr hlocks hS hP hD h dX3_leastLure_27
abbrev vsX3_letAllCome : List Cond := Cond.code yX3_letAllCome cX3_letAllCome 7 (some .int) :: WS
abbrev rmX3_letAllCome : Room := { frames := 1, cells := 0, slots := 0, locals := 25 }
set_option maxHeartbeats 4000000 in
set_option maxRecDepth 100000 in
theorem k_X3_letAllCome (l : Launch) (D : va_G) (C : Nat → ClassId) (sz : Nat) (n0 : Nat) (aN : Nat → Nat) (e0 : Nat) (e1 : Nat) (e2 : Nat)  (ns : Nat → Int32) (na : Nat → Nat → Int32) (nl : Nat → Nat → Int64) (e_isThere : Int32) (e_taken : Nat → Int32) (e_took : Nat → Int32) (p1 : Int32) (p2 : Int32) {post : Int32 → (Nat → Int32) → (Nat → Int32) → Prop} (h : P_X3_letAllCome ns na e_taken e_took p1 p2 post) : Met l yX3_letAllCome vsX3_letAllCome rmX3_letAllCome (cPre D C [.ref n0, .int p1, .int p2, .ref e0] sz (wNight n0 aN C ns na nl ++ ([cYear e0 e1 e2 C e_isThere e_taken e_took]))) (cQi D (fun (r : Int32) (u : (Nat → Int32) × (Nat → Int32)) => post r u.1 u.2) (fun u => wNight n0 aN C ns na nl ++ ([cYear e0 e1 e2 C e_isThere u.1 u.2])) (va_A (List.flatten (wNight n0 aN C ns na nl ++ ([cYear e0 e1 e2 C e_isThere e_taken e_took]))) sz)) 0 0 (va_A (List.flatten (wNight n0 aN C ns na nl ++ ([cYear e0 e1 e2 C e_isThere e_taken e_took]))) sz) := by
  refine cStart (QA := fun A => cQi D (fun (r : Int32) (u : (Nat → Int32) × (Nat → Int32)) => post r u.1 u.2) (fun u => wNight n0 aN C ns na nl ++ ([cYear e0 e1 e2 C e_isThere u.1 u.2])) A) (cc := cX3_letAllCome) (maxL := 7) (ret := (some .int)) (by decide) (Nat.le_of_ble_eq_true rfl) ?_
  intro p e s m args below meth c A ls hx hb hr hml hown hw hlocks hname hK hN hA hP hD hS hl
  generalize hQ : MQ below _ args s 0 0 A = Q
  have hl : lv_has ls 7 [(0, .ref n0), (1, .int p1), (2, .int p2), (3, .ref e0)] := hl
  have hn204 : (Cond.fieldLinkNest "LockRail$Night" 204 "LockRail$Year" "taken" "[I" "LockRail").before args s = true := hN.f 44 rfl
  have hn207 : (Cond.fieldLinkNest "LockRail$Night" 207 "LockRail$Year" "took" "[I" "LockRail").before args s = true := hN.f 46 rfl
  obtain ⟨H, hH⟩ : ∃ H, H = s.heap := ⟨_, rfl⟩
  obtain ⟨locs, hlo⟩ : ∃ z : List Loc, z = [] := ⟨_, rfl⟩
  have hP : va_P D vwCl (List.flatten (wNight n0 aN C ns na nl ++ ([cYear e0 e1 e2 C e_isThere e_taken e_took]))) H := by rw [hH]; exact hP
  have hS : va_S A s.heap H locs := by rw [hH, hlo]; exact hS
  rw [show W p l e rmX3_letAllCome s m args below meth c s.heap [] 0 0 Q (F0 m 0 ls []) = W p l e rmX3_letAllCome s m args below meth c H locs 0 0 Q (F0 m 0 ls []) from by rw [hH, hlo]]
  have N88 : ∀ (x4_ : Int32) (e_taken : Nat → Int32) (e_took : Nat → Int32) (H : Heap) (locs : List Loc) (ls : Array Slot), P_X3_letAllCome_88 ns na p1 p2 post  x4_ e_taken e_took → va_P D vwCl (List.flatten (wNight n0 aN C ns na nl ++ ([cYear e0 e1 e2 C e_isThere e_taken e_took]))) H → va_D A (List.flatten (wNight n0 aN C ns na nl ++ ([cYear e0 e1 e2 C e_isThere e_taken e_took]))) → va_S A s.heap H locs → lv_has ls 7 [(4, .int x4_)] → W p l e rmX3_letAllCome s m args below meth c H locs 0 0 Q (F0 m 88 ls []) := by
    intro x4_ e_taken e_took H locs ls h hP hD hS hl
    refine lv_iload hx hb dX3_letAllCome_88 (lv_at hl 0 rfl) ?_
    refine cGoEI (cRunES (As := [.int x4_]) (rest := []) ⟨hx, hb, hml, hown, hw⟩ hK hN hP hD (k_J6_bitCount_0f7a4 l D C _    x4_ h) (va_cwS 1 hw (goodS mw_4_71 mw_4_72 mw_1_20 mw_4_73) rfl rfl rfl (by decide +kernel) ⟨Nat.le_of_ble_eq_true rfl, Nat.le_of_ble_eq_true rfl⟩) rfl hl.1 rfl (Nat.le_of_ble_eq_true rfl) dX3_letAllCome_90 ⟨Nat.zero_le _, Nat.zero_le _⟩) hP hD hS hA (fun r4 u H locs h hP hD hS => ?_)
    have hP : va_P D vwCl (List.flatten (wNight n0 aN C ns na nl ++ ([cYear e0 e1 e2 C e_isThere e_taken e_took]))) H := hP
    have hD : va_D A (List.flatten (wNight n0 aN C ns na nl ++ ([cYear e0 e1 e2 C e_isThere e_taken e_took]))) := hD
    rw [← hQ]
    exact cRetI (v := r4) (e_taken, e_took) hx hb hr hlocks hS hP hD h dX3_letAllCome_93
  have N6 : ∀  (n6 : Nat) (x4_ : Int32) (x5_ : Int32) (e_taken : Nat → Int32) (e_took : Nat → Int32) (H : Heap) (locs : List Loc) (ls : Array Slot), P_X3_letAllCome_6 ns na p1 p2 post (fun (x4_ : Int32) (e_taken : Nat → Int32) (e_took : Nat → Int32) => P_X3_letAllCome_88 ns na p1 p2 post  x4_ e_taken e_took)  n6 x4_ x5_ e_taken e_took → va_P D vwCl (List.flatten (wNight n0 aN C ns na nl ++ ([cYear e0 e1 e2 C e_isThere e_taken e_took]))) H → va_D A (List.flatten (wNight n0 aN C ns na nl ++ ([cYear e0 e1 e2 C e_isThere e_taken e_took]))) → va_S A s.heap H locs → lv_has ls 7 [(0, .ref n0), (1, .int p1), (2, .int p2), (3, .ref e0), (4, .int x4_), (5, .int x5_)] → W p l e rmX3_letAllCome s m args below meth c H locs 0 0 Q (F0 m 6 ls []) := by
    intro n6
    induction n6 with
    | zero => intro x4_ x5_ e_taken e_took H locs ls h hP hD hS hl; exact False.elim h
    | succ n6 ih6 =>
      have N34 : ∀ (x4_ : Int32) (x5_ : Int32) (k0_ : Int32) (e_taken : Nat → Int32) (e_took : Nat → Int32) (H : Heap) (locs : List Loc) (ls : Array Slot), P_X3_letAllCome_34 ns na p1 p2 post (P_X3_letAllCome_6 ns na p1 p2 post (fun (x4_ : Int32) (e_taken : Nat → Int32) (e_took : Nat → Int32) => P_X3_letAllCome_88 ns na p1 p2 post  x4_ e_taken e_took)  n6) x4_ x5_ k0_ e_taken e_took → va_P D vwCl (List.flatten (wNight n0 aN C ns na nl ++ ([cYear e0 e1 e2 C e_isThere e_taken e_took]))) H → va_D A (List.flatten (wNight n0 aN C ns na nl ++ ([cYear e0 e1 e2 C e_isThere e_taken e_took]))) → va_S A s.heap H locs → lv_has ls 7 [(0, .ref n0), (1, .int p1), (2, .int p2), (3, .ref e0), (4, .int x4_), (5, .int x5_)] → W p l e rmX3_letAllCome s m args below meth c H locs 0 0 Q (F0 m 34 ls [.int k0_]) := by
        intro x4_ x5_ k0_ e_taken e_took H locs ls h hP hD hS hl
        refine lv_istore (lv' := [(6, .int k0_), (0, .ref n0), (1, .int p1), (2, .int p2), (3, .ref e0), (4, .int x4_), (5, .int x5_)]) hx hb dX3_letAllCome_34 hl (by decide) rfl (fun ls hl => ?_)
        refine lv_iload hx hb dX3_letAllCome_36 (lv_at hl 0 rfl) ?_
        refine lv_iconst (v := (-1)) hx hb dX3_letAllCome_38 (by decide) ?_
        refine lv_icmp_eq (tgt := 82) hx hb dX3_letAllCome_39 (by decide) (fun c1 => ?_) (fun c1 => ?_)
        · have h := h.1 c1
          refine lv_iinc (v := (x5_ + 1)) (lv' := [(5, .int (x5_ + 1)), (6, .int k0_), (0, .ref n0), (1, .int p1), (2, .int p2), (3, .ref e0), (4, .int x4_)]) hx hb dX3_letAllCome_82 hl (k := 6) rfl rfl (by decide) rfl (fun ls hl => ?_)
          refine lv_goto (tgt := 6) hx hb dX3_letAllCome_85 (by decide) ?_
          exact ih6 x4_ (x5_ + 1) e_taken e_took _ _ _ h hP hD hS (lv_sub hl [2, 3, 4, 5, 6, 0] rfl)
        · have h := h.2 c1
          refine lv_iload hx hb dX3_letAllCome_42 (lv_at hl 0 rfl) ?_
          refine lv_aload_n hx hb dX3_letAllCome_44 rfl (lv_at hl 1 rfl) ?_
          refine va_get (D := D) (ci := 3) (v := .int (ns 0)) (C := RX3) (T := TX3) (N := 10) hx hb hw inW_X3 hown hK hP 0 rfl rfl 8 (by decide) (hw _ mw_2_118) (fun _ h9 => h9) rfl dX3_letAllCome_45 ?_
          refine lv_icmp_eq (tgt := 82) hx hb dX3_letAllCome_48 (by decide) (fun c2 => ?_) (fun c2 => ?_)
          · have h := h.1 c2
            refine lv_iinc (v := (x5_ + 1)) (lv' := [(5, .int (x5_ + 1)), (6, .int k0_), (0, .ref n0), (1, .int p1), (2, .int p2), (3, .ref e0), (4, .int x4_)]) hx hb dX3_letAllCome_82 hl (k := 6) rfl rfl (by decide) rfl (fun ls hl => ?_)
            refine lv_goto (tgt := 6) hx hb dX3_letAllCome_85 (by decide) ?_
            exact ih6 x4_ (x5_ + 1) e_taken e_took _ _ _ h hP hD hS (lv_sub hl [2, 3, 4, 5, 6, 0] rfl)
          · have h := h.2 c2
            refine lv_iload hx hb dX3_letAllCome_51 (lv_at hl 5 rfl) ?_
            refine lv_iconst (v := 1) hx hb dX3_letAllCome_53 (by decide) ?_
            refine lv_iload hx hb dX3_letAllCome_54 (lv_at hl 0 rfl) ?_
            refine lv_ishl hx hb dX3_letAllCome_56 ?_
            refine lv_ior hx hb dX3_letAllCome_57 ?_
            refine lv_topi (fun x3 ex3 => ?_)
            have h := h x3 ex3
            refine lv_istore (lv' := [(4, .int x3), (6, .int k0_), (0, .ref n0), (1, .int p1), (2, .int p2), (3, .ref e0), (5, .int x5_)]) hx hb dX3_letAllCome_58 hl (by decide) rfl (fun ls hl => ?_)
            refine lv_aload_n hx hb dX3_letAllCome_60 rfl (lv_at hl 5 rfl) ?_
            refine va_getN (D := D) (ci := 10) (v := .ref e1) (C := RX10) (T := TX10) (N := 3) hx hb hw inW_X10 hown hK hP 17 rfl rfl 1 (by decide) hn204 (fun _ h9 => h9) rfl dX3_letAllCome_61 ?_
            refine lv_iload hx hb dX3_letAllCome_64 (lv_at hl 1 rfl) ?_
            refine lv_dup2_11 hx hb dX3_letAllCome_66 rfl rfl ?_
            refine cIald hx hb hK hP 18 0 rfl rfl k0_.toNatClampNeg rfl h.1 dX3_letAllCome_67 ?_
            have h := h.2
            refine lv_iconst (v := 1) hx hb dX3_letAllCome_68 (by decide) ?_
            refine lv_iadd hx hb dX3_letAllCome_69 ?_
            refine cIast hx hb hK hP hD hS 18 0 rfl rfl k0_.toNatClampNeg rfl h.1 dX3_letAllCome_70 (fun H locs hP hD hS => ?_)
            have h := h.2
            refine lv_aload_n hx hb dX3_letAllCome_71 rfl (lv_at hl 5 rfl) ?_
            refine va_getN (D := D) (ci := 10) (v := .ref e2) (C := RX10) (T := TX10) (N := 3) hx hb hw inW_X10 hown hK hP 17 rfl rfl 2 (by decide) hn207 (fun _ h9 => h9) rfl dX3_letAllCome_72 ?_
            refine lv_iload hx hb dX3_letAllCome_75 (lv_at hl 6 rfl) ?_
            refine lv_dup2_11 hx hb dX3_letAllCome_77 rfl rfl ?_
            refine cIald hx hb hK hP 19 0 rfl rfl x5_.toNatClampNeg rfl h.1 dX3_letAllCome_78 ?_
            have h := h.2
            refine lv_iconst (v := 1) hx hb dX3_letAllCome_79 (by decide) ?_
            refine lv_iadd hx hb dX3_letAllCome_80 ?_
            refine cIast hx hb hK hP hD hS 19 0 rfl rfl x5_.toNatClampNeg rfl h.1 dX3_letAllCome_81 (fun H locs hP hD hS => ?_)
            have h := h.2
            refine lv_iinc (v := (x5_ + 1)) (lv' := [(5, .int (x5_ + 1)), (4, .int x3), (6, .int k0_), (0, .ref n0), (1, .int p1), (2, .int p2), (3, .ref e0)]) hx hb dX3_letAllCome_82 hl (k := 6) rfl rfl (by decide) rfl (fun ls hl => ?_)
            refine lv_goto (tgt := 6) hx hb dX3_letAllCome_85 (by decide) ?_
            have hP : va_P D vwCl (List.flatten (wNight n0 aN C ns na nl ++ ([cYear e0 e1 e2 C e_isThere (upd e_taken k0_.toNatClampNeg ((e_taken k0_.toNatClampNeg) + 1)) (upd e_took x5_.toNatClampNeg ((e_took x5_.toNatClampNeg) + 1))]))) H := hP
            have hD : va_D A (List.flatten (wNight n0 aN C ns na nl ++ ([cYear e0 e1 e2 C e_isThere (upd e_taken k0_.toNatClampNeg ((e_taken k0_.toNatClampNeg) + 1)) (upd e_took x5_.toNatClampNeg ((e_took x5_.toNatClampNeg) + 1))]))) := hD
            exact ih6 x3 (x5_ + 1) (upd e_taken k0_.toNatClampNeg ((e_taken k0_.toNatClampNeg) + 1)) (upd e_took x5_.toNatClampNeg ((e_took x5_.toNatClampNeg) + 1)) _ _ _ h hP hD hS (lv_sub hl [3, 4, 5, 6, 1, 0] rfl)
      intro x4_ x5_ e_taken e_took H locs ls h hP hD hS hl
      refine lv_iload hx hb dX3_letAllCome_6 (lv_at hl 5 rfl) ?_
      refine lv_iload_n hx hb dX3_letAllCome_8 rfl (lv_at hl 2 rfl) ?_
      refine lv_icmp_ge (tgt := 88) hx hb dX3_letAllCome_9 (by decide) (fun c5 => ?_) (fun c5 => ?_)
      · have h := h.1 c5
        exact N88 x4_ e_taken e_took _ _ _ h hP hD hS (lv_sub hl [4] rfl)
      · have h := h.2 c5
        refine lv_iload_n hx hb dX3_letAllCome_12 rfl (lv_at hl 1 rfl) ?_
        refine lv_iload hx hb dX3_letAllCome_13 (lv_at hl 5 rfl) ?_
        refine lv_ishr hx hb dX3_letAllCome_15 ?_
        refine lv_iconst (v := 1) hx hb dX3_letAllCome_16 (by decide) ?_
        refine lv_iand hx hb dX3_letAllCome_17 ?_
        refine lv_iconst (v := 1) hx hb dX3_letAllCome_18 (by decide) ?_
        refine lv_icmp_ne (tgt := 33) hx hb dX3_letAllCome_19 (by decide) (fun c6 => ?_) (fun c6 => ?_)
        · have h := h.1 c6
          refine lv_iconst (v := (-1)) hx hb dX3_letAllCome_33 (by decide) ?_
          exact N34 x4_ x5_ (-1) e_taken e_took _ _ _ h hP hD hS (lv_sub hl [0, 1, 2, 3, 4, 5] rfl)
        · have h := h.2 c6
          refine lv_aload_n hx hb dX3_letAllCome_22 rfl (lv_at hl 0 rfl) ?_
          refine lv_iload hx hb dX3_letAllCome_23 (lv_at hl 5 rfl) ?_
          refine lv_iload hx hb dX3_letAllCome_25 (lv_at hl 4 rfl) ?_
          refine cGoI (wo := fun u => wNight n0 aN C ns na nl ++ ([cYear e0 e1 e2 C e_isThere e_taken e_took])) (cRunV (As := [.int x5_, .int x4_]) (rest := []) ⟨hx, hb, hml, hown, hw⟩ hK hN hP hD [0, 1, 2] rfl rfl (k_X3_pick l D C _ n0 aN  ns na nl x5_ x4_ h) (cwV 2 hw (goodV mw_4_49 mw_3_238 mw_s44 mw_1_11 mw_3_239) rfl rfl rfl (by decide +kernel) ⟨Nat.le_of_ble_eq_true rfl, Nat.le_of_ble_eq_true rfl⟩) rfl rfl rfl hl.1 rfl (Nat.le_of_ble_eq_true rfl) dX3_letAllCome_27 ⟨Nat.zero_le _, Nat.zero_le _⟩) hP hD hS hA [0, 1, 2] [3] [1, 2, 3, 0] rfl rfl rfl (by decide) rfl (fun _ => rfl) (fun r7 u H locs h hP hD hS => ?_)
          have hP : va_P D vwCl (List.flatten (wNight n0 aN C ns na nl ++ ([cYear e0 e1 e2 C e_isThere e_taken e_took]))) H := hP
          have hD : va_D A (List.flatten (wNight n0 aN C ns na nl ++ ([cYear e0 e1 e2 C e_isThere e_taken e_took]))) := hD
          refine lv_goto (tgt := 34) hx hb dX3_letAllCome_30 (by decide) ?_
          exact N34 x4_ x5_ r7 e_taken e_took _ _ _ h hP hD hS (lv_sub hl [0, 1, 2, 3, 4, 5] rfl)
  refine lv_iconst (v := 0) hx hb dX3_letAllCome_0 (by decide) ?_
  refine lv_istore (lv' := [(4, .int 0), (0, .ref n0), (1, .int p1), (2, .int p2), (3, .ref e0)]) hx hb dX3_letAllCome_1 hl (by decide) rfl (fun ls hl => ?_)
  refine lv_iconst (v := 0) hx hb dX3_letAllCome_3 (by decide) ?_
  refine lv_istore (lv' := [(5, .int 0), (4, .int 0), (0, .ref n0), (1, .int p1), (2, .int p2), (3, .ref e0)]) hx hb dX3_letAllCome_4 hl (by decide) rfl (fun ls hl => ?_)
  obtain ⟨n, h⟩ := h
  exact N6  n 0 0 e_taken e_took _ _ _ h hP hD hS (lv_sub hl [2, 3, 4, 5, 1, 0] rfl)
abbrev vsX3_drawYear : List Cond := Cond.code yX3_drawYear cX3_drawYear 10 (some .int) :: WS
abbrev rmX3_drawYear : Room := { frames := 2, cells := 0, slots := 0, locals := 51 }
set_option maxHeartbeats 4000000 in
set_option maxRecDepth 100000 in
theorem k_X3_drawYear (l : Launch) (D : va_G) (C : Nat → ClassId) (sz : Nat) (n0 : Nat) (aN : Nat → Nat) (aR : Nat → Nat) (e0 : Nat) (e1 : Nat) (e2 : Nat)  (ns : Nat → Int32) (na : Nat → Nat → Int32) (nl : Nat → Nat → Int64) (rs : Nat → Int32) (ra : Nat → Nat → Int32) (e_isThere : Int32) (e_taken : Nat → Int32) (e_took : Nat → Int32) (p2 : Int32) {post : Int32 → (Int32) → (Nat → Int32) → (Nat → Int32) → Prop} (h : P_X3_drawYear ns na rs ra e_isThere e_taken e_took p2 post) : Met l yX3_drawYear vsX3_drawYear rmX3_drawYear (cPre D C [.ref n0, .ref (aR 0), .int p2, .ref e0] sz (wNight n0 aN C ns na nl ++ (wRail aR C rs ra ++ ([cYear e0 e1 e2 C e_isThere e_taken e_took])))) (cQi D (fun (r : Int32) (u : (Int32) × (Nat → Int32) × (Nat → Int32)) => post r u.1 u.2.1 u.2.2) (fun u => wNight n0 aN C ns na nl ++ (wRail aR C rs ra ++ ([cYear e0 e1 e2 C u.1 u.2.1 u.2.2]))) (va_A (List.flatten (wNight n0 aN C ns na nl ++ (wRail aR C rs ra ++ ([cYear e0 e1 e2 C e_isThere e_taken e_took])))) sz)) 0 0 (va_A (List.flatten (wNight n0 aN C ns na nl ++ (wRail aR C rs ra ++ ([cYear e0 e1 e2 C e_isThere e_taken e_took])))) sz) := by
  refine cStart (QA := fun A => cQi D (fun (r : Int32) (u : (Int32) × (Nat → Int32) × (Nat → Int32)) => post r u.1 u.2.1 u.2.2) (fun u => wNight n0 aN C ns na nl ++ (wRail aR C rs ra ++ ([cYear e0 e1 e2 C u.1 u.2.1 u.2.2]))) A) (cc := cX3_drawYear) (maxL := 10) (ret := (some .int)) (by decide) (Nat.le_of_ble_eq_true rfl) ?_
  intro p e s m args below meth c A ls hx hb hr hml hown hw hlocks hname hK hN hA hP hD hS hl
  generalize hQ : MQ below _ args s 0 0 A = Q
  have hl : lv_has ls 10 [(0, .ref n0), (1, .ref (aR 0)), (2, .int p2), (3, .ref e0)] := hl
  have hn75 : (Cond.fieldLinkNest "LockRail$Night" 75 "LockRail$Rail" "thieves" "LLockRail$Thieves;" "LockRail").before args s = true := hN.f 62 rfl
  have hn79 : (Cond.fieldLinkNest "LockRail$Night" 79 "LockRail$Thieves" "count" "I" "LockRail").before args s = true := hN.f 33 rfl
  have hn107 : (Cond.fieldLinkNest "LockRail$Night" 107 "LockRail$Thieves" "comes" "[I" "LockRail").before args s = true := hN.f 37 rfl
  have hn154 : (Cond.fieldLinkNest "LockRail$Night" 154 "LockRail$Rail" "nights" "I" "LockRail").before args s = true := hN.f 51 rfl
  obtain ⟨H, hH⟩ : ∃ H, H = s.heap := ⟨_, rfl⟩
  obtain ⟨locs, hlo⟩ : ∃ z : List Loc, z = [] := ⟨_, rfl⟩
  have hP : va_P D vwCl (List.flatten (wNight n0 aN C ns na nl ++ (wRail aR C rs ra ++ ([cYear e0 e1 e2 C e_isThere e_taken e_took])))) H := by rw [hH]; exact hP
  have hS : va_S A s.heap H locs := by rw [hH, hlo]; exact hS
  rw [show W p l e rmX3_drawYear s m args below meth c s.heap [] 0 0 Q (F0 m 0 ls []) = W p l e rmX3_drawYear s m args below meth c H locs 0 0 Q (F0 m 0 ls []) from by rw [hH, hlo]]
  have N14 : ∀ (e_isThere : Int32) (n14 : Nat) (x4_ : Int64) (x6_ : Int32) (x7_ : Int32) (e_taken : Nat → Int32) (e_took : Nat → Int32) (H : Heap) (locs : List Loc) (ls : Array Slot), P_X3_drawYear_14 ns na rs ra p2 post  e_isThere n14 x4_ x6_ x7_ e_taken e_took → va_P D vwCl (List.flatten (wNight n0 aN C ns na nl ++ (wRail aR C rs ra ++ ([cYear e0 e1 e2 C e_isThere e_taken e_took])))) H → va_D A (List.flatten (wNight n0 aN C ns na nl ++ (wRail aR C rs ra ++ ([cYear e0 e1 e2 C e_isThere e_taken e_took])))) → va_S A s.heap H locs → lv_has ls 10 [(0, .ref n0), (1, .ref (aR 0)), (3, .ref e0), (4, .long x4_), (6, .int x6_), (7, .int x7_)] → W p l e rmX3_drawYear s m args below meth c H locs 0 0 Q (F0 m 14 ls []) := by
    intro e_isThere
    intro n14
    induction n14 with
    | zero => intro x4_ x6_ x7_ e_taken e_took H locs ls h hP hD hS hl; exact False.elim h
    | succ n14 ih14 =>
      have N97 : ∀ (x4_ : Int64) (x6_ : Int32) (x7_ : Int32) (x8_ : Int32) (e_taken : Nat → Int32) (e_took : Nat → Int32) (H : Heap) (locs : List Loc) (ls : Array Slot), P_X3_drawYear_97 ns na rs ra p2 e_isThere post (P_X3_drawYear_14 ns na rs ra p2 post  e_isThere n14) x4_ x6_ x7_ x8_ e_taken e_took → va_P D vwCl (List.flatten (wNight n0 aN C ns na nl ++ (wRail aR C rs ra ++ ([cYear e0 e1 e2 C e_isThere e_taken e_took])))) H → va_D A (List.flatten (wNight n0 aN C ns na nl ++ (wRail aR C rs ra ++ ([cYear e0 e1 e2 C e_isThere e_taken e_took])))) → va_S A s.heap H locs → lv_has ls 10 [(0, .ref n0), (1, .ref (aR 0)), (3, .ref e0), (4, .long x4_), (6, .int x6_), (7, .int x7_), (8, .int x8_)] → W p l e rmX3_drawYear s m args below meth c H locs 0 0 Q (F0 m 97 ls []) := by
        intro x4_ x6_ x7_ x8_ e_taken e_took H locs ls h hP hD hS hl
        refine lv_iload hx hb dX3_drawYear_97 (lv_at hl 4 rfl) ?_
        refine lv_aload_n hx hb dX3_drawYear_99 rfl (lv_at hl 0 rfl) ?_
        refine lv_iload hx hb dX3_drawYear_100 (lv_at hl 6 rfl) ?_
        refine lv_aload_n hx hb dX3_drawYear_102 rfl (lv_at hl 1 rfl) ?_
        refine va_getN (D := D) (ci := 4) (v := .ref (aR 13)) (C := RX4) (T := TX4) (N := 16) hx hb hw inW_X4 hown hK hP 17 rfl rfl 6 (by decide) hn75 (fun _ h9 => h9) rfl dX3_drawYear_103 ?_
        refine va_getN (D := D) (ci := 9) (v := .int (rs 14)) (C := RX9) (T := TX9) (N := 6) hx hb hw inW_X9 hown hK hP 30 rfl rfl 0 (by decide) hn79 (fun _ h9 => h9) rfl dX3_drawYear_106 ?_
        refine lv_aload_n hx hb dX3_drawYear_109 rfl (lv_at hl 2 rfl) ?_
        refine gs_I10_36 (rs_V10_29 (As := [.int x8_, .int (rs 14), .ref e0]) (rest := [.int x6_]) ⟨hx, hb, hml, hown, hw⟩ hK hN hP hD (k_X3_letAllCome l D C _ n0 aN e0 e1 e2  ns na nl e_isThere e_taken e_took x8_ (rs 14) h) (cwV 3 hw (goodV mw_5_173 mw_5_175 mw_s95 mw_1_11 mw_5_176) rfl rfl rfl (by decide +kernel) ⟨Nat.le_of_ble_eq_true rfl, Nat.le_of_ble_eq_true rfl⟩) rfl rfl rfl hl.1 rfl (Nat.le_of_ble_eq_true rfl) dX3_drawYear_110 ⟨Nat.zero_le _, Nat.zero_le _⟩) hP hD hS hA (fun r3 u H locs h hP hD hS => ?_)
        obtain ⟨tak_1, too_2⟩ := u
        have hP : va_P D vwCl (List.flatten (wNight n0 aN C ns na nl ++ (wRail aR C rs ra ++ ([cYear e0 e1 e2 C e_isThere tak_1 too_2])))) H := hP
        have hD : va_D A (List.flatten (wNight n0 aN C ns na nl ++ (wRail aR C rs ra ++ ([cYear e0 e1 e2 C e_isThere tak_1 too_2])))) := hD
        refine lv_iadd hx hb dX3_drawYear_113 ?_
        refine lv_topi (fun x4 ex4 => ?_)
        have h := h x4 ex4
        refine lv_istore (lv' := [(6, .int x4), (0, .ref n0), (1, .ref (aR 0)), (3, .ref e0), (4, .long x4_), (7, .int x7_), (8, .int x8_)]) hx hb dX3_drawYear_114 hl (by decide) rfl (fun ls hl => ?_)
        refine lv_iinc (v := (x7_ + 1)) (lv' := [(7, .int (x7_ + 1)), (6, .int x4), (0, .ref n0), (1, .ref (aR 0)), (3, .ref e0), (4, .long x4_), (8, .int x8_)]) hx hb dX3_drawYear_116 hl (k := 5) rfl rfl (by decide) rfl (fun ls hl => ?_)
        refine lv_goto (tgt := 14) hx hb dX3_drawYear_119 (by decide) ?_
        exact ih14 x4_ x4 (x7_ + 1) tak_1 too_2 _ _ _ h hP hD hS (lv_sub hl [2, 3, 4, 5, 1, 0] rfl)
      have N29 : ∀ (x6_ : Int32) (x7_ : Int32) (e_taken : Nat → Int32) (e_took : Nat → Int32) (n29 : Nat) (x4_ : Int64) (x8_ : Int32) (x9_ : Int32) (H : Heap) (locs : List Loc) (ls : Array Slot), P_X3_drawYear_29 ns na rs ra p2 e_isThere post (fun (x4_ : Int64) (x6_ : Int32) (x7_ : Int32) (x8_ : Int32) (e_taken : Nat → Int32) (e_took : Nat → Int32) => P_X3_drawYear_97 ns na rs ra p2 e_isThere post (P_X3_drawYear_14 ns na rs ra p2 post  e_isThere n14) x4_ x6_ x7_ x8_ e_taken e_took) x6_ x7_ e_taken e_took n29 x4_ x8_ x9_ → va_P D vwCl (List.flatten (wNight n0 aN C ns na nl ++ (wRail aR C rs ra ++ ([cYear e0 e1 e2 C e_isThere e_taken e_took])))) H → va_D A (List.flatten (wNight n0 aN C ns na nl ++ (wRail aR C rs ra ++ ([cYear e0 e1 e2 C e_isThere e_taken e_took])))) → va_S A s.heap H locs → lv_has ls 10 [(0, .ref n0), (1, .ref (aR 0)), (3, .ref e0), (4, .long x4_), (6, .int x6_), (7, .int x7_), (8, .int x8_), (9, .int x9_)] → W p l e rmX3_drawYear s m args below meth c H locs 0 0 Q (F0 m 29 ls []) := by
        intro x6_ x7_ e_taken e_took
        intro n29
        induction n29 with
        | zero => intro x4_ x8_ x9_ H locs ls h hP hD hS hl; exact False.elim h
        | succ n29 ih29 =>
          intro x4_ x8_ x9_ H locs ls h hP hD hS hl
          refine lv_iload hx hb dX3_drawYear_29 (lv_at hl 7 rfl) ?_
          refine lv_aload_n hx hb dX3_drawYear_31 rfl (lv_at hl 1 rfl) ?_
          refine va_getN (D := D) (ci := 4) (v := .ref (aR 13)) (C := RX4) (T := TX4) (N := 16) hx hb hw inW_X4 hown hK hP 17 rfl rfl 6 (by decide) hn75 (fun _ h9 => h9) rfl dX3_drawYear_32 ?_
          refine va_getN (D := D) (ci := 9) (v := .int (rs 14)) (C := RX9) (T := TX9) (N := 6) hx hb hw inW_X9 hown hK hP 30 rfl rfl 0 (by decide) hn79 (fun _ h9 => h9) rfl dX3_drawYear_35 ?_
          refine lv_icmp_ge (tgt := 97) hx hb dX3_drawYear_38 (by decide) (fun c5 => ?_) (fun c5 => ?_)
          · have h := h.1 c5
            exact N97 x4_ x6_ x7_ x8_ e_taken e_took _ _ _ h hP hD hS (lv_sub hl [0, 1, 2, 3, 4, 5, 6] rfl)
          · have h := h.2 c5
            refine lv_ldc2 (v := 1103515245) hx hb hown (hw _ mw_5_169) dX3_drawYear_41 ?_
            refine lv_lload hx hb dX3_drawYear_44 (lv_at hl 3 rfl) ?_
            refine lv_lmul hx hb dX3_drawYear_46 ?_
            refine lv_ldc2 (v := 12345) hx hb hown (hw _ mw_5_170) dX3_drawYear_47 ?_
            refine lv_ladd hx hb dX3_drawYear_50 ?_
            refine lv_ldc2 (v := 2147483647) hx hb hown (hw _ mw_5_171) dX3_drawYear_51 ?_
            refine lv_land hx hb dX3_drawYear_54 ?_
            refine lv_topl (fun x6 ex6 => ?_)
            have h := h x6 ex6
            refine lv_lstore (lv' := [(4, .long x6), (0, .ref n0), (1, .ref (aR 0)), (3, .ref e0), (6, .int x6_), (7, .int x7_), (8, .int x8_), (9, .int x9_)]) hx hb dX3_drawYear_55 hl (by decide) rfl (fun ls hl => ?_)
            refine lv_lload hx hb dX3_drawYear_57 (lv_at hl 0 rfl) ?_
            refine lv_ldc2 (v := 65536) hx hb hown (hw _ mw_5_172) dX3_drawYear_59 ?_
            refine lv_ldiv hx hb dX3_drawYear_62 (by decide) ?_
            refine lv_ldc2 (v := 100) hx hb hown (hw _ mw_4_50) dX3_drawYear_63 ?_
            refine lv_lrem hx hb dX3_drawYear_66 (by decide) ?_
            refine lv_aload_n hx hb dX3_drawYear_67 rfl (lv_at hl 2 rfl) ?_
            refine va_getN (D := D) (ci := 4) (v := .ref (aR 13)) (C := RX4) (T := TX4) (N := 16) hx hb hw inW_X4 hown hK hP 17 rfl rfl 6 (by decide) hn75 (fun _ h9 => h9) rfl dX3_drawYear_68 ?_
            refine va_getN (D := D) (ci := 9) (v := .ref (aR 15)) (C := RX9) (T := TX9) (N := 6) hx hb hw inW_X9 hown hK hP 30 rfl rfl 2 (by decide) hn107 (fun _ h9 => h9) rfl dX3_drawYear_71 ?_
            refine lv_iload hx hb dX3_drawYear_74 (lv_at hl 7 rfl) ?_
            refine cIald hx hb hK hP 32 0 rfl rfl x9_.toNatClampNeg rfl h.1 dX3_drawYear_76 ?_
            have h := h.2
            refine lv_i2l hx hb dX3_drawYear_77 rfl ?_
            refine W.lcmp hx hb dX3_drawYear_78 ?_
            refine lv_if_ge (tgt := 91) hx hb dX3_drawYear_79 (by decide) (fun c7 => ?_) (fun c7 => ?_)
            · have c7 : ((ra 10 x9_.toNatClampNeg).toInt64) ≤ ((x6 / 65536) - (x6 / 65536) / 100 * 100) := (lg_cmp_ge _ _).mp c7
              have h := h.1 c7
              refine lv_iinc (v := (x9_ + 1)) (lv' := [(9, .int (x9_ + 1)), (4, .long x6), (0, .ref n0), (1, .ref (aR 0)), (3, .ref e0), (6, .int x6_), (7, .int x7_), (8, .int x8_)]) hx hb dX3_drawYear_91 hl (k := 7) rfl rfl (by decide) rfl (fun ls hl => ?_)
              refine lv_goto (tgt := 29) hx hb dX3_drawYear_94 (by decide) ?_
              exact ih29 x6 x8_ (x9_ + 1) _ _ _ h hP hD hS (lv_sub hl [2, 3, 4, 1, 5, 6, 7, 0] rfl)
            · have c7 : ¬ ((ra 10 x9_.toNatClampNeg).toInt64) ≤ ((x6 / 65536) - (x6 / 65536) / 100 * 100) := fun q => c7 ((lg_cmp_ge _ _).mpr q)
              have h := h.2 c7
              refine lv_iload hx hb dX3_drawYear_82 (lv_at hl 6 rfl) ?_
              refine lv_iconst (v := 1) hx hb dX3_drawYear_84 (by decide) ?_
              refine lv_iload hx hb dX3_drawYear_85 (lv_at hl 7 rfl) ?_
              refine lv_ishl hx hb dX3_drawYear_87 ?_
              refine lv_ior hx hb dX3_drawYear_88 ?_
              refine lv_topi (fun x8 ex8 => ?_)
              have h := h x8 ex8
              refine lv_istore (lv' := [(8, .int x8), (4, .long x6), (0, .ref n0), (1, .ref (aR 0)), (3, .ref e0), (6, .int x6_), (7, .int x7_), (9, .int x9_)]) hx hb dX3_drawYear_89 hl (by decide) rfl (fun ls hl => ?_)
              refine lv_iinc (v := (x9_ + 1)) (lv' := [(9, .int (x9_ + 1)), (8, .int x8), (4, .long x6), (0, .ref n0), (1, .ref (aR 0)), (3, .ref e0), (6, .int x6_), (7, .int x7_)]) hx hb dX3_drawYear_91 hl (k := 7) rfl rfl (by decide) rfl (fun ls hl => ?_)
              refine lv_goto (tgt := 29) hx hb dX3_drawYear_94 (by decide) ?_
              exact ih29 x6 x8 (x9_ + 1) _ _ _ h hP hD hS (lv_sub hl [3, 4, 5, 2, 6, 7, 1, 0] rfl)
      intro x4_ x6_ x7_ e_taken e_took H locs ls h hP hD hS hl
      refine lv_iload hx hb dX3_drawYear_14 (lv_at hl 5 rfl) ?_
      refine lv_aload_n hx hb dX3_drawYear_16 rfl (lv_at hl 1 rfl) ?_
      refine va_getN (D := D) (ci := 4) (v := .int (rs 1)) (C := RX4) (T := TX4) (N := 16) hx hb hw inW_X4 hown hK hP 17 rfl rfl 1 (by decide) hn154 (fun _ h9 => h9) rfl dX3_drawYear_17 ?_
      refine lv_icmp_ge (tgt := 122) hx hb dX3_drawYear_20 (by decide) (fun c9 => ?_) (fun c9 => ?_)
      · have h := h.1 c9
        refine lv_iload hx hb dX3_drawYear_122 (lv_at hl 4 rfl) ?_
        rw [← hQ]
        exact cRetI (v := x6_) (e_isThere, e_taken, e_took) hx hb hr hlocks hS hP hD h dX3_drawYear_124
      · have h := h.2 c9
        refine lv_iconst (v := 0) hx hb dX3_drawYear_23 (by decide) ?_
        refine lv_istore (lv' := [(8, .int 0), (0, .ref n0), (1, .ref (aR 0)), (3, .ref e0), (4, .long x4_), (6, .int x6_), (7, .int x7_)]) hx hb dX3_drawYear_24 hl (by decide) rfl (fun ls hl => ?_)
        refine lv_iconst (v := 0) hx hb dX3_drawYear_26 (by decide) ?_
        refine lv_istore (lv' := [(9, .int 0), (8, .int 0), (0, .ref n0), (1, .ref (aR 0)), (3, .ref e0), (4, .long x4_), (6, .int x6_), (7, .int x7_)]) hx hb dX3_drawYear_27 hl (by decide) rfl (fun ls hl => ?_)
        obtain ⟨n, h⟩ := h
        exact N29 x6_ x7_ e_taken e_took n x4_ 0 0 _ _ _ h hP hD hS (lv_sub hl [2, 3, 4, 5, 6, 7, 1, 0] rfl)
  refine lv_aload_n hx hb dX3_drawYear_0 rfl (lv_at hl 3 rfl) ?_
  refine gs_V10_37 (rs_VN10_30 (As := []) (rest := []) ⟨hx, hb, hml, hown, hw⟩ hK hN hP hD (k_X10_begin l D C _ e0 e1 e2  e_isThere e_taken e_took  h) ⟨va_cnB 0 hw (goodN mw_5_168) rfl rfl rfl (hN.m 72 rfl) (hw _ mw_1_9) (by decide +kernel) ⟨Nat.le_of_ble_eq_true rfl, Nat.le_of_ble_eq_true rfl⟩, hw _ mw_5_167, hw _ mw_s94⟩ rfl rfl rfl hl.1 rfl (Nat.le_of_ble_eq_true rfl) dX3_drawYear_1 ⟨Nat.zero_le _, Nat.zero_le _⟩) hP hD hS hA (fun u H locs h hP hD hS => ?_)
  obtain ⟨isT_10, tak_11, too_12⟩ := u
  have hP : va_P D vwCl (List.flatten (wNight n0 aN C ns na nl ++ (wRail aR C rs ra ++ ([cYear e0 e1 e2 C isT_10 tak_11 too_12])))) H := hP
  have hD : va_D A (List.flatten (wNight n0 aN C ns na nl ++ (wRail aR C rs ra ++ ([cYear e0 e1 e2 C isT_10 tak_11 too_12])))) := hD
  refine lv_iload_n hx hb dX3_drawYear_4 rfl (lv_at hl 2 rfl) ?_
  refine lv_i2l hx hb dX3_drawYear_5 rfl ?_
  refine lv_topl (fun x13 ex13 => ?_)
  have h := h x13 ex13
  refine lv_lstore (lv' := [(4, .long x13), (0, .ref n0), (1, .ref (aR 0)), (2, .int p2), (3, .ref e0)]) hx hb dX3_drawYear_6 hl (by decide) rfl (fun ls hl => ?_)
  refine lv_iconst (v := 0) hx hb dX3_drawYear_8 (by decide) ?_
  refine lv_istore (lv' := [(6, .int 0), (4, .long x13), (0, .ref n0), (1, .ref (aR 0)), (2, .int p2), (3, .ref e0)]) hx hb dX3_drawYear_9 hl (by decide) rfl (fun ls hl => ?_)
  refine lv_iconst (v := 0) hx hb dX3_drawYear_11 (by decide) ?_
  refine lv_istore (lv' := [(7, .int 0), (6, .int 0), (4, .long x13), (0, .ref n0), (1, .ref (aR 0)), (2, .int p2), (3, .ref e0)]) hx hb dX3_drawYear_12 hl (by decide) rfl (fun ls hl => ?_)
  obtain ⟨n, h⟩ := h
  exact N14 isT_10 n x13 0 0 tak_11 too_12 _ _ _ h hP hD hS (lv_sub hl [3, 4, 6, 2, 1, 0] rfl)
abbrev rmX3_drawYear_al : Room := { frames := 2, cells := 0, slots := 0, locals := 51 }
set_option maxHeartbeats 4000000 in
set_option maxRecDepth 100000 in
theorem k_X3_drawYear_al (l : Launch) (D : va_G) (C : Nat → ClassId) (sz : Nat) (n0 : Nat) (aN : Nat → Nat) (aR : Nat → Nat)  (ns : Nat → Int32) (na : Nat → Nat → Int32) (nl : Nat → Nat → Int64) (rs : Nat → Int32) (ra : Nat → Nat → Int32) (p2 : Int32) {post : Int32 → (Nat → Int32) → (Nat → Nat → Int32) → Prop} (h : P_X3_drawYear_al ns na rs ra p2 post) : Met l yX3_drawYear vsX3_drawYear rmX3_drawYear_al (cPre D C [.ref n0, .ref (aR 0), .int p2, .ref (aR 19)] sz (wNight n0 aN C ns na nl ++ (wRail aR C rs ra))) (cQi D (fun (r : Int32) (u : (Nat → Int32) × (Nat → Nat → Int32)) => post r u.1 u.2) (fun u => wNight n0 aN C ns na nl ++ (wRail aR C u.1 u.2)) (va_A (List.flatten (wNight n0 aN C ns na nl ++ (wRail aR C rs ra))) sz)) 0 0 (va_A (List.flatten (wNight n0 aN C ns na nl ++ (wRail aR C rs ra))) sz) := by
  refine cStart (QA := fun A => cQi D (fun (r : Int32) (u : (Nat → Int32) × (Nat → Nat → Int32)) => post r u.1 u.2) (fun u => wNight n0 aN C ns na nl ++ (wRail aR C u.1 u.2)) A) (cc := cX3_drawYear) (maxL := 10) (ret := (some .int)) (by decide) (Nat.le_of_ble_eq_true rfl) ?_
  intro p e s m args below meth c A ls hx hb hr hml hown hw hlocks hname hK hN hA hP hD hS hl
  generalize hQ : MQ below _ args s 0 0 A = Q
  have hl : lv_has ls 10 [(0, .ref n0), (1, .ref (aR 0)), (2, .int p2), (3, .ref (aR 19))] := hl
  have hn75 : (Cond.fieldLinkNest "LockRail$Night" 75 "LockRail$Rail" "thieves" "LLockRail$Thieves;" "LockRail").before args s = true := hN.f 62 rfl
  have hn79 : (Cond.fieldLinkNest "LockRail$Night" 79 "LockRail$Thieves" "count" "I" "LockRail").before args s = true := hN.f 33 rfl
  have hn107 : (Cond.fieldLinkNest "LockRail$Night" 107 "LockRail$Thieves" "comes" "[I" "LockRail").before args s = true := hN.f 37 rfl
  have hn154 : (Cond.fieldLinkNest "LockRail$Night" 154 "LockRail$Rail" "nights" "I" "LockRail").before args s = true := hN.f 51 rfl
  obtain ⟨H, hH⟩ : ∃ H, H = s.heap := ⟨_, rfl⟩
  obtain ⟨locs, hlo⟩ : ∃ z : List Loc, z = [] := ⟨_, rfl⟩
  have hP : va_P D vwCl (List.flatten (wNight n0 aN C ns na nl ++ (wRail aR C rs ra))) H := by rw [hH]; exact hP
  have hS : va_S A s.heap H locs := by rw [hH, hlo]; exact hS
  rw [show W p l e rmX3_drawYear_al s m args below meth c s.heap [] 0 0 Q (F0 m 0 ls []) = W p l e rmX3_drawYear_al s m args below meth c H locs 0 0 Q (F0 m 0 ls []) from by rw [hH, hlo]]
  have N14 : ∀ (rs : Nat → Int32) (n14 : Nat) (x4_ : Int64) (x6_ : Int32) (x7_ : Int32) (ra : Nat → Nat → Int32) (H : Heap) (locs : List Loc) (ls : Array Slot), P_X3_drawYear_al_14 ns na p2 post  rs n14 x4_ x6_ x7_ ra → va_P D vwCl (List.flatten (wNight n0 aN C ns na nl ++ (wRail aR C rs ra))) H → va_D A (List.flatten (wNight n0 aN C ns na nl ++ (wRail aR C rs ra))) → va_S A s.heap H locs → lv_has ls 10 [(0, .ref n0), (1, .ref (aR 0)), (3, .ref (aR 19)), (4, .long x4_), (6, .int x6_), (7, .int x7_)] → W p l e rmX3_drawYear_al s m args below meth c H locs 0 0 Q (F0 m 14 ls []) := by
    intro rs
    intro n14
    induction n14 with
    | zero => intro x4_ x6_ x7_ ra H locs ls h hP hD hS hl; exact False.elim h
    | succ n14 ih14 =>
      have N97 : ∀ (x4_ : Int64) (x6_ : Int32) (x7_ : Int32) (x8_ : Int32) (ra : Nat → Nat → Int32) (H : Heap) (locs : List Loc) (ls : Array Slot), P_X3_drawYear_al_97 ns na p2 rs post (P_X3_drawYear_al_14 ns na p2 post  rs n14) x4_ x6_ x7_ x8_ ra → va_P D vwCl (List.flatten (wNight n0 aN C ns na nl ++ (wRail aR C rs ra))) H → va_D A (List.flatten (wNight n0 aN C ns na nl ++ (wRail aR C rs ra))) → va_S A s.heap H locs → lv_has ls 10 [(0, .ref n0), (1, .ref (aR 0)), (3, .ref (aR 19)), (4, .long x4_), (6, .int x6_), (7, .int x7_), (8, .int x8_)] → W p l e rmX3_drawYear_al s m args below meth c H locs 0 0 Q (F0 m 97 ls []) := by
        intro x4_ x6_ x7_ x8_ ra H locs ls h hP hD hS hl
        refine lv_iload hx hb dX3_drawYear_97 (lv_at hl 4 rfl) ?_
        refine lv_aload_n hx hb dX3_drawYear_99 rfl (lv_at hl 0 rfl) ?_
        refine lv_iload hx hb dX3_drawYear_100 (lv_at hl 6 rfl) ?_
        refine lv_aload_n hx hb dX3_drawYear_102 rfl (lv_at hl 1 rfl) ?_
        refine va_getN (D := D) (ci := 4) (v := .ref (aR 13)) (C := RX4) (T := TX4) (N := 16) hx hb hw inW_X4 hown hK hP 17 rfl rfl 6 (by decide) hn75 (fun _ h9 => h9) rfl dX3_drawYear_103 ?_
        refine va_getN (D := D) (ci := 9) (v := .int (rs 14)) (C := RX9) (T := TX9) (N := 6) hx hb hw inW_X9 hown hK hP 30 rfl rfl 0 (by decide) hn79 (fun _ h9 => h9) rfl dX3_drawYear_106 ?_
        refine lv_aload_n hx hb dX3_drawYear_109 rfl (lv_at hl 2 rfl) ?_
        refine gs_I9_38 (rs_V9_31 (As := [.int x8_, .int (rs 14), .ref (aR 19)]) (rest := [.int x6_]) ⟨hx, hb, hml, hown, hw⟩ hK hN hP hD (k_X3_letAllCome l D C _ n0 aN (aR 19) (aR 20) (aR 21)  ns na nl (rs 15) (ra 14) (ra 15) x8_ (rs 14) h) (cwV 3 hw (goodV mw_5_173 mw_5_175 mw_s95 mw_1_11 mw_5_176) rfl rfl rfl (by decide +kernel) ⟨Nat.le_of_ble_eq_true rfl, Nat.le_of_ble_eq_true rfl⟩) rfl rfl rfl hl.1 rfl (Nat.le_of_ble_eq_true rfl) dX3_drawYear_110 ⟨Nat.zero_le _, Nat.zero_le _⟩) hP hD hS hA (fun r3 u H locs h hP hD hS => ?_)
        obtain ⟨tak_1, too_2⟩ := u
        have hP : va_P D vwCl (List.flatten (wNight n0 aN C ns na nl ++ (wRail aR C rs (va_up (va_up ra 14 tak_1) 15 too_2)))) H := hP
        have hD : va_D A (List.flatten (wNight n0 aN C ns na nl ++ (wRail aR C rs (va_up (va_up ra 14 tak_1) 15 too_2)))) := hD
        refine lv_iadd hx hb dX3_drawYear_113 ?_
        refine lv_topi (fun x4 ex4 => ?_)
        have h := h x4 ex4
        refine lv_istore (lv' := [(6, .int x4), (0, .ref n0), (1, .ref (aR 0)), (3, .ref (aR 19)), (4, .long x4_), (7, .int x7_), (8, .int x8_)]) hx hb dX3_drawYear_114 hl (by decide) rfl (fun ls hl => ?_)
        refine lv_iinc (v := (x7_ + 1)) (lv' := [(7, .int (x7_ + 1)), (6, .int x4), (0, .ref n0), (1, .ref (aR 0)), (3, .ref (aR 19)), (4, .long x4_), (8, .int x8_)]) hx hb dX3_drawYear_116 hl (k := 5) rfl rfl (by decide) rfl (fun ls hl => ?_)
        refine lv_goto (tgt := 14) hx hb dX3_drawYear_119 (by decide) ?_
        exact ih14 x4_ x4 (x7_ + 1) (va_up (va_up ra 14 tak_1) 15 too_2) _ _ _ h hP hD hS (lv_sub hl [2, 3, 4, 5, 1, 0] rfl)
      have N29 : ∀ (x6_ : Int32) (x7_ : Int32) (ra : Nat → Nat → Int32) (n29 : Nat) (x4_ : Int64) (x8_ : Int32) (x9_ : Int32) (H : Heap) (locs : List Loc) (ls : Array Slot), P_X3_drawYear_al_29 ns na p2 rs post (fun (x4_ : Int64) (x6_ : Int32) (x7_ : Int32) (x8_ : Int32) (ra : Nat → Nat → Int32) => P_X3_drawYear_al_97 ns na p2 rs post (P_X3_drawYear_al_14 ns na p2 post  rs n14) x4_ x6_ x7_ x8_ ra) x6_ x7_ ra n29 x4_ x8_ x9_ → va_P D vwCl (List.flatten (wNight n0 aN C ns na nl ++ (wRail aR C rs ra))) H → va_D A (List.flatten (wNight n0 aN C ns na nl ++ (wRail aR C rs ra))) → va_S A s.heap H locs → lv_has ls 10 [(0, .ref n0), (1, .ref (aR 0)), (3, .ref (aR 19)), (4, .long x4_), (6, .int x6_), (7, .int x7_), (8, .int x8_), (9, .int x9_)] → W p l e rmX3_drawYear_al s m args below meth c H locs 0 0 Q (F0 m 29 ls []) := by
        intro x6_ x7_ ra
        intro n29
        induction n29 with
        | zero => intro x4_ x8_ x9_ H locs ls h hP hD hS hl; exact False.elim h
        | succ n29 ih29 =>
          intro x4_ x8_ x9_ H locs ls h hP hD hS hl
          refine lv_iload hx hb dX3_drawYear_29 (lv_at hl 7 rfl) ?_
          refine lv_aload_n hx hb dX3_drawYear_31 rfl (lv_at hl 1 rfl) ?_
          refine va_getN (D := D) (ci := 4) (v := .ref (aR 13)) (C := RX4) (T := TX4) (N := 16) hx hb hw inW_X4 hown hK hP 17 rfl rfl 6 (by decide) hn75 (fun _ h9 => h9) rfl dX3_drawYear_32 ?_
          refine va_getN (D := D) (ci := 9) (v := .int (rs 14)) (C := RX9) (T := TX9) (N := 6) hx hb hw inW_X9 hown hK hP 30 rfl rfl 0 (by decide) hn79 (fun _ h9 => h9) rfl dX3_drawYear_35 ?_
          refine lv_icmp_ge (tgt := 97) hx hb dX3_drawYear_38 (by decide) (fun c5 => ?_) (fun c5 => ?_)
          · have h := h.1 c5
            exact N97 x4_ x6_ x7_ x8_ ra _ _ _ h hP hD hS (lv_sub hl [0, 1, 2, 3, 4, 5, 6] rfl)
          · have h := h.2 c5
            refine lv_ldc2 (v := 1103515245) hx hb hown (hw _ mw_5_169) dX3_drawYear_41 ?_
            refine lv_lload hx hb dX3_drawYear_44 (lv_at hl 3 rfl) ?_
            refine lv_lmul hx hb dX3_drawYear_46 ?_
            refine lv_ldc2 (v := 12345) hx hb hown (hw _ mw_5_170) dX3_drawYear_47 ?_
            refine lv_ladd hx hb dX3_drawYear_50 ?_
            refine lv_ldc2 (v := 2147483647) hx hb hown (hw _ mw_5_171) dX3_drawYear_51 ?_
            refine lv_land hx hb dX3_drawYear_54 ?_
            refine lv_topl (fun x6 ex6 => ?_)
            have h := h x6 ex6
            refine lv_lstore (lv' := [(4, .long x6), (0, .ref n0), (1, .ref (aR 0)), (3, .ref (aR 19)), (6, .int x6_), (7, .int x7_), (8, .int x8_), (9, .int x9_)]) hx hb dX3_drawYear_55 hl (by decide) rfl (fun ls hl => ?_)
            refine lv_lload hx hb dX3_drawYear_57 (lv_at hl 0 rfl) ?_
            refine lv_ldc2 (v := 65536) hx hb hown (hw _ mw_5_172) dX3_drawYear_59 ?_
            refine lv_ldiv hx hb dX3_drawYear_62 (by decide) ?_
            refine lv_ldc2 (v := 100) hx hb hown (hw _ mw_4_50) dX3_drawYear_63 ?_
            refine lv_lrem hx hb dX3_drawYear_66 (by decide) ?_
            refine lv_aload_n hx hb dX3_drawYear_67 rfl (lv_at hl 2 rfl) ?_
            refine va_getN (D := D) (ci := 4) (v := .ref (aR 13)) (C := RX4) (T := TX4) (N := 16) hx hb hw inW_X4 hown hK hP 17 rfl rfl 6 (by decide) hn75 (fun _ h9 => h9) rfl dX3_drawYear_68 ?_
            refine va_getN (D := D) (ci := 9) (v := .ref (aR 15)) (C := RX9) (T := TX9) (N := 6) hx hb hw inW_X9 hown hK hP 30 rfl rfl 2 (by decide) hn107 (fun _ h9 => h9) rfl dX3_drawYear_71 ?_
            refine lv_iload hx hb dX3_drawYear_74 (lv_at hl 7 rfl) ?_
            refine cIald hx hb hK hP 32 0 rfl rfl x9_.toNatClampNeg rfl h.1 dX3_drawYear_76 ?_
            have h := h.2
            refine lv_i2l hx hb dX3_drawYear_77 rfl ?_
            refine W.lcmp hx hb dX3_drawYear_78 ?_
            refine lv_if_ge (tgt := 91) hx hb dX3_drawYear_79 (by decide) (fun c7 => ?_) (fun c7 => ?_)
            · have c7 : ((ra 10 x9_.toNatClampNeg).toInt64) ≤ ((x6 / 65536) - (x6 / 65536) / 100 * 100) := (lg_cmp_ge _ _).mp c7
              have h := h.1 c7
              refine lv_iinc (v := (x9_ + 1)) (lv' := [(9, .int (x9_ + 1)), (4, .long x6), (0, .ref n0), (1, .ref (aR 0)), (3, .ref (aR 19)), (6, .int x6_), (7, .int x7_), (8, .int x8_)]) hx hb dX3_drawYear_91 hl (k := 7) rfl rfl (by decide) rfl (fun ls hl => ?_)
              refine lv_goto (tgt := 29) hx hb dX3_drawYear_94 (by decide) ?_
              exact ih29 x6 x8_ (x9_ + 1) _ _ _ h hP hD hS (lv_sub hl [2, 3, 4, 1, 5, 6, 7, 0] rfl)
            · have c7 : ¬ ((ra 10 x9_.toNatClampNeg).toInt64) ≤ ((x6 / 65536) - (x6 / 65536) / 100 * 100) := fun q => c7 ((lg_cmp_ge _ _).mpr q)
              have h := h.2 c7
              refine lv_iload hx hb dX3_drawYear_82 (lv_at hl 6 rfl) ?_
              refine lv_iconst (v := 1) hx hb dX3_drawYear_84 (by decide) ?_
              refine lv_iload hx hb dX3_drawYear_85 (lv_at hl 7 rfl) ?_
              refine lv_ishl hx hb dX3_drawYear_87 ?_
              refine lv_ior hx hb dX3_drawYear_88 ?_
              refine lv_topi (fun x8 ex8 => ?_)
              have h := h x8 ex8
              refine lv_istore (lv' := [(8, .int x8), (4, .long x6), (0, .ref n0), (1, .ref (aR 0)), (3, .ref (aR 19)), (6, .int x6_), (7, .int x7_), (9, .int x9_)]) hx hb dX3_drawYear_89 hl (by decide) rfl (fun ls hl => ?_)
              refine lv_iinc (v := (x9_ + 1)) (lv' := [(9, .int (x9_ + 1)), (8, .int x8), (4, .long x6), (0, .ref n0), (1, .ref (aR 0)), (3, .ref (aR 19)), (6, .int x6_), (7, .int x7_)]) hx hb dX3_drawYear_91 hl (k := 7) rfl rfl (by decide) rfl (fun ls hl => ?_)
              refine lv_goto (tgt := 29) hx hb dX3_drawYear_94 (by decide) ?_
              exact ih29 x6 x8 (x9_ + 1) _ _ _ h hP hD hS (lv_sub hl [3, 4, 5, 2, 6, 7, 1, 0] rfl)
      intro x4_ x6_ x7_ ra H locs ls h hP hD hS hl
      refine lv_iload hx hb dX3_drawYear_14 (lv_at hl 5 rfl) ?_
      refine lv_aload_n hx hb dX3_drawYear_16 rfl (lv_at hl 1 rfl) ?_
      refine va_getN (D := D) (ci := 4) (v := .int (rs 1)) (C := RX4) (T := TX4) (N := 16) hx hb hw inW_X4 hown hK hP 17 rfl rfl 1 (by decide) hn154 (fun _ h9 => h9) rfl dX3_drawYear_17 ?_
      refine lv_icmp_ge (tgt := 122) hx hb dX3_drawYear_20 (by decide) (fun c9 => ?_) (fun c9 => ?_)
      · have h := h.1 c9
        refine lv_iload hx hb dX3_drawYear_122 (lv_at hl 4 rfl) ?_
        rw [← hQ]
        exact cRetI (v := x6_) (rs, ra) hx hb hr hlocks hS hP hD h dX3_drawYear_124
      · have h := h.2 c9
        refine lv_iconst (v := 0) hx hb dX3_drawYear_23 (by decide) ?_
        refine lv_istore (lv' := [(8, .int 0), (0, .ref n0), (1, .ref (aR 0)), (3, .ref (aR 19)), (4, .long x4_), (6, .int x6_), (7, .int x7_)]) hx hb dX3_drawYear_24 hl (by decide) rfl (fun ls hl => ?_)
        refine lv_iconst (v := 0) hx hb dX3_drawYear_26 (by decide) ?_
        refine lv_istore (lv' := [(9, .int 0), (8, .int 0), (0, .ref n0), (1, .ref (aR 0)), (3, .ref (aR 19)), (4, .long x4_), (6, .int x6_), (7, .int x7_)]) hx hb dX3_drawYear_27 hl (by decide) rfl (fun ls hl => ?_)
        obtain ⟨n, h⟩ := h
        exact N29 x6_ x7_ ra n x4_ 0 0 _ _ _ h hP hD hS (lv_sub hl [2, 3, 4, 5, 6, 7, 1, 0] rfl)
  refine lv_aload_n hx hb dX3_drawYear_0 rfl (lv_at hl 3 rfl) ?_
  refine gs_V9_39 (rs_VN9_32 (As := []) (rest := []) ⟨hx, hb, hml, hown, hw⟩ hK hN hP hD (k_X10_begin l D C _ (aR 19) (aR 20) (aR 21)  (rs 15) (ra 14) (ra 15)  h) ⟨va_cnB 0 hw (goodN mw_5_168) rfl rfl rfl (hN.m 72 rfl) (hw _ mw_1_9) (by decide +kernel) ⟨Nat.le_of_ble_eq_true rfl, Nat.le_of_ble_eq_true rfl⟩, hw _ mw_5_167, hw _ mw_s94⟩ rfl rfl rfl hl.1 rfl (Nat.le_of_ble_eq_true rfl) dX3_drawYear_1 ⟨Nat.zero_le _, Nat.zero_le _⟩) hP hD hS hA (fun u H locs h hP hD hS => ?_)
  obtain ⟨isT_10, tak_11, too_12⟩ := u
  have hP : va_P D vwCl (List.flatten (wNight n0 aN C ns na nl ++ (wRail aR C (va_up rs 15 isT_10) (va_up (va_up ra 14 tak_11) 15 too_12)))) H := hP
  have hD : va_D A (List.flatten (wNight n0 aN C ns na nl ++ (wRail aR C (va_up rs 15 isT_10) (va_up (va_up ra 14 tak_11) 15 too_12)))) := hD
  refine lv_iload_n hx hb dX3_drawYear_4 rfl (lv_at hl 2 rfl) ?_
  refine lv_i2l hx hb dX3_drawYear_5 rfl ?_
  refine lv_topl (fun x13 ex13 => ?_)
  have h := h x13 ex13
  refine lv_lstore (lv' := [(4, .long x13), (0, .ref n0), (1, .ref (aR 0)), (2, .int p2), (3, .ref (aR 19))]) hx hb dX3_drawYear_6 hl (by decide) rfl (fun ls hl => ?_)
  refine lv_iconst (v := 0) hx hb dX3_drawYear_8 (by decide) ?_
  refine lv_istore (lv' := [(6, .int 0), (4, .long x13), (0, .ref n0), (1, .ref (aR 0)), (2, .int p2), (3, .ref (aR 19))]) hx hb dX3_drawYear_9 hl (by decide) rfl (fun ls hl => ?_)
  refine lv_iconst (v := 0) hx hb dX3_drawYear_11 (by decide) ?_
  refine lv_istore (lv' := [(7, .int 0), (6, .int 0), (4, .long x13), (0, .ref n0), (1, .ref (aR 0)), (2, .int p2), (3, .ref (aR 19))]) hx hb dX3_drawYear_12 hl (by decide) rfl (fun ls hl => ?_)
  obtain ⟨n, h⟩ := h
  exact N14 (va_up rs 15 isT_10) n x13 0 0 (va_up (va_up ra 14 tak_11) 15 too_12) _ _ _ h hP hD hS (lv_sub hl [3, 4, 6, 2, 1, 0] rfl)
