abbrev vsX3_putInOrder : List Cond := Cond.code yX3_putInOrder cX3_putInOrder 6 none :: WS
abbrev rmX3_putInOrder : Room := { frames := 0, cells := 0, slots := 0, locals := 0 }
set_option maxHeartbeats 4000000 in
set_option maxRecDepth 100000 in
theorem k_X3_putInOrder (l : Launch) (D : va_G) (C : Nat → ClassId) (sz : Nat) (n0 : Nat) (aN : Nat → Nat)  (ns : Nat → Int32) (na : Nat → Nat → Int32) (nl : Nat → Nat → Int64) (p1 : Int32) (p2 : Int32) (p3 : Int32) {post : (Nat → Nat → Int32) → Prop} (h : P_X3_putInOrder na p1 p2 p3 post) : Met l yX3_putInOrder vsX3_putInOrder rmX3_putInOrder (cPre D C [.ref n0, .int p1, .int p2, .int p3] sz (wNight n0 aN C ns na nl)) (cQv D (fun (u : (Nat → Nat → Int32)) => post u) (fun u => wNight n0 aN C ns u nl) (va_A (List.flatten (wNight n0 aN C ns na nl)) sz)) 0 0 (va_A (List.flatten (wNight n0 aN C ns na nl)) sz) := by
  refine cStart (QA := fun A => cQv D (fun (u : (Nat → Nat → Int32)) => post u) (fun u => wNight n0 aN C ns u nl) A) (cc := cX3_putInOrder) (maxL := 6) (ret := none) (by decide) (Nat.le_of_ble_eq_true rfl) ?_
  intro p e s m args below meth c A ls hx hb hr hml hown hw hlocks hname hK hN hA hP hD hS hl
  generalize hQ : MQ below _ args s 0 0 A = Q
  have hl : lv_has ls 6 [(0, .ref n0), (1, .int p1), (2, .int p2), (3, .int p3)] := hl
  obtain ⟨H, hH⟩ : ∃ H, H = s.heap := ⟨_, rfl⟩
  obtain ⟨locs, hlo⟩ : ∃ z : List Loc, z = [] := ⟨_, rfl⟩
  have hP : va_P D vwCl (List.flatten (wNight n0 aN C ns na nl)) H := by rw [hH]; exact hP
  have hS : va_S A s.heap H locs := by rw [hH, hlo]; exact hS
  rw [show W p l e rmX3_putInOrder s m args below meth c s.heap [] 0 0 Q (F0 m 0 ls []) = W p l e rmX3_putInOrder s m args below meth c H locs 0 0 Q (F0 m 0 ls []) from by rw [hH, hlo]]
  have N84 : ∀ (x4_ : Int32) (x5_ : Int32) (na : Nat → Nat → Int32) (H : Heap) (locs : List Loc) (ls : Array Slot), P_X3_putInOrder_84 p1 p2 p3 post  x4_ x5_ na → va_P D vwCl (List.flatten (wNight n0 aN C ns na nl)) H → va_D A (List.flatten (wNight n0 aN C ns na nl)) → va_S A s.heap H locs → lv_has ls 6 [(0, .ref n0), (1, .int p1), (2, .int p2), (3, .int p3), (4, .int x4_), (5, .int x5_)] → W p l e rmX3_putInOrder s m args below meth c H locs 0 0 Q (F0 m 84 ls []) := by
    intro x4_ x5_ na H locs ls h hP hD hS hl
    refine lv_aload_n hx hb dX3_putInOrder_84 rfl (lv_at hl 0 rfl) ?_
    refine va_get (D := D) (ci := 3) (v := .ref (aN 5)) (C := RX3) (T := TX3) (N := 10) hx hb hw inW_X3 hown hK hP 0 rfl rfl 4 (by decide) (hw _ mw_2_114) (fun _ h9 => h9) rfl dX3_putInOrder_85 ?_
    refine lv_iload hx hb dX3_putInOrder_88 (lv_at hl 5 rfl) ?_
    refine lv_iload_n hx hb dX3_putInOrder_90 rfl (lv_at hl 3 rfl) ?_
    refine cIast hx hb hK hP hD hS 5 0 rfl rfl x5_.toNatClampNeg rfl h.1 dX3_putInOrder_91 (fun H locs hP hD hS => ?_)
    have h := h.2
    refine lv_aload_n hx hb dX3_putInOrder_92 rfl (lv_at hl 0 rfl) ?_
    refine va_get (D := D) (ci := 3) (v := .ref (aN 3)) (C := RX3) (T := TX3) (N := 10) hx hb hw inW_X3 hown hK hP 0 rfl rfl 2 (by decide) (hw _ mw_2_112) (fun _ h9 => h9) rfl dX3_putInOrder_93 ?_
    refine lv_iload hx hb dX3_putInOrder_96 (lv_at hl 4 rfl) ?_
    refine lv_iload hx hb dX3_putInOrder_98 (lv_at hl 5 rfl) ?_
    refine lv_iadd hx hb dX3_putInOrder_100 ?_
    refine lv_iload_n hx hb dX3_putInOrder_101 rfl (lv_at hl 2 rfl) ?_
    refine cIast hx hb hK hP hD hS 3 0 rfl rfl ((x4_ + x5_).toNatClampNeg) rfl h.1 dX3_putInOrder_102 (fun H locs hP hD hS => ?_)
    have h := h.2
    refine lv_aload_n hx hb dX3_putInOrder_103 rfl (lv_at hl 0 rfl) ?_
    refine va_get (D := D) (ci := 3) (v := .ref (aN 4)) (C := RX3) (T := TX3) (N := 10) hx hb hw inW_X3 hown hK hP 0 rfl rfl 3 (by decide) (hw _ mw_2_113) (fun _ h9 => h9) rfl dX3_putInOrder_104 ?_
    refine lv_iload_n hx hb dX3_putInOrder_107 rfl (lv_at hl 1 rfl) ?_
    refine lv_dup2_11 hx hb dX3_putInOrder_108 rfl rfl ?_
    refine cIald hx hb hK hP 4 0 rfl rfl p1.toNatClampNeg rfl h.1 dX3_putInOrder_109 ?_
    have h := h.2
    refine lv_iconst (v := 1) hx hb dX3_putInOrder_110 (by decide) ?_
    refine lv_iadd hx hb dX3_putInOrder_111 ?_
    refine cIast hx hb hK hP hD hS 4 0 rfl rfl p1.toNatClampNeg rfl h.1 dX3_putInOrder_112 (fun H locs hP hD hS => ?_)
    have h := h.2
    have hP : va_P D vwCl (List.flatten (wNight n0 aN C ns (va_up (va_up (va_up na 2 (upd (na 2) ((x4_ + x5_).toNatClampNeg) p2)) 3 (upd (na 3) p1.toNatClampNeg ((na 3 p1.toNatClampNeg) + 1))) 4 (upd (na 4) x5_.toNatClampNeg p3)) nl)) H := hP
    have hD : va_D A (List.flatten (wNight n0 aN C ns (va_up (va_up (va_up na 2 (upd (na 2) ((x4_ + x5_).toNatClampNeg) p2)) 3 (upd (na 3) p1.toNatClampNeg ((na 3 p1.toNatClampNeg) + 1))) 4 (upd (na 4) x5_.toNatClampNeg p3)) nl)) := hD
    rw [← hQ]
    exact cRetV ((va_up (va_up (va_up na 2 (upd (na 2) ((x4_ + x5_).toNatClampNeg) p2)) 3 (upd (na 3) p1.toNatClampNeg ((na 3 p1.toNatClampNeg) + 1))) 4 (upd (na 4) x5_.toNatClampNeg p3))) hx hb hr hlocks hS hP hD h dX3_putInOrder_113
  have N22 : ∀ (x4_ : Int32) (n22 : Nat) (x5_ : Int32) (na : Nat → Nat → Int32) (H : Heap) (locs : List Loc) (ls : Array Slot), P_X3_putInOrder_22 p1 p2 p3 post (fun (x4_ : Int32) (x5_ : Int32) (na : Nat → Nat → Int32) => P_X3_putInOrder_84 p1 p2 p3 post  x4_ x5_ na) x4_ n22 x5_ na → va_P D vwCl (List.flatten (wNight n0 aN C ns na nl)) H → va_D A (List.flatten (wNight n0 aN C ns na nl)) → va_S A s.heap H locs → lv_has ls 6 [(0, .ref n0), (1, .int p1), (2, .int p2), (3, .int p3), (4, .int x4_), (5, .int x5_)] → W p l e rmX3_putInOrder s m args below meth c H locs 0 0 Q (F0 m 22 ls []) := by
    intro x4_
    intro n22
    induction n22 with
    | zero => intro x5_ na H locs ls h hP hD hS hl; exact False.elim h
    | succ n22 ih22 =>
      intro x5_ na H locs ls h hP hD hS hl
      refine lv_iload hx hb dX3_putInOrder_22 (lv_at hl 5 rfl) ?_
      refine lv_if_le (tgt := 84) hx hb dX3_putInOrder_24 (by decide) (fun c1 => ?_) (fun c1 => ?_)
      · have h := h.1 c1
        exact N84 x4_ x5_ na _ _ _ h hP hD hS (lv_sub hl [0, 1, 2, 3, 4, 5] rfl)
      · have h := h.2 c1
        refine lv_aload_n hx hb dX3_putInOrder_27 rfl (lv_at hl 0 rfl) ?_
        refine va_get (D := D) (ci := 3) (v := .ref (aN 5)) (C := RX3) (T := TX3) (N := 10) hx hb hw inW_X3 hown hK hP 0 rfl rfl 4 (by decide) (hw _ mw_2_114) (fun _ h9 => h9) rfl dX3_putInOrder_28 ?_
        refine lv_iload hx hb dX3_putInOrder_31 (lv_at hl 5 rfl) ?_
        refine lv_iconst (v := 1) hx hb dX3_putInOrder_33 (by decide) ?_
        refine lv_isub hx hb dX3_putInOrder_34 ?_
        refine cIald hx hb hK hP 5 0 rfl rfl ((x5_ - 1).toNatClampNeg) rfl h.1 dX3_putInOrder_35 ?_
        have h := h.2
        refine lv_iload_n hx hb dX3_putInOrder_36 rfl (lv_at hl 3 rfl) ?_
        refine lv_icmp_le (tgt := 84) hx hb dX3_putInOrder_37 (by decide) (fun c2 => ?_) (fun c2 => ?_)
        · have h := h.1 c2
          exact N84 x4_ x5_ na _ _ _ h hP hD hS (lv_sub hl [0, 1, 2, 3, 4, 5] rfl)
        · have h := h.2 c2
          refine lv_aload_n hx hb dX3_putInOrder_40 rfl (lv_at hl 0 rfl) ?_
          refine va_get (D := D) (ci := 3) (v := .ref (aN 5)) (C := RX3) (T := TX3) (N := 10) hx hb hw inW_X3 hown hK hP 0 rfl rfl 4 (by decide) (hw _ mw_2_114) (fun _ h9 => h9) rfl dX3_putInOrder_41 ?_
          refine lv_iload hx hb dX3_putInOrder_44 (lv_at hl 5 rfl) ?_
          refine lv_aload_n hx hb dX3_putInOrder_46 rfl (lv_at hl 0 rfl) ?_
          refine va_get (D := D) (ci := 3) (v := .ref (aN 5)) (C := RX3) (T := TX3) (N := 10) hx hb hw inW_X3 hown hK hP 0 rfl rfl 4 (by decide) (hw _ mw_2_114) (fun _ h9 => h9) rfl dX3_putInOrder_47 ?_
          refine lv_iload hx hb dX3_putInOrder_50 (lv_at hl 5 rfl) ?_
          refine lv_iconst (v := 1) hx hb dX3_putInOrder_52 (by decide) ?_
          refine lv_isub hx hb dX3_putInOrder_53 ?_
          refine cIald hx hb hK hP 5 0 rfl rfl ((x5_ - 1).toNatClampNeg) rfl h.1 dX3_putInOrder_54 ?_
          have h := h.2
          refine cIast hx hb hK hP hD hS 5 0 rfl rfl x5_.toNatClampNeg rfl h.1 dX3_putInOrder_55 (fun H locs hP hD hS => ?_)
          have h := h.2
          refine lv_aload_n hx hb dX3_putInOrder_56 rfl (lv_at hl 0 rfl) ?_
          refine va_get (D := D) (ci := 3) (v := .ref (aN 3)) (C := RX3) (T := TX3) (N := 10) hx hb hw inW_X3 hown hK hP 0 rfl rfl 2 (by decide) (hw _ mw_2_112) (fun _ h9 => h9) rfl dX3_putInOrder_57 ?_
          refine lv_iload hx hb dX3_putInOrder_60 (lv_at hl 4 rfl) ?_
          refine lv_iload hx hb dX3_putInOrder_62 (lv_at hl 5 rfl) ?_
          refine lv_iadd hx hb dX3_putInOrder_64 ?_
          refine lv_aload_n hx hb dX3_putInOrder_65 rfl (lv_at hl 0 rfl) ?_
          refine va_get (D := D) (ci := 3) (v := .ref (aN 3)) (C := RX3) (T := TX3) (N := 10) hx hb hw inW_X3 hown hK hP 0 rfl rfl 2 (by decide) (hw _ mw_2_112) (fun _ h9 => h9) rfl dX3_putInOrder_66 ?_
          refine lv_iload hx hb dX3_putInOrder_69 (lv_at hl 4 rfl) ?_
          refine lv_iload hx hb dX3_putInOrder_71 (lv_at hl 5 rfl) ?_
          refine lv_iadd hx hb dX3_putInOrder_73 ?_
          refine lv_iconst (v := 1) hx hb dX3_putInOrder_74 (by decide) ?_
          refine lv_isub hx hb dX3_putInOrder_75 ?_
          refine cIald hx hb hK hP 3 0 rfl rfl (((x4_ + x5_) - 1).toNatClampNeg) rfl h.1 dX3_putInOrder_76 ?_
          have h := h.2
          refine cIast hx hb hK hP hD hS 3 0 rfl rfl ((x4_ + x5_).toNatClampNeg) rfl h.1 dX3_putInOrder_77 (fun H locs hP hD hS => ?_)
          have h := h.2
          refine lv_iinc (v := (x5_ + (-1))) (lv' := [(5, .int (x5_ + (-1))), (0, .ref n0), (1, .int p1), (2, .int p2), (3, .int p3), (4, .int x4_)]) hx hb dX3_putInOrder_78 hl (k := 5) rfl rfl (by decide) rfl (fun ls hl => ?_)
          refine lv_goto (tgt := 22) hx hb dX3_putInOrder_81 (by decide) ?_
          have hP : va_P D vwCl (List.flatten (wNight n0 aN C ns (va_up (va_up na 2 (upd (na 2) ((x4_ + x5_).toNatClampNeg) (na 2 (((x4_ + x5_) - 1).toNatClampNeg)))) 4 (upd (na 4) x5_.toNatClampNeg (na 4 ((x5_ - 1).toNatClampNeg)))) nl)) H := hP
          have hD : va_D A (List.flatten (wNight n0 aN C ns (va_up (va_up na 2 (upd (na 2) ((x4_ + x5_).toNatClampNeg) (na 2 (((x4_ + x5_) - 1).toNatClampNeg)))) 4 (upd (na 4) x5_.toNatClampNeg (na 4 ((x5_ - 1).toNatClampNeg)))) nl)) := hD
          exact ih22 (x5_ + (-1)) (va_up (va_up na 2 (upd (na 2) ((x4_ + x5_).toNatClampNeg) (na 2 (((x4_ + x5_) - 1).toNatClampNeg)))) 4 (upd (na 4) x5_.toNatClampNeg (na 4 ((x5_ - 1).toNatClampNeg)))) _ _ _ h hP hD hS (lv_sub hl [1, 2, 3, 4, 5, 0] rfl)
  refine lv_iload_n hx hb dX3_putInOrder_0 rfl (lv_at hl 1 rfl) ?_
  refine lv_bipush (v := 11) hx hb dX3_putInOrder_1 (by decide) ?_
  refine lv_imul hx hb dX3_putInOrder_3 ?_
  refine lv_topi (fun x3 ex3 => ?_)
  have h := h x3 ex3
  refine lv_istore (lv' := [(4, .int x3), (0, .ref n0), (1, .int p1), (2, .int p2), (3, .int p3)]) hx hb dX3_putInOrder_4 hl (by decide) rfl (fun ls hl => ?_)
  refine lv_aload_n hx hb dX3_putInOrder_6 rfl (lv_at hl 1 rfl) ?_
  refine va_get (D := D) (ci := 3) (v := .ref (aN 4)) (C := RX3) (T := TX3) (N := 10) hx hb hw inW_X3 hown hK hP 0 rfl rfl 3 (by decide) (hw _ mw_2_113) (fun _ h9 => h9) rfl dX3_putInOrder_7 ?_
  refine lv_iload_n hx hb dX3_putInOrder_10 rfl (lv_at hl 2 rfl) ?_
  refine cIald hx hb hK hP 4 0 rfl rfl p1.toNatClampNeg rfl h.1 dX3_putInOrder_11 ?_
  have h := h.2
  refine lv_topi (fun x4 ex4 => ?_)
  have h := h x4 ex4
  refine lv_istore (lv' := [(5, .int x4), (4, .int x3), (0, .ref n0), (1, .int p1), (2, .int p2), (3, .int p3)]) hx hb dX3_putInOrder_12 hl (by decide) rfl (fun ls hl => ?_)
  refine lv_iload hx hb dX3_putInOrder_14 (lv_at hl 0 rfl) ?_
  refine lv_bipush (v := 11) hx hb dX3_putInOrder_16 (by decide) ?_
  refine lv_icmp_lt (tgt := 22) hx hb dX3_putInOrder_18 (by decide) (fun c5 => ?_) (fun c5 => ?_)
  · have h := h.1 c5
    obtain ⟨n, h⟩ := h
    exact N22 x3 n x4 na _ _ _ h hP hD hS (lv_sub hl [2, 3, 4, 5, 1, 0] rfl)
  · have h := h.2 c5
    rw [← hQ]
    exact cRetV (na) hx hb hr hlocks hS hP hD h dX3_putInOrder_21
abbrev vsX3_orderFor : List Cond := Cond.code yX3_orderFor cX3_orderFor 9 none :: WS
abbrev rmX3_orderFor : Room := { frames := 1, cells := 0, slots := 0, locals := 25 }
set_option maxHeartbeats 4000000 in
set_option maxRecDepth 100000 in
theorem k_X3_orderFor (l : Launch) (D : va_G) (C : Nat → ClassId) (sz : Nat) (n0 : Nat) (aN : Nat → Nat) (aR : Nat → Nat)  (ns : Nat → Int32) (na : Nat → Nat → Int32) (nl : Nat → Nat → Int64) (rs : Nat → Int32) (ra : Nat → Nat → Int32) (p2 : Int32) (p3 : Int32) {post : (Nat → Nat → Int32) → Prop} (h : P_X3_orderFor ns na rs ra p2 p3 post) : Met l yX3_orderFor vsX3_orderFor rmX3_orderFor (cPre D C [.ref n0, .ref (aR 0), .int p2, .int p3] sz (wNight n0 aN C ns na nl ++ (wRail aR C rs ra))) (cQv D (fun (u : (Nat → Nat → Int32)) => post u) (fun u => wNight n0 aN C ns u nl ++ (wRail aR C rs ra)) (va_A (List.flatten (wNight n0 aN C ns na nl ++ (wRail aR C rs ra))) sz)) 0 0 (va_A (List.flatten (wNight n0 aN C ns na nl ++ (wRail aR C rs ra))) sz) := by
  refine cStart (QA := fun A => cQv D (fun (u : (Nat → Nat → Int32)) => post u) (fun u => wNight n0 aN C ns u nl ++ (wRail aR C rs ra)) A) (cc := cX3_orderFor) (maxL := 9) (ret := none) (by decide) (Nat.le_of_ble_eq_true rfl) ?_
  intro p e s m args below meth c A ls hx hb hr hml hown hw hlocks hname hK hN hA hP hD hS hl
  generalize hQ : MQ below _ args s 0 0 A = Q
  have hl : lv_has ls 9 [(0, .ref n0), (1, .ref (aR 0)), (2, .int p2), (3, .int p3)] := hl
  have hn45 : (Cond.fieldLinkNest "LockRail$Night" 45 "LockRail$Rail" "bikes" "LLockRail$Bikes;" "LockRail").before args s = true := hN.f 59 rfl
  have hn51 : (Cond.fieldLinkNest "LockRail$Night" 51 "LockRail$Bikes" "count" "I" "LockRail").before args s = true := hN.f 18 rfl
  have hn75 : (Cond.fieldLinkNest "LockRail$Night" 75 "LockRail$Rail" "thieves" "LLockRail$Thieves;" "LockRail").before args s = true := hN.f 62 rfl
  have hn93 : (Cond.fieldLinkNest "LockRail$Night" 93 "LockRail$Thieves" "just" "[I" "LockRail").before args s = true := hN.f 40 rfl
  have hn86 : (Cond.fieldLinkNest "LockRail$Night" 86 "LockRail$Thieves" "kind" "[I" "LockRail").before args s = true := hN.f 39 rfl
  obtain ⟨H, hH⟩ : ∃ H, H = s.heap := ⟨_, rfl⟩
  obtain ⟨locs, hlo⟩ : ∃ z : List Loc, z = [] := ⟨_, rfl⟩
  have hP : va_P D vwCl (List.flatten (wNight n0 aN C ns na nl ++ (wRail aR C rs ra))) H := by rw [hH]; exact hP
  have hS : va_S A s.heap H locs := by rw [hH, hlo]; exact hS
  rw [show W p l e rmX3_orderFor s m args below meth c s.heap [] 0 0 Q (F0 m 0 ls []) = W p l e rmX3_orderFor s m args below meth c H locs 0 0 Q (F0 m 0 ls []) from by rw [hH, hlo]]
  have N151 : ∀ (k0_ : Int32) (k1_ : Int32) (k2_ : Int32) (na : Nat → Nat → Int32) (H : Heap) (locs : List Loc) (ls : Array Slot), P_X3_orderFor_151 ns rs ra p2 p3 post  k0_ k1_ k2_ na → va_P D vwCl (List.flatten (wNight n0 aN C ns na nl ++ (wRail aR C rs ra))) H → va_D A (List.flatten (wNight n0 aN C ns na nl ++ (wRail aR C rs ra))) → va_S A s.heap H locs → lv_has ls 9 [] → W p l e rmX3_orderFor s m args below meth c H locs 0 0 Q (F0 m 151 ls [.int k0_, .int k1_, .int k2_, .ref n0]) := by
    intro k0_ k1_ k2_ na H locs ls h hP hD hS hl
    refine cGoV (wo := fun u => wNight n0 aN C ns u nl ++ (wRail aR C rs ra)) (cRunV (As := [.int k2_, .int k1_, .int k0_]) (rest := []) ⟨hx, hb, hml, hown, hw⟩ hK hN hP hD [0, 1, 2] rfl rfl (k_X3_putInOrder l D C _ n0 aN  ns na nl k2_ k1_ k0_ h) (cwV 3 hw (goodV mw_3_232 mw_3_234 mw_s43 mw_1_11 mw_3_235) rfl rfl rfl (by decide +kernel) ⟨Nat.le_of_ble_eq_true rfl, Nat.le_of_ble_eq_true rfl⟩) rfl rfl rfl hl.1 rfl (Nat.le_of_ble_eq_true rfl) dX3_orderFor_151 ⟨Nat.zero_le _, Nat.zero_le _⟩) hP hD hS hA [0, 1, 2] [3, 4, 5, 6, 7, 8] [6, 7, 8, 0, 1, 2, 3, 4, 5] rfl rfl rfl (by decide) rfl (fun _ => rfl) (fun na_5 H locs h hP hD hS => ?_)
    have hP : va_P D vwCl (List.flatten (wNight n0 aN C ns na_5 nl ++ (wRail aR C rs ra))) H := hP
    have hD : va_D A (List.flatten (wNight n0 aN C ns na_5 nl ++ (wRail aR C rs ra))) := hD
    rw [← hQ]
    exact cRetV (na_5) hx hb hr hlocks hS hP hD h dX3_orderFor_154
  have N124 : ∀ (x4_ : Int32) (na : Nat → Nat → Int32) (H : Heap) (locs : List Loc) (ls : Array Slot), P_X3_orderFor_124 ns rs ra p2 p3 post  x4_ na → va_P D vwCl (List.flatten (wNight n0 aN C ns na nl ++ (wRail aR C rs ra))) H → va_D A (List.flatten (wNight n0 aN C ns na nl ++ (wRail aR C rs ra))) → va_S A s.heap H locs → lv_has ls 9 [(0, .ref n0), (2, .int p2), (3, .int p3), (4, .int x4_)] → W p l e rmX3_orderFor s m args below meth c H locs 0 0 Q (F0 m 124 ls []) := by
    intro x4_ na H locs ls h hP hD hS hl
    refine lv_iload_n hx hb dX3_orderFor_124 rfl (lv_at hl 2 rfl) ?_
    refine lv_if_le (tgt := 154) hx hb dX3_orderFor_125 (by decide) (fun c6 => ?_) (fun c6 => ?_)
    · have h := h.1 c6
      rw [← hQ]
      exact cRetV (na) hx hb hr hlocks hS hP hD h dX3_orderFor_154
    · have h := h.2 c6
      refine lv_iload hx hb dX3_orderFor_128 (lv_at hl 3 rfl) ?_
      refine lv_iconst (v := 2) hx hb dX3_orderFor_130 (by decide) ?_
      refine lv_icmp_eq (tgt := 154) hx hb dX3_orderFor_131 (by decide) (fun c7 => ?_) (fun c7 => ?_)
      · have h := h.1 c7
        rw [← hQ]
        exact cRetV (na) hx hb hr hlocks hS hP hD h dX3_orderFor_154
      · have h := h.2 c7
        refine lv_aload_n hx hb dX3_orderFor_134 rfl (lv_at hl 0 rfl) ?_
        refine lv_iload_n hx hb dX3_orderFor_135 rfl (lv_at hl 1 rfl) ?_
        refine lv_aload_n hx hb dX3_orderFor_136 rfl (lv_at hl 0 rfl) ?_
        refine va_get (D := D) (ci := 3) (v := .int (ns 0)) (C := RX3) (T := TX3) (N := 10) hx hb hw inW_X3 hown hK hP 0 rfl rfl 8 (by decide) (hw _ mw_2_118) (fun _ h9 => h9) rfl dX3_orderFor_137 ?_
        refine lv_iload hx hb dX3_orderFor_140 (lv_at hl 3 rfl) ?_
        refine lv_if_ne (tgt := 150) hx hb dX3_orderFor_142 (by decide) (fun c8 => ?_) (fun c8 => ?_)
        · have h := h.1 c8
          refine lv_iconst (v := 0) hx hb dX3_orderFor_150 (by decide) ?_
          exact N151 0 (ns 0) p2 na _ _ _ h hP hD hS (lv_sub hl [] rfl)
        · have h := h.2 c8
          refine lv_iload_n hx hb dX3_orderFor_145 rfl (lv_at hl 2 rfl) ?_
          refine lv_ineg hx hb dX3_orderFor_146 ?_
          refine lv_goto (tgt := 151) hx hb dX3_orderFor_147 (by decide) ?_
          exact N151 (-p3) (ns 0) p2 na _ _ _ h hP hD hS (lv_sub hl [] rfl)
  have N21 : ∀ (x4_ : Int32) (n21 : Nat) (x5_ : Int32) (na : Nat → Nat → Int32) (H : Heap) (locs : List Loc) (ls : Array Slot), P_X3_orderFor_21 ns rs ra p2 p3 post (fun (x4_ : Int32) (na : Nat → Nat → Int32) => P_X3_orderFor_124 ns rs ra p2 p3 post  x4_ na) x4_ n21 x5_ na → va_P D vwCl (List.flatten (wNight n0 aN C ns na nl ++ (wRail aR C rs ra))) H → va_D A (List.flatten (wNight n0 aN C ns na nl ++ (wRail aR C rs ra))) → va_S A s.heap H locs → lv_has ls 9 [(0, .ref n0), (1, .ref (aR 0)), (2, .int p2), (3, .int p3), (4, .int x4_), (5, .int x5_)] → W p l e rmX3_orderFor s m args below meth c H locs 0 0 Q (F0 m 21 ls []) := by
    intro x4_
    intro n21
    induction n21 with
    | zero => intro x5_ na H locs ls h hP hD hS hl; exact False.elim h
    | succ n21 ih21 =>
      have N115 : ∀ (x5_ : Int32) (k0_ : Int32) (k1_ : Int32) (k2_ : Int32) (na : Nat → Nat → Int32) (H : Heap) (locs : List Loc) (ls : Array Slot), P_X3_orderFor_115 ns rs ra p2 p3 x4_ post (P_X3_orderFor_21 ns rs ra p2 p3 post (fun (x4_ : Int32) (na : Nat → Nat → Int32) => P_X3_orderFor_124 ns rs ra p2 p3 post  x4_ na) x4_ n21) x5_ k0_ k1_ k2_ na → va_P D vwCl (List.flatten (wNight n0 aN C ns na nl ++ (wRail aR C rs ra))) H → va_D A (List.flatten (wNight n0 aN C ns na nl ++ (wRail aR C rs ra))) → va_S A s.heap H locs → lv_has ls 9 [(0, .ref n0), (1, .ref (aR 0)), (2, .int p2), (3, .int p3), (4, .int x4_), (5, .int x5_)] → W p l e rmX3_orderFor s m args below meth c H locs 0 0 Q (F0 m 115 ls [.int k0_, .int k1_, .int k2_, .ref n0]) := by
        intro x5_ k0_ k1_ k2_ na H locs ls h hP hD hS hl
        refine cGoV (wo := fun u => wNight n0 aN C ns u nl ++ (wRail aR C rs ra)) (cRunV (As := [.int k2_, .int k1_, .int k0_]) (rest := []) ⟨hx, hb, hml, hown, hw⟩ hK hN hP hD [0, 1, 2] rfl rfl (k_X3_putInOrder l D C _ n0 aN  ns na nl k2_ k1_ k0_ h) (cwV 3 hw (goodV mw_3_232 mw_3_234 mw_s43 mw_1_11 mw_3_235) rfl rfl rfl (by decide +kernel) ⟨Nat.le_of_ble_eq_true rfl, Nat.le_of_ble_eq_true rfl⟩) rfl rfl rfl hl.1 rfl (Nat.le_of_ble_eq_true rfl) dX3_orderFor_115 ⟨Nat.zero_le _, Nat.zero_le _⟩) hP hD hS hA [0, 1, 2] [3, 4, 5, 6, 7, 8] [6, 7, 8, 0, 1, 2, 3, 4, 5] rfl rfl rfl (by decide) rfl (fun _ => rfl) (fun na_1 H locs h hP hD hS => ?_)
        have hP : va_P D vwCl (List.flatten (wNight n0 aN C ns na_1 nl ++ (wRail aR C rs ra))) H := hP
        have hD : va_D A (List.flatten (wNight n0 aN C ns na_1 nl ++ (wRail aR C rs ra))) := hD
        refine lv_iinc (v := (x5_ + 1)) (lv' := [(5, .int (x5_ + 1)), (0, .ref n0), (1, .ref (aR 0)), (2, .int p2), (3, .int p3), (4, .int x4_)]) hx hb dX3_orderFor_118 hl (k := 5) rfl rfl (by decide) rfl (fun ls hl => ?_)
        refine lv_goto (tgt := 21) hx hb dX3_orderFor_121 (by decide) ?_
        exact ih21 (x5_ + 1) na_1 _ _ _ h hP hD hS (lv_sub hl [1, 2, 3, 4, 5, 0] rfl)
      have N86 : ∀ (x5_ : Int32) (x6_ : Int32) (x7_ : Int32) (k0_ : Int32) (na : Nat → Nat → Int32) (H : Heap) (locs : List Loc) (ls : Array Slot), P_X3_orderFor_86 ns rs ra p2 p3 x4_ post (P_X3_orderFor_21 ns rs ra p2 p3 post (fun (x4_ : Int32) (na : Nat → Nat → Int32) => P_X3_orderFor_124 ns rs ra p2 p3 post  x4_ na) x4_ n21) x5_ x6_ x7_ k0_ na → va_P D vwCl (List.flatten (wNight n0 aN C ns na nl ++ (wRail aR C rs ra))) H → va_D A (List.flatten (wNight n0 aN C ns na nl ++ (wRail aR C rs ra))) → va_S A s.heap H locs → lv_has ls 9 [(0, .ref n0), (1, .ref (aR 0)), (2, .int p2), (3, .int p3), (4, .int x4_), (5, .int x5_), (6, .int x6_), (7, .int x7_)] → W p l e rmX3_orderFor s m args below meth c H locs 0 0 Q (F0 m 86 ls [.int k0_]) := by
        intro x5_ x6_ x7_ k0_ na H locs ls h hP hD hS hl
        refine lv_istore (lv' := [(8, .int k0_), (0, .ref n0), (1, .ref (aR 0)), (2, .int p2), (3, .int p3), (4, .int x4_), (5, .int x5_), (6, .int x6_), (7, .int x7_)]) hx hb dX3_orderFor_86 hl (by decide) rfl (fun ls hl => ?_)
        refine lv_iload hx hb dX3_orderFor_88 (lv_at hl 8 rfl) ?_
        refine lv_if_le (tgt := 118) hx hb dX3_orderFor_90 (by decide) (fun c2 => ?_) (fun c2 => ?_)
        · have h := h.1 c2
          refine lv_iinc (v := (x5_ + 1)) (lv' := [(5, .int (x5_ + 1)), (8, .int k0_), (0, .ref n0), (1, .ref (aR 0)), (2, .int p2), (3, .int p3), (4, .int x4_), (6, .int x6_), (7, .int x7_)]) hx hb dX3_orderFor_118 hl (k := 6) rfl rfl (by decide) rfl (fun ls hl => ?_)
          refine lv_goto (tgt := 21) hx hb dX3_orderFor_121 (by decide) ?_
          exact ih21 (x5_ + 1) na _ _ _ h hP hD hS (lv_sub hl [2, 3, 4, 5, 6, 0] rfl)
        · have h := h.2 c2
          refine lv_iload hx hb dX3_orderFor_93 (lv_at hl 0 rfl) ?_
          refine lv_if_eq (tgt := 118) hx hb dX3_orderFor_95 (by decide) (fun c3 => ?_) (fun c3 => ?_)
          · have h := h.1 c3
            refine lv_iinc (v := (x5_ + 1)) (lv' := [(5, .int (x5_ + 1)), (8, .int k0_), (0, .ref n0), (1, .ref (aR 0)), (2, .int p2), (3, .int p3), (4, .int x4_), (6, .int x6_), (7, .int x7_)]) hx hb dX3_orderFor_118 hl (k := 6) rfl rfl (by decide) rfl (fun ls hl => ?_)
            refine lv_goto (tgt := 21) hx hb dX3_orderFor_121 (by decide) ?_
            exact ih21 (x5_ + 1) na _ _ _ h hP hD hS (lv_sub hl [2, 3, 4, 5, 6, 0] rfl)
          · have h := h.2 c3
            refine lv_aload_n hx hb dX3_orderFor_98 rfl (lv_at hl 1 rfl) ?_
            refine lv_iload_n hx hb dX3_orderFor_99 rfl (lv_at hl 3 rfl) ?_
            refine lv_iload hx hb dX3_orderFor_100 (lv_at hl 6 rfl) ?_
            refine lv_iload hx hb dX3_orderFor_102 (lv_at hl 5 rfl) ?_
            refine lv_if_ne (tgt := 113) hx hb dX3_orderFor_104 (by decide) (fun c4 => ?_) (fun c4 => ?_)
            · have h := h.1 c4
              refine lv_iload hx hb dX3_orderFor_113 (lv_at hl 7 rfl) ?_
              exact N115 x5_ x6_ x5_ p2 na _ _ _ h hP hD hS (lv_sub hl [1, 2, 3, 4, 5, 6] rfl)
            · have h := h.2 c4
              refine lv_iload hx hb dX3_orderFor_107 (lv_at hl 8 rfl) ?_
              refine lv_ineg hx hb dX3_orderFor_109 ?_
              refine lv_goto (tgt := 115) hx hb dX3_orderFor_110 (by decide) ?_
              exact N115 x5_ (-x7_) x5_ p2 na _ _ _ h hP hD hS (lv_sub hl [1, 2, 3, 4, 5, 6] rfl)
      intro x5_ na H locs ls h hP hD hS hl
      refine lv_iload hx hb dX3_orderFor_21 (lv_at hl 5 rfl) ?_
      refine lv_aload_n hx hb dX3_orderFor_23 rfl (lv_at hl 1 rfl) ?_
      refine va_getN (D := D) (ci := 4) (v := .ref (aR 7)) (C := RX4) (T := TX4) (N := 16) hx hb hw inW_X4 hown hK hP 17 rfl rfl 5 (by decide) hn45 (fun _ h9 => h9) rfl dX3_orderFor_24 ?_
      refine va_getN (D := D) (ci := 0) (v := .int (rs 13)) (C := RX0) (T := TX0) (N := 6) hx hb hw inW_X0 hown hK hP 24 rfl rfl 0 (by decide) hn51 (fun _ h9 => h9) rfl dX3_orderFor_27 ?_
      refine lv_icmp_ge (tgt := 124) hx hb dX3_orderFor_30 (by decide) (fun c9 => ?_) (fun c9 => ?_)
      · have h := h.1 c9
        exact N124 x4_ na _ _ _ h hP hD hS (lv_sub hl [0, 2, 3, 4] rfl)
      · have h := h.2 c9
        refine lv_aload_n hx hb dX3_orderFor_33 rfl (lv_at hl 1 rfl) ?_
        refine lv_iload_n hx hb dX3_orderFor_34 rfl (lv_at hl 2 rfl) ?_
        refine lv_iload hx hb dX3_orderFor_35 (lv_at hl 5 rfl) ?_
        refine lv_aload_n hx hb dX3_orderFor_37 rfl (lv_at hl 0 rfl) ?_
        refine va_get (D := D) (ci := 3) (v := .ref (aN 1)) (C := RX3) (T := TX3) (N := 10) hx hb hw inW_X3 hown hK hP 0 rfl rfl 0 (by decide) (hw _ mw_2_110) (fun _ h9 => h9) rfl dX3_orderFor_38 ?_
        refine lv_iload hx hb dX3_orderFor_41 (lv_at hl 5 rfl) ?_
        refine cIald hx hb hK hP 1 0 rfl rfl x5_.toNatClampNeg rfl h.1 dX3_orderFor_43 ?_
        have h := h.2
        refine cGoI (wo := fun u => wNight n0 aN C ns na nl ++ (wRail aR C rs ra)) (cRunVN (As := [.int p2, .int x5_, .int (na 0 x5_.toNatClampNeg)]) (rest := []) ⟨hx, hb, hml, hown, hw⟩ hK hN hP hD [3, 4, 5, 6, 7, 8] rfl rfl (k_X4_troubleOf l D C _ aR  rs ra p2 x5_ (na 0 x5_.toNatClampNeg) h) ⟨va_cnB 3 hw (goodN mw_3_195) rfl rfl rfl (hN.m 41 rfl) (hw _ mw_1_4) (by decide +kernel) ⟨Nat.le_of_ble_eq_true rfl, Nat.le_of_ble_eq_true rfl⟩, hw _ mw_3_194, hw _ mw_s36⟩ rfl rfl rfl hl.1 rfl (Nat.le_of_ble_eq_true rfl) dX3_orderFor_44 ⟨Nat.zero_le _, Nat.zero_le _⟩) hP hD hS hA [3, 4, 5, 6, 7, 8] [0, 1, 2] [0, 1, 2, 3, 4, 5, 6, 7, 8] rfl rfl rfl (by decide) rfl (fun _ => rfl) (fun r10 u H locs h hP hD hS => ?_)
        have hP : va_P D vwCl (List.flatten (wNight n0 aN C ns na nl ++ (wRail aR C rs ra))) H := hP
        have hD : va_D A (List.flatten (wNight n0 aN C ns na nl ++ (wRail aR C rs ra))) := hD
        refine lv_istore (lv' := [(6, .int r10), (0, .ref n0), (1, .ref (aR 0)), (2, .int p2), (3, .int p3), (4, .int x4_), (5, .int x5_)]) hx hb dX3_orderFor_47 hl (by decide) rfl (fun ls hl => ?_)
        refine lv_aload_n hx hb dX3_orderFor_49 rfl (lv_at hl 1 rfl) ?_
        refine va_get (D := D) (ci := 3) (v := .ref (aN 2)) (C := RX3) (T := TX3) (N := 10) hx hb hw inW_X3 hown hK hP 0 rfl rfl 1 (by decide) (hw _ mw_2_111) (fun _ h9 => h9) rfl dX3_orderFor_50 ?_
        refine lv_iload hx hb dX3_orderFor_53 (lv_at hl 6 rfl) ?_
        refine cIald hx hb hK hP 2 0 rfl rfl x5_.toNatClampNeg rfl h.1 dX3_orderFor_55 ?_
        have h := h.2
        refine lv_iload hx hb dX3_orderFor_56 (lv_at hl 0 rfl) ?_
        refine lv_isub hx hb dX3_orderFor_58 ?_
        refine lv_topi (fun x11 ex11 => ?_)
        have h := h x11 ex11
        refine lv_istore (lv' := [(7, .int x11), (6, .int r10), (0, .ref n0), (1, .ref (aR 0)), (2, .int p2), (3, .int p3), (4, .int x4_), (5, .int x5_)]) hx hb dX3_orderFor_59 hl (by decide) rfl (fun ls hl => ?_)
        refine lv_iload hx hb dX3_orderFor_61 (lv_at hl 6 rfl) ?_
        refine lv_iconst (v := 2) hx hb dX3_orderFor_63 (by decide) ?_
        refine lv_icmp_ne (tgt := 81) hx hb dX3_orderFor_64 (by decide) (fun c12 => ?_) (fun c12 => ?_)
        · have h := h.1 c12
          refine lv_iconst (v := 1) hx hb dX3_orderFor_81 (by decide) ?_
          refine lv_goto (tgt := 86) hx hb dX3_orderFor_82 (by decide) ?_
          exact N86 x5_ r10 x11 1 na _ _ _ h hP hD hS (lv_sub hl [2, 3, 4, 5, 6, 7, 1, 0] rfl)
        · have h := h.2 c12
          refine lv_iload hx hb dX3_orderFor_67 (lv_at hl 7 rfl) ?_
          refine lv_aload_n hx hb dX3_orderFor_69 rfl (lv_at hl 3 rfl) ?_
          refine va_getN (D := D) (ci := 4) (v := .ref (aR 13)) (C := RX4) (T := TX4) (N := 16) hx hb hw inW_X4 hown hK hP 17 rfl rfl 6 (by decide) hn75 (fun _ h9 => h9) rfl dX3_orderFor_70 ?_
          refine va_getN (D := D) (ci := 9) (v := .ref (aR 18)) (C := RX9) (T := TX9) (N := 6) hx hb hw inW_X9 hown hK hP 30 rfl rfl 5 (by decide) hn93 (fun _ h9 => h9) rfl dX3_orderFor_73 ?_
          refine lv_iload_n hx hb dX3_orderFor_76 rfl (lv_at hl 4 rfl) ?_
          refine cIald hx hb hK hP 35 0 rfl rfl p2.toNatClampNeg rfl h.1 dX3_orderFor_77 ?_
          have h := h.2
          refine lv_icmp_ne (tgt := 85) hx hb dX3_orderFor_78 (by decide) (fun c13 => ?_) (fun c13 => ?_)
          · have h := h.1 c13
            refine lv_iconst (v := 0) hx hb dX3_orderFor_85 (by decide) ?_
            exact N86 x5_ r10 x11 0 na _ _ _ h hP hD hS (lv_sub hl [2, 3, 4, 5, 6, 7, 1, 0] rfl)
          · have h := h.2 c13
            refine lv_iconst (v := 1) hx hb dX3_orderFor_81 (by decide) ?_
            refine lv_goto (tgt := 86) hx hb dX3_orderFor_82 (by decide) ?_
            exact N86 x5_ r10 x11 1 na _ _ _ h hP hD hS (lv_sub hl [2, 3, 4, 5, 6, 7, 1, 0] rfl)
  refine lv_aload_n hx hb dX3_orderFor_0 rfl (lv_at hl 0 rfl) ?_
  refine va_get (D := D) (ci := 3) (v := .ref (aN 4)) (C := RX3) (T := TX3) (N := 10) hx hb hw inW_X3 hown hK hP 0 rfl rfl 3 (by decide) (hw _ mw_2_113) (fun _ h9 => h9) rfl dX3_orderFor_1 ?_
  refine lv_iload_n hx hb dX3_orderFor_4 rfl (lv_at hl 2 rfl) ?_
  refine lv_iconst (v := 0) hx hb dX3_orderFor_5 (by decide) ?_
  refine cIast hx hb hK hP hD hS 4 0 rfl rfl p2.toNatClampNeg rfl h.1 dX3_orderFor_6 (fun H locs hP hD hS => ?_)
  have h := h.2
  refine lv_aload_n hx hb dX3_orderFor_7 rfl (lv_at hl 1 rfl) ?_
  refine va_getN (D := D) (ci := 4) (v := .ref (aR 13)) (C := RX4) (T := TX4) (N := 16) hx hb hw inW_X4 hown hK hP 17 rfl rfl 6 (by decide) hn75 (fun _ h9 => h9) rfl dX3_orderFor_8 ?_
  refine va_getN (D := D) (ci := 9) (v := .ref (aR 17)) (C := RX9) (T := TX9) (N := 6) hx hb hw inW_X9 hown hK hP 30 rfl rfl 4 (by decide) hn86 (fun _ h9 => h9) rfl dX3_orderFor_11 ?_
  refine lv_iload_n hx hb dX3_orderFor_14 rfl (lv_at hl 2 rfl) ?_
  refine cIald hx hb hK hP 34 0 rfl rfl p2.toNatClampNeg rfl h.1 dX3_orderFor_15 ?_
  have h := h.2
  refine lv_topi (fun x14 ex14 => ?_)
  have h := h x14 ex14
  refine lv_istore (lv' := [(4, .int x14), (0, .ref n0), (1, .ref (aR 0)), (2, .int p2), (3, .int p3)]) hx hb dX3_orderFor_16 hl (by decide) rfl (fun ls hl => ?_)
  refine lv_iconst (v := 0) hx hb dX3_orderFor_18 (by decide) ?_
  refine lv_istore (lv' := [(5, .int 0), (4, .int x14), (0, .ref n0), (1, .ref (aR 0)), (2, .int p2), (3, .int p3)]) hx hb dX3_orderFor_19 hl (by decide) rfl (fun ls hl => ?_)
  have hP : va_P D vwCl (List.flatten (wNight n0 aN C ns (va_up na 3 (upd (na 3) p2.toNatClampNeg 0)) nl ++ (wRail aR C rs ra))) H := hP
  have hD : va_D A (List.flatten (wNight n0 aN C ns (va_up na 3 (upd (na 3) p2.toNatClampNeg 0)) nl ++ (wRail aR C rs ra))) := hD
  obtain ⟨n, h⟩ := h
  exact N21 x14 n 0 (va_up na 3 (upd (na 3) p2.toNatClampNeg 0)) _ _ _ h hP hD hS (lv_sub hl [2, 3, 4, 5, 1, 0] rfl)
abbrev vsX3_lookAtBaited : List Cond := Cond.code yX3_lookAtBaited cX3_lookAtBaited 5 none :: WS
abbrev rmX3_lookAtBaited : Room := { frames := 2, cells := 0, slots := 0, locals := 53 }
set_option maxHeartbeats 4000000 in
set_option maxRecDepth 100000 in
theorem k_X3_lookAtBaited (l : Launch) (D : va_G) (C : Nat → ClassId) (sz : Nat) (n0 : Nat) (aN : Nat → Nat) (aR : Nat → Nat)  (ns : Nat → Int32) (na : Nat → Nat → Int32) (nl : Nat → Nat → Int64) (rs : Nat → Int32) (ra : Nat → Nat → Int32) (p2 : Int32) {post : (Nat → Int32) → (Nat → Nat → Int32) → Prop} (h : P_X3_lookAtBaited ns na rs ra p2 post) : Met l yX3_lookAtBaited vsX3_lookAtBaited rmX3_lookAtBaited (cPre D C [.ref n0, .ref (aR 0), .int p2] sz (wNight n0 aN C ns na nl ++ (wRail aR C rs ra))) (cQv D (fun (u : (Nat → Int32) × (Nat → Nat → Int32)) => post u.1 u.2) (fun u => wNight n0 aN C u.1 u.2 nl ++ (wRail aR C rs ra)) (va_A (List.flatten (wNight n0 aN C ns na nl ++ (wRail aR C rs ra))) sz)) 0 0 (va_A (List.flatten (wNight n0 aN C ns na nl ++ (wRail aR C rs ra))) sz) := by
  refine cStart (QA := fun A => cQv D (fun (u : (Nat → Int32) × (Nat → Nat → Int32)) => post u.1 u.2) (fun u => wNight n0 aN C u.1 u.2 nl ++ (wRail aR C rs ra)) A) (cc := cX3_lookAtBaited) (maxL := 5) (ret := none) (by decide) (Nat.le_of_ble_eq_true rfl) ?_
  intro p e s m args below meth c A ls hx hb hr hml hown hw hlocks hname hK hN hA hP hD hS hl
  generalize hQ : MQ below _ args s 0 0 A = Q
  have hl : lv_has ls 5 [(0, .ref n0), (1, .ref (aR 0)), (2, .int p2)] := hl
  have hn75 : (Cond.fieldLinkNest "LockRail$Night" 75 "LockRail$Rail" "thieves" "LLockRail$Thieves;" "LockRail").before args s = true := hN.f 62 rfl
  have hn79 : (Cond.fieldLinkNest "LockRail$Night" 79 "LockRail$Thieves" "count" "I" "LockRail").before args s = true := hN.f 33 rfl
  have hn45 : (Cond.fieldLinkNest "LockRail$Night" 45 "LockRail$Rail" "bikes" "LLockRail$Bikes;" "LockRail").before args s = true := hN.f 59 rfl
  have hn51 : (Cond.fieldLinkNest "LockRail$Night" 51 "LockRail$Bikes" "count" "I" "LockRail").before args s = true := hN.f 18 rfl
  have hn64 : (Cond.fieldLinkNest "LockRail$Night" 64 "LockRail$Bikes" "place" "[I" "LockRail").before args s = true := hN.f 26 rfl
  obtain ⟨H, hH⟩ : ∃ H, H = s.heap := ⟨_, rfl⟩
  obtain ⟨locs, hlo⟩ : ∃ z : List Loc, z = [] := ⟨_, rfl⟩
  have hP : va_P D vwCl (List.flatten (wNight n0 aN C ns na nl ++ (wRail aR C rs ra))) H := by rw [hH]; exact hP
  have hS : va_S A s.heap H locs := by rw [hH, hlo]; exact hS
  rw [show W p l e rmX3_lookAtBaited s m args below meth c s.heap [] 0 0 Q (F0 m 0 ls []) = W p l e rmX3_lookAtBaited s m args below meth c H locs 0 0 Q (F0 m 0 ls []) from by rw [hH, hlo]]
  have N78 : ∀ (ns : Nat → Int32) (n78 : Nat) (x4_ : Int32) (na : Nat → Nat → Int32) (H : Heap) (locs : List Loc) (ls : Array Slot), P_X3_lookAtBaited_78 rs ra p2 post  ns n78 x4_ na → va_P D vwCl (List.flatten (wNight n0 aN C ns na nl ++ (wRail aR C rs ra))) H → va_D A (List.flatten (wNight n0 aN C ns na nl ++ (wRail aR C rs ra))) → va_S A s.heap H locs → lv_has ls 5 [(0, .ref n0), (1, .ref (aR 0)), (2, .int p2), (4, .int x4_)] → W p l e rmX3_lookAtBaited s m args below meth c H locs 0 0 Q (F0 m 78 ls []) := by
    intro ns
    intro n78
    induction n78 with
    | zero => intro x4_ na H locs ls h hP hD hS hl; exact False.elim h
    | succ n78 ih78 =>
      intro x4_ na H locs ls h hP hD hS hl
      refine lv_iload hx hb dX3_lookAtBaited_78 (lv_at hl 3 rfl) ?_
      refine lv_aload_n hx hb dX3_lookAtBaited_80 rfl (lv_at hl 1 rfl) ?_
      refine va_getN (D := D) (ci := 4) (v := .ref (aR 13)) (C := RX4) (T := TX4) (N := 16) hx hb hw inW_X4 hown hK hP 17 rfl rfl 6 (by decide) hn75 (fun _ h9 => h9) rfl dX3_lookAtBaited_81 ?_
      refine va_getN (D := D) (ci := 9) (v := .int (rs 14)) (C := RX9) (T := TX9) (N := 6) hx hb hw inW_X9 hown hK hP 30 rfl rfl 0 (by decide) hn79 (fun _ h9 => h9) rfl dX3_lookAtBaited_84 ?_
      refine lv_icmp_ge (tgt := 104) hx hb dX3_lookAtBaited_87 (by decide) (fun c1 => ?_) (fun c1 => ?_)
      · have h := h.1 c1
        rw [← hQ]
        exact cRetV (ns, na) hx hb hr hlocks hS hP hD h dX3_lookAtBaited_104
      · have h := h.2 c1
        refine lv_aload_n hx hb dX3_lookAtBaited_90 rfl (lv_at hl 0 rfl) ?_
        refine lv_aload_n hx hb dX3_lookAtBaited_91 rfl (lv_at hl 1 rfl) ?_
        refine lv_iload hx hb dX3_lookAtBaited_92 (lv_at hl 3 rfl) ?_
        refine lv_iload_n hx hb dX3_lookAtBaited_94 rfl (lv_at hl 2 rfl) ?_
        refine cGoV (wo := fun u => wNight n0 aN C ns u nl ++ (wRail aR C rs ra)) (cRunV (As := [.ref (aR 0), .int x4_, .int p2]) (rest := []) ⟨hx, hb, hml, hown, hw⟩ hK hN hP hD [0, 1, 2, 3, 4, 5, 6, 7, 8] rfl rfl (k_X3_orderFor l D C _ n0 aN aR  ns na nl rs ra x4_ p2 h) (cwV 3 hw (goodV mw_3_227 mw_3_229 mw_s42 mw_1_11 mw_3_230) rfl rfl rfl (by decide +kernel) ⟨Nat.le_of_ble_eq_true rfl, Nat.le_of_ble_eq_true rfl⟩) rfl rfl rfl hl.1 rfl (Nat.le_of_ble_eq_true rfl) dX3_lookAtBaited_95 ⟨Nat.zero_le _, Nat.zero_le _⟩) hP hD hS hA [0, 1, 2, 3, 4, 5, 6, 7, 8] [] [0, 1, 2, 3, 4, 5, 6, 7, 8] rfl rfl rfl (by decide) rfl (fun _ => rfl) (fun na_2 H locs h hP hD hS => ?_)
        have hP : va_P D vwCl (List.flatten (wNight n0 aN C ns na_2 nl ++ (wRail aR C rs ra))) H := hP
        have hD : va_D A (List.flatten (wNight n0 aN C ns na_2 nl ++ (wRail aR C rs ra))) := hD
        refine lv_iinc (v := (x4_ + 1)) (lv' := [(4, .int (x4_ + 1)), (0, .ref n0), (1, .ref (aR 0)), (2, .int p2)]) hx hb dX3_lookAtBaited_98 hl (k := 3) rfl rfl (by decide) rfl (fun ls hl => ?_)
        refine lv_goto (tgt := 78) hx hb dX3_lookAtBaited_101 (by decide) ?_
        exact ih78 (x4_ + 1) na_2 _ _ _ h hP hD hS (lv_sub hl [1, 2, 3, 0] rfl)
  have N22 : ∀ (x3_ : Int32) (ns : Nat → Int32) (n22 : Nat) (x4_ : Int32) (na : Nat → Nat → Int32) (H : Heap) (locs : List Loc) (ls : Array Slot), P_X3_lookAtBaited_22 rs ra p2 post (fun (ns : Nat → Int32) (x4_ : Int32) (na : Nat → Nat → Int32) => ∃ n : Nat, P_X3_lookAtBaited_78 rs ra p2 post  ns n x4_ na) x3_ ns n22 x4_ na → va_P D vwCl (List.flatten (wNight n0 aN C ns na nl ++ (wRail aR C rs ra))) H → va_D A (List.flatten (wNight n0 aN C ns na nl ++ (wRail aR C rs ra))) → va_S A s.heap H locs → lv_has ls 5 [(0, .ref n0), (1, .ref (aR 0)), (2, .int p2), (3, .int x3_), (4, .int x4_)] → W p l e rmX3_lookAtBaited s m args below meth c H locs 0 0 Q (F0 m 22 ls []) := by
    intro x3_ ns
    intro n22
    induction n22 with
    | zero => intro x4_ na H locs ls h hP hD hS hl; exact False.elim h
    | succ n22 ih22 =>
      intro x4_ na H locs ls h hP hD hS hl
      refine lv_iload hx hb dX3_lookAtBaited_22 (lv_at hl 4 rfl) ?_
      refine lv_aload_n hx hb dX3_lookAtBaited_24 rfl (lv_at hl 1 rfl) ?_
      refine va_getN (D := D) (ci := 4) (v := .ref (aR 7)) (C := RX4) (T := TX4) (N := 16) hx hb hw inW_X4 hown hK hP 17 rfl rfl 5 (by decide) hn45 (fun _ h9 => h9) rfl dX3_lookAtBaited_25 ?_
      refine va_getN (D := D) (ci := 0) (v := .int (rs 13)) (C := RX0) (T := TX0) (N := 6) hx hb hw inW_X0 hown hK hP 24 rfl rfl 0 (by decide) hn51 (fun _ h9 => h9) rfl dX3_lookAtBaited_28 ?_
      refine lv_icmp_ge (tgt := 75) hx hb dX3_lookAtBaited_31 (by decide) (fun c3 => ?_) (fun c3 => ?_)
      · have h := h.1 c3
        refine lv_iconst (v := 0) hx hb dX3_lookAtBaited_75 (by decide) ?_
        refine lv_istore (lv' := [(4, .int 0), (0, .ref n0), (1, .ref (aR 0)), (2, .int p2), (3, .int x3_)]) hx hb dX3_lookAtBaited_76 hl (by decide) rfl (fun ls hl => ?_)
        obtain ⟨n, h⟩ := h
        exact N78 ns n 0 na _ _ _ h hP hD hS (lv_sub hl [1, 2, 3, 0] rfl)
      · have h := h.2 c3
        refine lv_aload_n hx hb dX3_lookAtBaited_34 rfl (lv_at hl 0 rfl) ?_
        refine va_get (D := D) (ci := 3) (v := .ref (aN 1)) (C := RX3) (T := TX3) (N := 10) hx hb hw inW_X3 hown hK hP 0 rfl rfl 0 (by decide) (hw _ mw_2_110) (fun _ h9 => h9) rfl dX3_lookAtBaited_35 ?_
        refine lv_iload hx hb dX3_lookAtBaited_38 (lv_at hl 4 rfl) ?_
        refine lv_aload_n hx hb dX3_lookAtBaited_40 rfl (lv_at hl 1 rfl) ?_
        refine lv_aload_n hx hb dX3_lookAtBaited_41 rfl (lv_at hl 1 rfl) ?_
        refine va_getN (D := D) (ci := 4) (v := .ref (aR 7)) (C := RX4) (T := TX4) (N := 16) hx hb hw inW_X4 hown hK hP 17 rfl rfl 5 (by decide) hn45 (fun _ h9 => h9) rfl dX3_lookAtBaited_42 ?_
        refine va_getN (D := D) (ci := 0) (v := .ref (aR 10)) (C := RX0) (T := TX0) (N := 6) hx hb hw inW_X0 hown hK hP 24 rfl rfl 3 (by decide) hn64 (fun _ h9 => h9) rfl dX3_lookAtBaited_45 ?_
        refine lv_iload hx hb dX3_lookAtBaited_48 (lv_at hl 4 rfl) ?_
        refine cIald hx hb hK hP 27 0 rfl rfl x4_.toNatClampNeg rfl h.1 dX3_lookAtBaited_50 ?_
        have h := h.2
        refine cGoI (wo := fun u => wNight n0 aN C ns na nl ++ (wRail aR C rs ra)) (cRunVN (As := [.int (ra 6 x4_.toNatClampNeg)]) (rest := [.int x4_, .ref (aN 1)]) ⟨hx, hb, hml, hown, hw⟩ hK hN hP hD [3, 4, 5, 6, 7, 8] rfl rfl (k_X4_lightOf l D C _ aR  rs ra (ra 6 x4_.toNatClampNeg) h) ⟨va_cnB 1 hw (goodN mw_3_169) rfl rfl rfl (hN.m 39 rfl) (hw _ mw_1_4) (by decide +kernel) ⟨Nat.le_of_ble_eq_true rfl, Nat.le_of_ble_eq_true rfl⟩, hw _ mw_3_168, hw _ mw_s33⟩ rfl rfl rfl hl.1 rfl (Nat.le_of_ble_eq_true rfl) dX3_lookAtBaited_51 ⟨Nat.zero_le _, Nat.zero_le _⟩) hP hD hS hA [3, 4, 5, 6, 7, 8] [0, 1, 2] [0, 1, 2, 3, 4, 5, 6, 7, 8] rfl rfl rfl (by decide) rfl (fun _ => rfl) (fun r4 u H locs h hP hD hS => ?_)
        have hP : va_P D vwCl (List.flatten (wNight n0 aN C ns na nl ++ (wRail aR C rs ra))) H := hP
        have hD : va_D A (List.flatten (wNight n0 aN C ns na nl ++ (wRail aR C rs ra))) := hD
        refine cIast hx hb hK hP hD hS 1 0 rfl rfl x4_.toNatClampNeg rfl h.1 dX3_lookAtBaited_54 (fun H locs hP hD hS => ?_)
        have h := h.2
        refine lv_aload_n hx hb dX3_lookAtBaited_55 rfl (lv_at hl 0 rfl) ?_
        refine va_get (D := D) (ci := 3) (v := .ref (aN 2)) (C := RX3) (T := TX3) (N := 10) hx hb hw inW_X3 hown hK hP 0 rfl rfl 1 (by decide) (hw _ mw_2_111) (fun _ h9 => h9) rfl dX3_lookAtBaited_56 ?_
        refine lv_iload hx hb dX3_lookAtBaited_59 (lv_at hl 4 rfl) ?_
        refine lv_aload_n hx hb dX3_lookAtBaited_61 rfl (lv_at hl 1 rfl) ?_
        refine lv_iload hx hb dX3_lookAtBaited_62 (lv_at hl 4 rfl) ?_
        refine lv_iload_n hx hb dX3_lookAtBaited_64 rfl (lv_at hl 3 rfl) ?_
        have hP : va_P D vwCl (List.flatten (wNight n0 aN C ns (va_up na 0 (upd (na 0) x4_.toNatClampNeg r4)) nl ++ (wRail aR C rs ra))) H := hP
        have hD : va_D A (List.flatten (wNight n0 aN C ns (va_up na 0 (upd (na 0) x4_.toNatClampNeg r4)) nl ++ (wRail aR C rs ra))) := hD
        refine cGoI (wo := fun u => wNight n0 aN C ns (va_up na 0 (upd (na 0) x4_.toNatClampNeg r4)) nl ++ (wRail aR C rs ra)) (cRunVN (As := [.int x4_, .int x3_]) (rest := [.int x4_, .ref (aN 2)]) ⟨hx, hb, hml, hown, hw⟩ hK hN hP hD [3, 4, 5, 6, 7, 8] rfl rfl (k_X4_gainOf l D C _ aR  rs ra x4_ x3_ h) ⟨va_cnB 2 hw (goodN mw_3_207) rfl rfl rfl (hN.m 40 rfl) (hw _ mw_1_4) (by decide +kernel) ⟨Nat.le_of_ble_eq_true rfl, Nat.le_of_ble_eq_true rfl⟩, hw _ mw_3_206, hw _ mw_s38⟩ rfl rfl rfl hl.1 rfl (Nat.le_of_ble_eq_true rfl) dX3_lookAtBaited_65 ⟨Nat.zero_le _, Nat.zero_le _⟩) hP hD hS hA [3, 4, 5, 6, 7, 8] [0, 1, 2] [0, 1, 2, 3, 4, 5, 6, 7, 8] rfl rfl rfl (by decide) rfl (fun _ => rfl) (fun r5 u H locs h hP hD hS => ?_)
        have hP : va_P D vwCl (List.flatten (wNight n0 aN C ns (va_up na 0 (upd (na 0) x4_.toNatClampNeg r4)) nl ++ (wRail aR C rs ra))) H := hP
        have hD : va_D A (List.flatten (wNight n0 aN C ns (va_up na 0 (upd (na 0) x4_.toNatClampNeg r4)) nl ++ (wRail aR C rs ra))) := hD
        refine cIast hx hb hK hP hD hS 2 0 rfl rfl x4_.toNatClampNeg rfl h.1 dX3_lookAtBaited_68 (fun H locs hP hD hS => ?_)
        have h := h.2
        refine lv_iinc (v := (x4_ + 1)) (lv' := [(4, .int (x4_ + 1)), (0, .ref n0), (1, .ref (aR 0)), (2, .int p2), (3, .int x3_)]) hx hb dX3_lookAtBaited_69 hl (k := 4) rfl rfl (by decide) rfl (fun ls hl => ?_)
        refine lv_goto (tgt := 22) hx hb dX3_lookAtBaited_72 (by decide) ?_
        have hP : va_P D vwCl (List.flatten (wNight n0 aN C ns (va_up (va_up na 0 (upd (na 0) x4_.toNatClampNeg r4)) 1 (upd (na 1) x4_.toNatClampNeg r5)) nl ++ (wRail aR C rs ra))) H := hP
        have hD : va_D A (List.flatten (wNight n0 aN C ns (va_up (va_up na 0 (upd (na 0) x4_.toNatClampNeg r4)) 1 (upd (na 1) x4_.toNatClampNeg r5)) nl ++ (wRail aR C rs ra))) := hD
        exact ih22 (x4_ + 1) (va_up (va_up na 0 (upd (na 0) x4_.toNatClampNeg r4)) 1 (upd (na 1) x4_.toNatClampNeg r5)) _ _ _ h hP hD hS (lv_sub hl [1, 2, 3, 4, 0] rfl)
  refine lv_aload_n hx hb dX3_lookAtBaited_0 rfl (lv_at hl 0 rfl) ?_
  refine lv_aload_n hx hb dX3_lookAtBaited_1 rfl (lv_at hl 1 rfl) ?_
  refine va_getN (D := D) (ci := 4) (v := .ref (aR 7)) (C := RX4) (T := TX4) (N := 16) hx hb hw inW_X4 hown hK hP 17 rfl rfl 5 (by decide) hn45 (fun _ h9 => h9) rfl dX3_lookAtBaited_2 ?_
  refine va_getN (D := D) (ci := 0) (v := .int (rs 13)) (C := RX0) (T := TX0) (N := 6) hx hb hw inW_X0 hown hK hP 24 rfl rfl 0 (by decide) hn51 (fun _ h9 => h9) rfl dX3_lookAtBaited_5 ?_
  refine lv_topi (fun x6 ex6 => ?_)
  have h := h x6 ex6
  refine va_put (D := D) (ci := 3) (v := .int x6) (ty := .int) (C := RX3) (T := TX3) (N := 10) hx hb hw inW_X3 tyX3 tyX3_ok nmX3 hown hK hP hD hS 0 rfl rfl 8 (by decide) (hw _ mw_2_118) (fun _ h9 => h9) rfl (by decide +kernel) rfl rfl (Nat.le_of_ble_eq_true rfl) dX3_lookAtBaited_8 (fun H locs hP hD hS => ?_)
  refine lv_aload_n hx hb dX3_lookAtBaited_11 rfl (lv_at hl 1 rfl) ?_
  refine va_getN (D := D) (ci := 4) (v := .ref (aR 7)) (C := RX4) (T := TX4) (N := 16) hx hb hw inW_X4 hown hK hP 17 rfl rfl 5 (by decide) hn45 (fun _ h9 => h9) rfl dX3_lookAtBaited_12 ?_
  have hP : va_P D vwCl (List.flatten (wNight n0 aN C (va_up ns 0 x6) na nl ++ (wRail aR C rs ra))) H := hP
  have hD : va_D A (List.flatten (wNight n0 aN C (va_up ns 0 x6) na nl ++ (wRail aR C rs ra))) := hD
  refine cGoI (wo := fun u => wNight n0 aN C (va_up ns 0 x6) na nl ++ (wRail aR C rs ra)) (cRunVN (As := []) (rest := []) ⟨hx, hb, hml, hown, hw⟩ hK hN hP hD [6] rfl rfl (k_X0_markedOnes l D C _ (aR 7) (aR 8) (aR 9) (aR 10) (aR 11) (aR 12)  (rs 13) (ra 4) (ra 5) (ra 6) (ra 7) (ra 8)  h) ⟨va_cnB 0 hw (goodN mw_3_203) rfl rfl rfl (hN.m 38 rfl) (hw _ mw_1_7) (by decide +kernel) ⟨Nat.le_of_ble_eq_true rfl, Nat.le_of_ble_eq_true rfl⟩, hw _ mw_3_202, hw _ mw_s37⟩ rfl rfl rfl hl.1 rfl (Nat.le_of_ble_eq_true rfl) dX3_lookAtBaited_15 ⟨Nat.zero_le _, Nat.zero_le _⟩) hP hD hS hA [6] [0, 1, 2, 3, 4, 5, 7, 8] [0, 1, 2, 3, 4, 5, 8, 6, 7] rfl rfl rfl (by decide) rfl (fun _ => rfl) (fun r7 u H locs h hP hD hS => ?_)
  have hP : va_P D vwCl (List.flatten (wNight n0 aN C (va_up ns 0 x6) na nl ++ (wRail aR C rs ra))) H := hP
  have hD : va_D A (List.flatten (wNight n0 aN C (va_up ns 0 x6) na nl ++ (wRail aR C rs ra))) := hD
  refine lv_istore_n (lv' := [(3, .int r7), (0, .ref n0), (1, .ref (aR 0)), (2, .int p2)]) hx hb dX3_lookAtBaited_18 rfl hl (by decide) rfl (fun ls hl => ?_)
  refine lv_iconst (v := 0) hx hb dX3_lookAtBaited_19 (by decide) ?_
  refine lv_istore (lv' := [(4, .int 0), (3, .int r7), (0, .ref n0), (1, .ref (aR 0)), (2, .int p2)]) hx hb dX3_lookAtBaited_20 hl (by decide) rfl (fun ls hl => ?_)
  obtain ⟨n, h⟩ := h
  exact N22 r7 (va_up ns 0 x6) n 0 na _ _ _ h hP hD hS (lv_sub hl [2, 3, 4, 1, 0] rfl)
abbrev vsX3_lookAt : List Cond := Cond.code yX3_lookAt cX3_lookAt 2 none :: WS
abbrev rmX3_lookAt : Room := { frames := 3, cells := 0, slots := 0, locals := 77 }
set_option maxHeartbeats 4000000 in
set_option maxRecDepth 100000 in
theorem k_X3_lookAt (l : Launch) (D : va_G) (C : Nat → ClassId) (sz : Nat) (n0 : Nat) (aN : Nat → Nat) (aR : Nat → Nat)  (ns : Nat → Int32) (na : Nat → Nat → Int32) (nl : Nat → Nat → Int64) (rs : Nat → Int32) (ra : Nat → Nat → Int32)  {post : (Nat → Int32) → (Nat → Nat → Int32) → Prop} (h : P_X3_lookAt ns na rs ra post) : Met l yX3_lookAt vsX3_lookAt rmX3_lookAt (cPre D C [.ref n0, .ref (aR 0)] sz (wNight n0 aN C ns na nl ++ (wRail aR C rs ra))) (cQv D (fun (u : (Nat → Int32) × (Nat → Nat → Int32)) => post u.1 u.2) (fun u => wNight n0 aN C u.1 u.2 nl ++ (wRail aR C rs ra)) (va_A (List.flatten (wNight n0 aN C ns na nl ++ (wRail aR C rs ra))) sz)) 0 0 (va_A (List.flatten (wNight n0 aN C ns na nl ++ (wRail aR C rs ra))) sz) := by
  refine cStart (QA := fun A => cQv D (fun (u : (Nat → Int32) × (Nat → Nat → Int32)) => post u.1 u.2) (fun u => wNight n0 aN C u.1 u.2 nl ++ (wRail aR C rs ra)) A) (cc := cX3_lookAt) (maxL := 2) (ret := none) (by decide) (Nat.le_of_ble_eq_true rfl) ?_
  intro p e s m args below meth c A ls hx hb hr hml hown hw hlocks hname hK hN hA hP hD hS hl
  generalize hQ : MQ below _ args s 0 0 A = Q
  have hl : lv_has ls 2 [(0, .ref n0), (1, .ref (aR 0))] := hl
  obtain ⟨H, hH⟩ : ∃ H, H = s.heap := ⟨_, rfl⟩
  obtain ⟨locs, hlo⟩ : ∃ z : List Loc, z = [] := ⟨_, rfl⟩
  have hP : va_P D vwCl (List.flatten (wNight n0 aN C ns na nl ++ (wRail aR C rs ra))) H := by rw [hH]; exact hP
  have hS : va_S A s.heap H locs := by rw [hH, hlo]; exact hS
  rw [show W p l e rmX3_lookAt s m args below meth c s.heap [] 0 0 Q (F0 m 0 ls []) = W p l e rmX3_lookAt s m args below meth c H locs 0 0 Q (F0 m 0 ls []) from by rw [hH, hlo]]
  refine lv_aload_n hx hb dX3_lookAt_0 rfl (lv_at hl 0 rfl) ?_
  refine lv_aload_n hx hb dX3_lookAt_1 rfl (lv_at hl 1 rfl) ?_
  refine lv_iconst (v := 0) hx hb dX3_lookAt_2 (by decide) ?_
  refine cGoV (wo := fun u => wNight n0 aN C u.1 u.2 nl ++ (wRail aR C rs ra)) (cRunV (As := [.ref (aR 0), .int 0]) (rest := []) ⟨hx, hb, hml, hown, hw⟩ hK hN hP hD [0, 1, 2, 3, 4, 5, 6, 7, 8] rfl rfl (k_X3_lookAtBaited l D C _ n0 aN aR  ns na nl rs ra 0 h) (cwV 2 hw (goodV mw_3_220 mw_3_222 mw_s41 mw_1_11 mw_3_223) rfl rfl rfl (by decide +kernel) ⟨Nat.le_of_ble_eq_true rfl, Nat.le_of_ble_eq_true rfl⟩) rfl rfl rfl hl.1 rfl (Nat.le_of_ble_eq_true rfl) dX3_lookAt_3 ⟨Nat.zero_le _, Nat.zero_le _⟩) hP hD hS hA [0, 1, 2, 3, 4, 5, 6, 7, 8] [] [0, 1, 2, 3, 4, 5, 6, 7, 8] rfl rfl rfl (by decide) rfl (fun _ => rfl) (fun u H locs h hP hD hS => ?_)
  obtain ⟨ns_1, na_2⟩ := u
  have hP : va_P D vwCl (List.flatten (wNight n0 aN C ns_1 na_2 nl ++ (wRail aR C rs ra))) H := hP
  have hD : va_D A (List.flatten (wNight n0 aN C ns_1 na_2 nl ++ (wRail aR C rs ra))) := hD
  rw [← hQ]
  exact cRetV (ns_1, na_2) hx hb hr hlocks hS hP hD h dX3_lookAt_6
abbrev vsX3_pick : List Cond := Cond.code yX3_pick cX3_pick 6 (some .int) :: WS
abbrev rmX3_pick : Room := { frames := 0, cells := 0, slots := 0, locals := 0 }
set_option maxHeartbeats 4000000 in
set_option maxRecDepth 100000 in
theorem k_X3_pick (l : Launch) (D : va_G) (C : Nat → ClassId) (sz : Nat) (n0 : Nat) (aN : Nat → Nat)  (ns : Nat → Int32) (na : Nat → Nat → Int32) (nl : Nat → Nat → Int64) (p1 : Int32) (p2 : Int32) {post : Int32 → Prop} (h : P_X3_pick na p1 p2 post) : Met l yX3_pick vsX3_pick rmX3_pick (cPre D C [.ref n0, .int p1, .int p2] sz (wNight n0 aN C ns na nl)) (cQi D (fun (r : Int32) (u : Unit) => post r ) (fun u => wNight n0 aN C ns na nl) (va_A (List.flatten (wNight n0 aN C ns na nl)) sz)) 0 0 (va_A (List.flatten (wNight n0 aN C ns na nl)) sz) := by
  refine cStart (QA := fun A => cQi D (fun (r : Int32) (u : Unit) => post r ) (fun u => wNight n0 aN C ns na nl) A) (cc := cX3_pick) (maxL := 6) (ret := (some .int)) (by decide) (Nat.le_of_ble_eq_true rfl) ?_
  intro p e s m args below meth c A ls hx hb hr hml hown hw hlocks hname hK hN hA hP hD hS hl
  generalize hQ : MQ below _ args s 0 0 A = Q
  have hl : lv_has ls 6 [(0, .ref n0), (1, .int p1), (2, .int p2)] := hl
  obtain ⟨H, hH⟩ : ∃ H, H = s.heap := ⟨_, rfl⟩
  obtain ⟨locs, hlo⟩ : ∃ z : List Loc, z = [] := ⟨_, rfl⟩
  have hP : va_P D vwCl (List.flatten (wNight n0 aN C ns na nl)) H := by rw [hH]; exact hP
  have hS : va_S A s.heap H locs := by rw [hH, hlo]; exact hS
  rw [show W p l e rmX3_pick s m args below meth c s.heap [] 0 0 Q (F0 m 0 ls []) = W p l e rmX3_pick s m args below meth c H locs 0 0 Q (F0 m 0 ls []) from by rw [hH, hlo]]
  have N8 : ∀ (x3_ : Int32) (n8 : Nat) (x4_ : Int32) (H : Heap) (locs : List Loc) (ls : Array Slot), P_X3_pick_8 na p1 p2 post  x3_ n8 x4_ → va_P D vwCl (List.flatten (wNight n0 aN C ns na nl)) H → va_D A (List.flatten (wNight n0 aN C ns na nl)) → va_S A s.heap H locs → lv_has ls 6 [(0, .ref n0), (1, .int p1), (2, .int p2), (3, .int x3_), (4, .int x4_)] → W p l e rmX3_pick s m args below meth c H locs 0 0 Q (F0 m 8 ls []) := by
    intro x3_
    intro n8
    induction n8 with
    | zero => intro x4_ H locs ls h hP hD hS hl; exact False.elim h
    | succ n8 ih8 =>
      intro x4_ H locs ls h hP hD hS hl
      refine lv_iload hx hb dX3_pick_8 (lv_at hl 4 rfl) ?_
      refine lv_aload_n hx hb dX3_pick_10 rfl (lv_at hl 0 rfl) ?_
      refine va_get (D := D) (ci := 3) (v := .ref (aN 4)) (C := RX3) (T := TX3) (N := 10) hx hb hw inW_X3 hown hK hP 0 rfl rfl 3 (by decide) (hw _ mw_2_113) (fun _ h9 => h9) rfl dX3_pick_11 ?_
      refine lv_iload_n hx hb dX3_pick_14 rfl (lv_at hl 1 rfl) ?_
      refine cIald hx hb hK hP 4 0 rfl rfl p1.toNatClampNeg rfl h.1 dX3_pick_15 ?_
      have h := h.2
      refine lv_icmp_ge (tgt := 48) hx hb dX3_pick_16 (by decide) (fun c1 => ?_) (fun c1 => ?_)
      · have h := h.1 c1
        refine lv_iconst (v := (-1)) hx hb dX3_pick_48 (by decide) ?_
        rw [← hQ]
        exact cRetI (v := (-1)) () hx hb hr hlocks hS hP hD h dX3_pick_49
      · have h := h.2 c1
        refine lv_aload_n hx hb dX3_pick_19 rfl (lv_at hl 0 rfl) ?_
        refine va_get (D := D) (ci := 3) (v := .ref (aN 3)) (C := RX3) (T := TX3) (N := 10) hx hb hw inW_X3 hown hK hP 0 rfl rfl 2 (by decide) (hw _ mw_2_112) (fun _ h9 => h9) rfl dX3_pick_20 ?_
        refine lv_iload_n hx hb dX3_pick_23 rfl (lv_at hl 3 rfl) ?_
        refine lv_iload hx hb dX3_pick_24 (lv_at hl 4 rfl) ?_
        refine lv_iadd hx hb dX3_pick_26 ?_
        refine cIald hx hb hK hP 3 0 rfl rfl ((x3_ + x4_).toNatClampNeg) rfl h.1 dX3_pick_27 ?_
        have h := h.2
        refine lv_topi (fun x2 ex2 => ?_)
        have h := h x2 ex2
        refine lv_istore (lv' := [(5, .int x2), (0, .ref n0), (1, .int p1), (2, .int p2), (3, .int x3_), (4, .int x4_)]) hx hb dX3_pick_28 hl (by decide) rfl (fun ls hl => ?_)
        refine lv_iload_n hx hb dX3_pick_30 rfl (lv_at hl 3 rfl) ?_
        refine lv_iload hx hb dX3_pick_31 (lv_at hl 0 rfl) ?_
        refine lv_ishr hx hb dX3_pick_33 ?_
        refine lv_iconst (v := 1) hx hb dX3_pick_34 (by decide) ?_
        refine lv_iand hx hb dX3_pick_35 ?_
        refine lv_if_ne (tgt := 42) hx hb dX3_pick_36 (by decide) (fun c3 => ?_) (fun c3 => ?_)
        · have h := h.1 c3
          refine lv_iinc (v := (x4_ + 1)) (lv' := [(4, .int (x4_ + 1)), (5, .int x2), (0, .ref n0), (1, .int p1), (2, .int p2), (3, .int x3_)]) hx hb dX3_pick_42 hl (k := 5) rfl rfl (by decide) rfl (fun ls hl => ?_)
          refine lv_goto (tgt := 8) hx hb dX3_pick_45 (by decide) ?_
          exact ih8 (x4_ + 1) _ _ _ h hP hD hS (lv_sub hl [2, 3, 4, 5, 0] rfl)
        · have h := h.2 c3
          refine lv_iload hx hb dX3_pick_39 (lv_at hl 0 rfl) ?_
          rw [← hQ]
          exact cRetI (v := x2) () hx hb hr hlocks hS hP hD h dX3_pick_41
  refine lv_iload_n hx hb dX3_pick_0 rfl (lv_at hl 1 rfl) ?_
  refine lv_bipush (v := 11) hx hb dX3_pick_1 (by decide) ?_
  refine lv_imul hx hb dX3_pick_3 ?_
  refine lv_topi (fun x4 ex4 => ?_)
  have h := h x4 ex4
  refine lv_istore_n (lv' := [(3, .int x4), (0, .ref n0), (1, .int p1), (2, .int p2)]) hx hb dX3_pick_4 rfl hl (by decide) rfl (fun ls hl => ?_)
  refine lv_iconst (v := 0) hx hb dX3_pick_5 (by decide) ?_
  refine lv_istore (lv' := [(4, .int 0), (3, .int x4), (0, .ref n0), (1, .int p1), (2, .int p2)]) hx hb dX3_pick_6 hl (by decide) rfl (fun ls hl => ?_)
  obtain ⟨n, h⟩ := h
  exact N8 x4 n 0 _ _ _ h hP hD hS (lv_sub hl [2, 3, 4, 1, 0] rfl)
