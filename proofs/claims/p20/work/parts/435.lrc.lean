abbrev vsX11_where : List Cond := Cond.code yX11_where cX11_where 9 (some .int) :: WS
abbrev rmX11_where : Room := { frames := 5, cells := 0, slots := 0, locals := 127 }
set_option maxHeartbeats 4000000 in
set_option maxRecDepth 100000 in
theorem k_X11_where (l : Launch) (D : va_G) (C : Nat → ClassId) (sz : Nat) (L0 : Nat) (aU : Nat → Nat) (aR : Nat → Nat) (aR2 : Nat → Nat) (aS : Nat → Nat) (n0 : Nat) (aN : Nat → Nat) (y0 : Nat) (y1 : Nat) (y2 : Nat) (o0 : Nat) (h_images : Nat) (us : Nat → Int32) (ua : Nat → Nat → Int32) (rs : Nat → Int32) (ra : Nat → Nat → Int32) (rs2 : Nat → Int32) (ra2 : Nat → Nat → Int32) (sa : Nat → Nat → Int32) (sl : Nat → Nat → Int64) (ns : Nat → Int32) (na : Nat → Nat → Int32) (nl : Nat → Nat → Int64) (y_isThere : Int32) (y_taken : Nat → Int32) (y_took : Nat → Int32) (o_of : Nat → Int64) (p1 : Int32) {post : Int32 → (Nat → Int32) → (Nat → Nat → Int32) → (Nat → Int32) → (Nat → Nat → Int32) → (Nat → Nat → Int64) → Prop} (h : P_X11_where rs ra rs2 ra2 ns na nl p1 post) : Met l yX11_where vsX11_where rmX11_where (cPre D C [.ref L0, .int p1] sz ([cLockRail L0 (aU 0) (aR 0) (aR2 0) h_images (aS 0) n0 y0 o0 C ] ++ (wReader aU C us ua ++ (wRail aR C rs ra ++ (wRail aR2 C rs2 ra2 ++ (wSlots aS C sa sl ++ (wNight n0 aN C ns na nl ++ ([cYear y0 y1 y2 C y_isThere y_taken y_took] ++ ([cOb o0 C o_of]))))))))) (cQi D (fun (r : Int32) (u : (Nat → Nat) × (Nat → Int32) × (Nat → Nat → Int32) × (Nat → Int32) × (Nat → Nat → Int32) × (Nat → Nat → Int64)) => post r u.2.1 u.2.2.1 u.2.2.2.1 u.2.2.2.2.1 u.2.2.2.2.2) (fun u => [cLockRail L0 (aU 0) (aR 0) (aR2 0) h_images (aS 0) n0 y0 o0 C ] ++ (wReader aU C us ua ++ (wRail aR C rs ra ++ (wRail aR2 C u.2.1 u.2.2.1 ++ (wSlots aS C sa sl ++ (wNight n0 u.1 C u.2.2.2.1 u.2.2.2.2.1 u.2.2.2.2.2 ++ ([cYear y0 y1 y2 C y_isThere y_taken y_took] ++ ([cOb o0 C o_of])))))))) (va_A (List.flatten ([cLockRail L0 (aU 0) (aR 0) (aR2 0) h_images (aS 0) n0 y0 o0 C ] ++ (wReader aU C us ua ++ (wRail aR C rs ra ++ (wRail aR2 C rs2 ra2 ++ (wSlots aS C sa sl ++ (wNight n0 aN C ns na nl ++ ([cYear y0 y1 y2 C y_isThere y_taken y_took] ++ ([cOb o0 C o_of]))))))))) sz)) 0 0 (va_A (List.flatten ([cLockRail L0 (aU 0) (aR 0) (aR2 0) h_images (aS 0) n0 y0 o0 C ] ++ (wReader aU C us ua ++ (wRail aR C rs ra ++ (wRail aR2 C rs2 ra2 ++ (wSlots aS C sa sl ++ (wNight n0 aN C ns na nl ++ ([cYear y0 y1 y2 C y_isThere y_taken y_took] ++ ([cOb o0 C o_of]))))))))) sz) := by
  refine cStart (QA := fun A => cQi D (fun (r : Int32) (u : (Nat → Nat) × (Nat → Int32) × (Nat → Nat → Int32) × (Nat → Int32) × (Nat → Nat → Int32) × (Nat → Nat → Int64)) => post r u.2.1 u.2.2.1 u.2.2.2.1 u.2.2.2.2.1 u.2.2.2.2.2) (fun u => [cLockRail L0 (aU 0) (aR 0) (aR2 0) h_images (aS 0) n0 y0 o0 C ] ++ (wReader aU C us ua ++ (wRail aR C rs ra ++ (wRail aR2 C u.2.1 u.2.2.1 ++ (wSlots aS C sa sl ++ (wNight n0 u.1 C u.2.2.2.1 u.2.2.2.2.1 u.2.2.2.2.2 ++ ([cYear y0 y1 y2 C y_isThere y_taken y_took] ++ ([cOb o0 C o_of])))))))) A) (cc := cX11_where) (maxL := 9) (ret := (some .int)) (by decide) (Nat.le_of_ble_eq_true rfl) ?_
  intro p e s m args below meth c A ls hx hb hr hml hown hw hlocks hname hK hN hA hP hD hS hl
  generalize hQ : MQ below _ args s 0 0 A = Q
  have hl : lv_has ls 9 [(0, .ref L0), (1, .int p1)] := hl
  have hn97 : (Cond.fieldLinkNest "LockRail" 97 "LockRail$Rail" "bikes" "LLockRail$Bikes;" "LockRail").before args s = true := hN.f 61 rfl
  have hn110 : (Cond.fieldLinkNest "LockRail" 110 "LockRail$Bikes" "place" "[I" "LockRail").before args s = true := hN.f 27 rfl
  have hn232 : (Cond.fieldLinkNest "LockRail" 232 "LockRail$Rail" "places" "I" "LockRail").before args s = true := hN.f 49 rfl
  obtain ⟨H, hH⟩ : ∃ H, H = s.heap := ⟨_, rfl⟩
  obtain ⟨locs, hlo⟩ : ∃ z : List Loc, z = [] := ⟨_, rfl⟩
  have hP : va_P D vwCl (List.flatten ([cLockRail L0 (aU 0) (aR 0) (aR2 0) h_images (aS 0) n0 y0 o0 C ] ++ (wReader aU C us ua ++ (wRail aR C rs ra ++ (wRail aR2 C rs2 ra2 ++ (wSlots aS C sa sl ++ (wNight n0 aN C ns na nl ++ ([cYear y0 y1 y2 C y_isThere y_taken y_took] ++ ([cOb o0 C o_of]))))))))) H := by rw [hH]; exact hP
  have hS : va_S A s.heap H locs := by rw [hH, hlo]; exact hS
  rw [show W p l e rmX11_where s m args below meth c s.heap [] 0 0 Q (F0 m 0 ls []) = W p l e rmX11_where s m args below meth c H locs 0 0 Q (F0 m 0 ls []) from by rw [hH, hlo]]
  have N34 : ∀ (rs2 : Nat → Int32) (n34 : Nat) (x2_ : Int32) (x3_ : Int64) (x5_ : Int32) (ra2 : Nat → Nat → Int32) (ns : Nat → Int32) (na : Nat → Nat → Int32) (nl : Nat → Nat → Int64) (aN : Nat → Nat) (H : Heap) (locs : List Loc) (ls : Array Slot), P_X11_where_34 rs ra p1 post  rs2 n34 x2_ x3_ x5_ ra2 ns na nl → va_P D vwCl (List.flatten ([cLockRail L0 (aU 0) (aR 0) (aR2 0) h_images (aS 0) n0 y0 o0 C ] ++ (wReader aU C us ua ++ (wRail aR C rs ra ++ (wRail aR2 C rs2 ra2 ++ (wSlots aS C sa sl ++ (wNight n0 aN C ns na nl ++ ([cYear y0 y1 y2 C y_isThere y_taken y_took] ++ ([cOb o0 C o_of]))))))))) H → va_D A (List.flatten ([cLockRail L0 (aU 0) (aR 0) (aR2 0) h_images (aS 0) n0 y0 o0 C ] ++ (wReader aU C us ua ++ (wRail aR C rs ra ++ (wRail aR2 C rs2 ra2 ++ (wSlots aS C sa sl ++ (wNight n0 aN C ns na nl ++ ([cYear y0 y1 y2 C y_isThere y_taken y_took] ++ ([cOb o0 C o_of]))))))))) → va_S A s.heap H locs → lv_has ls 9 [(0, .ref L0), (1, .int p1), (2, .int x2_), (3, .long x3_), (5, .int x5_)] → W p l e rmX11_where s m args below meth c H locs 0 0 Q (F0 m 34 ls []) := by
    intro rs2
    intro n34
    induction n34 with
    | zero => intro x2_ x3_ x5_ ra2 ns na nl aN H locs ls h hP hD hS hl; exact False.elim h
    | succ n34 ih34 =>
      have N75 : ∀ (x2_ : Int32) (x3_ : Int64) (x5_ : Int32) (ra2 : Nat → Nat → Int32) (ns : Nat → Int32) (na : Nat → Nat → Int32) (nl : Nat → Nat → Int64) (aN : Nat → Nat) (H : Heap) (locs : List Loc) (ls : Array Slot), P_X11_where_75 rs ra p1 rs2 post (P_X11_where_34 rs ra p1 post  rs2 n34) x2_ x3_ x5_ ra2 ns na nl → va_P D vwCl (List.flatten ([cLockRail L0 (aU 0) (aR 0) (aR2 0) h_images (aS 0) n0 y0 o0 C ] ++ (wReader aU C us ua ++ (wRail aR C rs ra ++ (wRail aR2 C rs2 ra2 ++ (wSlots aS C sa sl ++ (wNight n0 aN C ns na nl ++ ([cYear y0 y1 y2 C y_isThere y_taken y_took] ++ ([cOb o0 C o_of]))))))))) H → va_D A (List.flatten ([cLockRail L0 (aU 0) (aR 0) (aR2 0) h_images (aS 0) n0 y0 o0 C ] ++ (wReader aU C us ua ++ (wRail aR C rs ra ++ (wRail aR2 C rs2 ra2 ++ (wSlots aS C sa sl ++ (wNight n0 aN C ns na nl ++ ([cYear y0 y1 y2 C y_isThere y_taken y_took] ++ ([cOb o0 C o_of]))))))))) → va_S A s.heap H locs → lv_has ls 9 [(0, .ref L0), (1, .int p1), (2, .int x2_), (3, .long x3_), (5, .int x5_)] → W p l e rmX11_where s m args below meth c H locs 0 0 Q (F0 m 75 ls []) := by
        intro x2_ x3_ x5_ ra2 ns na nl aN H locs ls h hP hD hS hl
        refine lv_aload_n hx hb dX11_where_75 rfl (lv_at hl 0 rfl) ?_
        refine va_get (D := D) (ci := 11) (v := .ref (aR2 0)) (C := RX11) (T := TX11) (N := 8) hx hb hw inW_X11 hown hK hP 0 rfl rfl 2 (by decide) (hw _ mw_2_145) (fun _ h9 => h9) rfl dX11_where_76 ?_
        refine va_getN (D := D) (ci := 4) (v := .ref (aR2 7)) (C := RX4) (T := TX4) (N := 16) hx hb hw inW_X4 hown hK hP 26 rfl rfl 5 (by decide) hn97 (fun _ h9 => h9) rfl dX11_where_79 ?_
        refine va_getN (D := D) (ci := 0) (v := .ref (aR2 10)) (C := RX0) (T := TX0) (N := 6) hx hb hw inW_X0 hown hK hP 33 rfl rfl 3 (by decide) hn110 (fun _ h9 => h9) rfl dX11_where_82 ?_
        refine lv_iload_n hx hb dX11_where_85 rfl (lv_at hl 1 rfl) ?_
        refine lv_iload hx hb dX11_where_86 (lv_at hl 4 rfl) ?_
        refine cIast hx hb hK hP hD hS 36 0 rfl rfl p1.toNatClampNeg rfl h.1 dX11_where_88 (fun H locs hP hD hS => ?_)
        have h := h.2
        refine lv_aload_n hx hb dX11_where_89 rfl (lv_at hl 0 rfl) ?_
        refine lv_aload_n hx hb dX11_where_90 rfl (lv_at hl 0 rfl) ?_
        refine va_get (D := D) (ci := 11) (v := .ref (aR2 0)) (C := RX11) (T := TX11) (N := 8) hx hb hw inW_X11 hown hK hP 0 rfl rfl 2 (by decide) (hw _ mw_2_145) (fun _ h9 => h9) rfl dX11_where_91 ?_
        refine lv_iload_n hx hb dX11_where_94 rfl (lv_at hl 1 rfl) ?_
        have hP : va_P D vwCl (List.flatten ([cLockRail L0 (aU 0) (aR 0) (aR2 0) h_images (aS 0) n0 y0 o0 C ] ++ (wReader aU C us ua ++ (wRail aR C rs ra ++ (wRail aR2 C rs2 (va_up ra2 6 (upd (ra2 6) p1.toNatClampNeg x5_)) ++ (wSlots aS C sa sl ++ (wNight n0 aN C ns na nl ++ ([cYear y0 y1 y2 C y_isThere y_taken y_took] ++ ([cOb o0 C o_of]))))))))) H := hP
        have hD : va_D A (List.flatten ([cLockRail L0 (aU 0) (aR 0) (aR2 0) h_images (aS 0) n0 y0 o0 C ] ++ (wReader aU C us ua ++ (wRail aR C rs ra ++ (wRail aR2 C rs2 (va_up ra2 6 (upd (ra2 6) p1.toNatClampNeg x5_)) ++ (wSlots aS C sa sl ++ (wNight n0 aN C ns na nl ++ ([cYear y0 y1 y2 C y_isThere y_taken y_took] ++ ([cOb o0 C o_of]))))))))) := hD
        refine gs_L21_54 (rs_V21_42 (As := [.ref (aR2 0), .int p1]) (rest := []) ⟨hx, hb, hml, hown, hw⟩ hK hN hP hD (k_X11_costOn l D C _ L0 aR2 n0 aN (aU 0) (aR 0) (aR2 0) h_images (aS 0) y0 o0  rs2 (va_up ra2 6 (upd (ra2 6) p1.toNatClampNeg x5_)) ns na nl p1 h) (cwV 2 hw (goodV mw_4_158 mw_4_160 mw_s69 mw_1_1 mw_4_161) rfl rfl rfl (by decide +kernel) ⟨Nat.le_of_ble_eq_true rfl, Nat.le_of_ble_eq_true rfl⟩) rfl rfl rfl hl.1 rfl (Nat.le_of_ble_eq_true rfl) dX11_where_95 ⟨Nat.zero_le _, Nat.zero_le _⟩) hP hD hS hA (fun r5 u H locs h hP hD hS => ?_)
        obtain ⟨aN1, ns_2, na_3, nl_4⟩ := u
        have hP : va_P D vwCl (List.flatten ([cLockRail L0 (aU 0) (aR 0) (aR2 0) h_images (aS 0) n0 y0 o0 C ] ++ (wReader aU C us ua ++ (wRail aR C rs ra ++ (wRail aR2 C rs2 (va_up ra2 6 (upd (ra2 6) p1.toNatClampNeg x5_)) ++ (wSlots aS C sa sl ++ (wNight n0 aN1 C ns_2 na_3 nl_4 ++ ([cYear y0 y1 y2 C y_isThere y_taken y_took] ++ ([cOb o0 C o_of]))))))))) H := hP
        have hD : va_D A (List.flatten ([cLockRail L0 (aU 0) (aR 0) (aR2 0) h_images (aS 0) n0 y0 o0 C ] ++ (wReader aU C us ua ++ (wRail aR C rs ra ++ (wRail aR2 C rs2 (va_up ra2 6 (upd (ra2 6) p1.toNatClampNeg x5_)) ++ (wSlots aS C sa sl ++ (wNight n0 aN1 C ns_2 na_3 nl_4 ++ ([cYear y0 y1 y2 C y_isThere y_taken y_took] ++ ([cOb o0 C o_of]))))))))) := hD
        refine lv_lstore (lv' := [(7, .long r5), (0, .ref L0), (1, .int p1), (2, .int x2_), (3, .long x3_), (5, .int x5_)]) hx hb dX11_where_98 hl (by decide) rfl (fun ls hl => ?_)
        refine lv_lload hx hb dX11_where_100 (lv_at hl 0 rfl) ?_
        refine lv_lload_n hx hb dX11_where_102 rfl (lv_at hl 4 rfl) ?_
        refine W.lcmp hx hb dX11_where_103 ?_
        refine lv_if_ge (tgt := 113) hx hb dX11_where_104 (by decide) (fun c6 => ?_) (fun c6 => ?_)
        · have c6 : x3_ ≤ r5 := (lg_cmp_ge _ _).mp c6
          have h := h.1 c6
          refine lv_iinc (v := (x5_ + 1)) (lv' := [(5, .int (x5_ + 1)), (7, .long r5), (0, .ref L0), (1, .int p1), (2, .int x2_), (3, .long x3_)]) hx hb dX11_where_113 hl (k := 5) rfl rfl (by decide) rfl (fun ls hl => ?_)
          refine lv_goto (tgt := 34) hx hb dX11_where_116 (by decide) ?_
          exact ih34 x2_ x3_ (x5_ + 1) (va_up ra2 6 (upd (ra2 6) p1.toNatClampNeg x5_)) ns_2 na_3 nl_4 aN1 _ _ _ h hP hD hS (lv_sub hl [2, 3, 4, 5, 0] rfl)
        · have c6 : ¬ x3_ ≤ r5 := fun q => c6 ((lg_cmp_ge _ _).mpr q)
          have h := h.2 c6
          refine lv_lload hx hb dX11_where_107 (lv_at hl 0 rfl) ?_
          refine lv_lstore_n (lv' := [(3, .long r5), (7, .long r5), (0, .ref L0), (1, .int p1), (2, .int x2_), (5, .int x5_)]) hx hb dX11_where_109 rfl hl (by decide) rfl (fun ls hl => ?_)
          refine lv_iload hx hb dX11_where_110 (lv_at hl 5 rfl) ?_
          refine lv_istore_n (lv' := [(2, .int x5_), (3, .long r5), (7, .long r5), (0, .ref L0), (1, .int p1), (5, .int x5_)]) hx hb dX11_where_112 rfl hl (by decide) rfl (fun ls hl => ?_)
          refine lv_iinc (v := (x5_ + 1)) (lv' := [(5, .int (x5_ + 1)), (2, .int x5_), (3, .long r5), (7, .long r5), (0, .ref L0), (1, .int p1)]) hx hb dX11_where_113 hl (k := 5) rfl rfl (by decide) rfl (fun ls hl => ?_)
          refine lv_goto (tgt := 34) hx hb dX11_where_116 (by decide) ?_
          exact ih34 x5_ r5 (x5_ + 1) (va_up ra2 6 (upd (ra2 6) p1.toNatClampNeg x5_)) ns_2 na_3 nl_4 aN1 _ _ _ h hP hD hS (lv_sub hl [4, 5, 1, 2, 0] rfl)
      intro x2_ x3_ x5_ ra2 ns na nl aN H locs ls h hP hD hS hl
      refine lv_iload hx hb dX11_where_34 (lv_at hl 4 rfl) ?_
      refine lv_aload_n hx hb dX11_where_36 rfl (lv_at hl 0 rfl) ?_
      refine va_get (D := D) (ci := 11) (v := .ref (aR 0)) (C := RX11) (T := TX11) (N := 8) hx hb hw inW_X11 hown hK hP 0 rfl rfl 1 (by decide) (hw _ mw_2_144) (fun _ h9 => h9) rfl dX11_where_37 ?_
      refine va_getN (D := D) (ci := 4) (v := .int (rs 0)) (C := RX4) (T := TX4) (N := 16) hx hb hw inW_X4 hown hK hP 4 rfl rfl 0 (by decide) hn232 (fun _ h9 => h9) rfl dX11_where_40 ?_
      refine lv_icmp_ge (tgt := 119) hx hb dX11_where_43 (by decide) (fun c7 => ?_) (fun c7 => ?_)
      · have h := h.1 c7
        refine lv_iload_n hx hb dX11_where_119 rfl (lv_at hl 2 rfl) ?_
        rw [← hQ]
        exact cRetI (v := x2_) (aN, rs2, ra2, ns, na, nl) hx hb hr hlocks hS hP hD h dX11_where_120
      · have h := h.2 c7
        refine lv_aload_n hx hb dX11_where_46 rfl (lv_at hl 0 rfl) ?_
        refine va_get (D := D) (ci := 11) (v := .ref (aR 0)) (C := RX11) (T := TX11) (N := 8) hx hb hw inW_X11 hown hK hP 0 rfl rfl 1 (by decide) (hw _ mw_2_144) (fun _ h9 => h9) rfl dX11_where_47 ?_
        refine va_getN (D := D) (ci := 4) (v := .ref (aR 7)) (C := RX4) (T := TX4) (N := 16) hx hb hw inW_X4 hown hK hP 4 rfl rfl 5 (by decide) hn97 (fun _ h9 => h9) rfl dX11_where_50 ?_
        refine lv_iload hx hb dX11_where_53 (lv_at hl 4 rfl) ?_
        refine gs_I21_42 (rs_VN21_35 (As := [.int x5_]) (rest := []) ⟨hx, hb, hml, hown, hw⟩ hK hN hP hD (k_X0_standingAt l D C _ (aR 7) (aR 8) (aR 9) (aR 10) (aR 11) (aR 12)  (rs 13) (ra 4) (ra 5) (ra 6) (ra 7) (ra 8) x5_ h) ⟨va_cnB 1 hw (goodN mw_3_80) rfl rfl rfl (hN.m 60 rfl) (hw _ mw_1_7) (by decide +kernel) ⟨Nat.le_of_ble_eq_true rfl, Nat.le_of_ble_eq_true rfl⟩, hw _ mw_3_79, hw _ mw_s18⟩ rfl rfl rfl hl.1 rfl (Nat.le_of_ble_eq_true rfl) dX11_where_55 ⟨Nat.zero_le _, Nat.zero_le _⟩) hP hD hS hA (fun r8 u H locs h hP hD hS => ?_)
        have hP : va_P D vwCl (List.flatten ([cLockRail L0 (aU 0) (aR 0) (aR2 0) h_images (aS 0) n0 y0 o0 C ] ++ (wReader aU C us ua ++ (wRail aR C rs ra ++ (wRail aR2 C rs2 ra2 ++ (wSlots aS C sa sl ++ (wNight n0 aN C ns na nl ++ ([cYear y0 y1 y2 C y_isThere y_taken y_took] ++ ([cOb o0 C o_of]))))))))) H := hP
        have hD : va_D A (List.flatten ([cLockRail L0 (aU 0) (aR 0) (aR2 0) h_images (aS 0) n0 y0 o0 C ] ++ (wReader aU C us ua ++ (wRail aR C rs ra ++ (wRail aR2 C rs2 ra2 ++ (wSlots aS C sa sl ++ (wNight n0 aN C ns na nl ++ ([cYear y0 y1 y2 C y_isThere y_taken y_took] ++ ([cOb o0 C o_of]))))))))) := hD
        refine lv_istore (lv' := [(6, .int r8), (0, .ref L0), (1, .int p1), (2, .int x2_), (3, .long x3_), (5, .int x5_)]) hx hb dX11_where_58 hl (by decide) rfl (fun ls hl => ?_)
        refine lv_iload hx hb dX11_where_60 (lv_at hl 0 rfl) ?_
        refine lv_iconst (v := (-1)) hx hb dX11_where_62 (by decide) ?_
        refine lv_icmp_eq (tgt := 75) hx hb dX11_where_63 (by decide) (fun c9 => ?_) (fun c9 => ?_)
        · have h := h.1 c9
          exact N75 x2_ x3_ x5_ ra2 ns na nl aN _ _ _ h hP hD hS (lv_sub hl [1, 2, 3, 4, 5] rfl)
        · have h := h.2 c9
          refine lv_iload hx hb dX11_where_66 (lv_at hl 0 rfl) ?_
          refine lv_iload_n hx hb dX11_where_68 rfl (lv_at hl 2 rfl) ?_
          refine lv_icmp_eq (tgt := 75) hx hb dX11_where_69 (by decide) (fun c10 => ?_) (fun c10 => ?_)
          · have h := h.1 c10
            exact N75 x2_ x3_ x5_ ra2 ns na nl aN _ _ _ h hP hD hS (lv_sub hl [1, 2, 3, 4, 5] rfl)
          · have h := h.2 c10
            refine lv_goto (tgt := 113) hx hb dX11_where_72 (by decide) ?_
            refine lv_iinc (v := (x5_ + 1)) (lv' := [(5, .int (x5_ + 1)), (6, .int r8), (0, .ref L0), (1, .int p1), (2, .int x2_), (3, .long x3_)]) hx hb dX11_where_113 hl (k := 5) rfl rfl (by decide) rfl (fun ls hl => ?_)
            refine lv_goto (tgt := 34) hx hb dX11_where_116 (by decide) ?_
            exact ih34 x2_ x3_ (x5_ + 1) ra2 ns na nl aN _ _ _ h hP hD hS (lv_sub hl [2, 3, 4, 5, 0] rfl)
  refine lv_aload_n hx hb dX11_where_0 rfl (lv_at hl 0 rfl) ?_
  refine va_get (D := D) (ci := 11) (v := .ref (aR 0)) (C := RX11) (T := TX11) (N := 8) hx hb hw inW_X11 hown hK hP 0 rfl rfl 1 (by decide) (hw _ mw_2_144) (fun _ h9 => h9) rfl dX11_where_1 ?_
  refine lv_iload_n hx hb dX11_where_4 rfl (lv_at hl 1 rfl) ?_
  refine gs_I21_41 (rs_VN21_34 (As := [.int p1]) (rest := []) ⟨hx, hb, hml, hown, hw⟩ hK hN hP hD (k_X4_hasBike l D C _ aR  rs ra p1 h) ⟨va_cnB 1 hw (goodN mw_3_183) rfl rfl rfl (hN.m 31 rfl) (hw _ mw_1_4) (by decide +kernel) ⟨Nat.le_of_ble_eq_true rfl, Nat.le_of_ble_eq_true rfl⟩, hw _ mw_3_182, hw _ mw_s34⟩ rfl rfl rfl hl.1 rfl (Nat.le_of_ble_eq_true rfl) dX11_where_5 ⟨Nat.zero_le _, Nat.zero_le _⟩) hP hD hS hA (fun r11 u H locs h hP hD hS => ?_)
  have hP : va_P D vwCl (List.flatten ([cLockRail L0 (aU 0) (aR 0) (aR2 0) h_images (aS 0) n0 y0 o0 C ] ++ (wReader aU C us ua ++ (wRail aR C rs ra ++ (wRail aR2 C rs2 ra2 ++ (wSlots aS C sa sl ++ (wNight n0 aN C ns na nl ++ ([cYear y0 y1 y2 C y_isThere y_taken y_took] ++ ([cOb o0 C o_of]))))))))) H := hP
  have hD : va_D A (List.flatten ([cLockRail L0 (aU 0) (aR 0) (aR2 0) h_images (aS 0) n0 y0 o0 C ] ++ (wReader aU C us ua ++ (wRail aR C rs ra ++ (wRail aR2 C rs2 ra2 ++ (wSlots aS C sa sl ++ (wNight n0 aN C ns na nl ++ ([cYear y0 y1 y2 C y_isThere y_taken y_took] ++ ([cOb o0 C o_of]))))))))) := hD
  refine lv_if_ne (tgt := 14) hx hb dX11_where_8 (by decide) (fun c12 => ?_) (fun c12 => ?_)
  · have h := h.1 c12
    refine lv_aload_n hx hb dX11_where_14 rfl (lv_at hl 0 rfl) ?_
    refine va_get (D := D) (ci := 11) (v := .ref (aR2 0)) (C := RX11) (T := TX11) (N := 8) hx hb hw inW_X11 hown hK hP 0 rfl rfl 2 (by decide) (hw _ mw_2_145) (fun _ h9 => h9) rfl dX11_where_15 ?_
    refine lv_aload_n hx hb dX11_where_18 rfl (lv_at hl 0 rfl) ?_
    refine va_get (D := D) (ci := 11) (v := .ref (aR 0)) (C := RX11) (T := TX11) (N := 8) hx hb hw inW_X11 hown hK hP 0 rfl rfl 1 (by decide) (hw _ mw_2_144) (fun _ h9 => h9) rfl dX11_where_19 ?_
    refine gs_V21_52 (rs_VN21_40 (As := [.ref (aR 0)]) (rest := []) ⟨hx, hb, hml, hown, hw⟩ hK hN hP hD (k_X4_copyFrom l D C _ aR2 aR  rs2 ra2 rs ra  h) ⟨va_cnB 1 hw (goodN mw_3_126) rfl rfl rfl (hN.m 23 rfl) (hw _ mw_1_4) (by decide +kernel) ⟨Nat.le_of_ble_eq_true rfl, Nat.le_of_ble_eq_true rfl⟩, hw _ mw_3_125, hw _ mw_s26⟩ rfl rfl rfl hl.1 rfl (Nat.le_of_ble_eq_true rfl) dX11_where_22 ⟨Nat.zero_le _, Nat.zero_le _⟩) hP hD hS hA (fun u H locs h hP hD hS => ?_)
    obtain ⟨rs_13, ra_14⟩ := u
    have hP : va_P D vwCl (List.flatten ([cLockRail L0 (aU 0) (aR 0) (aR2 0) h_images (aS 0) n0 y0 o0 C ] ++ (wReader aU C us ua ++ (wRail aR C rs ra ++ (wRail aR2 C rs_13 ra_14 ++ (wSlots aS C sa sl ++ (wNight n0 aN C ns na nl ++ ([cYear y0 y1 y2 C y_isThere y_taken y_took] ++ ([cOb o0 C o_of]))))))))) H := hP
    have hD : va_D A (List.flatten ([cLockRail L0 (aU 0) (aR 0) (aR2 0) h_images (aS 0) n0 y0 o0 C ] ++ (wReader aU C us ua ++ (wRail aR C rs ra ++ (wRail aR2 C rs_13 ra_14 ++ (wSlots aS C sa sl ++ (wNight n0 aN C ns na nl ++ ([cYear y0 y1 y2 C y_isThere y_taken y_took] ++ ([cOb o0 C o_of]))))))))) := hD
    refine lv_iconst (v := (-1)) hx hb dX11_where_25 (by decide) ?_
    refine lv_istore_n (lv' := [(2, .int (-1)), (0, .ref L0), (1, .int p1)]) hx hb dX11_where_26 rfl hl (by decide) rfl (fun ls hl => ?_)
    refine lv_ldc2 (v := 9223372036854775807) hx hb hown (hw _ mw_4_170) dX11_where_27 ?_
    refine lv_lstore_n (lv' := [(3, .long 9223372036854775807), (2, .int (-1)), (0, .ref L0), (1, .int p1)]) hx hb dX11_where_30 rfl hl (by decide) rfl (fun ls hl => ?_)
    refine lv_iconst (v := 0) hx hb dX11_where_31 (by decide) ?_
    refine lv_istore (lv' := [(5, .int 0), (3, .long 9223372036854775807), (2, .int (-1)), (0, .ref L0), (1, .int p1)]) hx hb dX11_where_32 hl (by decide) rfl (fun ls hl => ?_)
    obtain ⟨n, h⟩ := h
    exact N34 rs_13 n (-1) 9223372036854775807 0 ra_14 ns na nl aN _ _ _ h hP hD hS (lv_sub hl [3, 4, 2, 1, 0] rfl)
  · have h := h.2 c12
    refine lv_bipush (v := (-2)) hx hb dX11_where_11 (by decide) ?_
    rw [← hQ]
    exact cRetI (v := (-2)) (aN, rs2, ra2, ns, na, nl) hx hb hr hlocks hS hP hD h dX11_where_13
abbrev vsX11_isBright : List Cond := Cond.code yX11_isBright cX11_isBright 1 (some .boolean) :: WS
abbrev rmX11_isBright : Room := { frames := 0, cells := 0, slots := 0, locals := 0 }
set_option maxHeartbeats 4000000 in
set_option maxRecDepth 100000 in
theorem k_X11_isBright (l : Launch) (D : va_G) (C : Nat → ClassId) (sz : Nat)    (p1 : Int32) {post : Int32 → Prop} (h : P_X11_isBright p1 post) : Met l yX11_isBright vsX11_isBright rmX11_isBright (cPre D C [.int p1] sz (([] : List va_W))) (cQi D (fun (r : Int32) (u : Unit) => post r ) (fun u => ([] : List va_W)) (va_A (List.flatten (([] : List va_W))) sz)) 0 0 (va_A (List.flatten (([] : List va_W))) sz) := by
  refine cStart (QA := fun A => cQi D (fun (r : Int32) (u : Unit) => post r ) (fun u => ([] : List va_W)) A) (cc := cX11_isBright) (maxL := 1) (ret := (some .boolean)) (by decide) (Nat.le_of_ble_eq_true rfl) ?_
  intro p e s m args below meth c A ls hx hb hr hml hown hw hlocks hname hK hN hA hP hD hS hl
  generalize hQ : MQ below _ args s 0 0 A = Q
  have hl : lv_has ls 1 [(0, .int p1)] := hl
  obtain ⟨H, hH⟩ : ∃ H, H = s.heap := ⟨_, rfl⟩
  obtain ⟨locs, hlo⟩ : ∃ z : List Loc, z = [] := ⟨_, rfl⟩
  have hP : va_P D vwCl (List.flatten (([] : List va_W))) H := by rw [hH]; exact hP
  have hS : va_S A s.heap H locs := by rw [hH, hlo]; exact hS
  rw [show W p l e rmX11_isBright s m args below meth c s.heap [] 0 0 Q (F0 m 0 ls []) = W p l e rmX11_isBright s m args below meth c H locs 0 0 Q (F0 m 0 ls []) from by rw [hH, hlo]]
  refine lv_iload_n hx hb dX11_isBright_0 rfl (lv_at hl 0 rfl) ?_
  refine lv_if_lt (tgt := 14) hx hb dX11_isBright_1 (by decide) (fun c1 => ?_) (fun c1 => ?_)
  · have h := h.1 c1
    refine lv_iconst (v := 0) hx hb dX11_isBright_14 (by decide) ?_
    rw [← hQ]
    exact cRetZ (v := 0) () hx hb hr hlocks hS hP hD (Or.inl rfl) h dX11_isBright_15
  · have h := h.2 c1
    refine lv_iload_n hx hb dX11_isBright_4 rfl (lv_at hl 0 rfl) ?_
    refine lv_bipush (v := 99) hx hb dX11_isBright_5 (by decide) ?_
    refine lv_icmp_gt (tgt := 14) hx hb dX11_isBright_7 (by decide) (fun c2 => ?_) (fun c2 => ?_)
    · have h := h.1 c2
      refine lv_iconst (v := 0) hx hb dX11_isBright_14 (by decide) ?_
      rw [← hQ]
      exact cRetZ (v := 0) () hx hb hr hlocks hS hP hD (Or.inl rfl) h dX11_isBright_15
    · have h := h.2 c2
      refine lv_iconst (v := 1) hx hb dX11_isBright_10 (by decide) ?_
      refine lv_goto (tgt := 15) hx hb dX11_isBright_11 (by decide) ?_
      rw [← hQ]
      exact cRetZ (v := 1) () hx hb hr hlocks hS hP hD (Or.inr rfl) h dX11_isBright_15
abbrev vsX11_lossLit : List Cond := Cond.code yX11_lossLit cX11_lossLit 3 (some .long) :: WS
abbrev rmX11_lossLit : Room := { frames := 5, cells := 0, slots := 0, locals := 127 }
set_option maxHeartbeats 4000000 in
set_option maxRecDepth 100000 in
theorem k_X11_lossLit (l : Launch) (D : va_G) (C : Nat → ClassId) (sz : Nat) (L0 : Nat) (aR : Nat → Nat) (aR2 : Nat → Nat) (n0 : Nat) (aN : Nat → Nat) (h_reader : Nat) (h_images : Nat) (h_slots : Nat) (h_triedYear : Nat) (h_ofBikes : Nat) (rs : Nat → Int32) (ra : Nat → Nat → Int32) (rs2 : Nat → Int32) (ra2 : Nat → Nat → Int32) (ns : Nat → Int32) (na : Nat → Nat → Int32) (nl : Nat → Nat → Int64) (p1 : Int32) (p2 : Int32) {post : Int64 → (Nat → Int32) → (Nat → Nat → Int32) → (Nat → Int32) → (Nat → Nat → Int32) → (Nat → Nat → Int64) → Prop} (h : P_X11_lossLit rs ra rs2 ra2 ns na nl p1 p2 post) : Met l yX11_lossLit vsX11_lossLit rmX11_lossLit (cPre D C [.ref L0, .int p1, .int p2] sz ([cLockRail L0 h_reader (aR 0) (aR2 0) h_images h_slots n0 h_triedYear h_ofBikes C ] ++ (wRail aR C rs ra ++ (wRail aR2 C rs2 ra2 ++ (wNight n0 aN C ns na nl))))) (cQl D (fun (r : Int64) (u : (Nat → Nat) × (Nat → Int32) × (Nat → Nat → Int32) × (Nat → Int32) × (Nat → Nat → Int32) × (Nat → Nat → Int64)) => post r u.2.1 u.2.2.1 u.2.2.2.1 u.2.2.2.2.1 u.2.2.2.2.2) (fun u => [cLockRail L0 h_reader (aR 0) (aR2 0) h_images h_slots n0 h_triedYear h_ofBikes C ] ++ (wRail aR C rs ra ++ (wRail aR2 C u.2.1 u.2.2.1 ++ (wNight n0 u.1 C u.2.2.2.1 u.2.2.2.2.1 u.2.2.2.2.2)))) (va_A (List.flatten ([cLockRail L0 h_reader (aR 0) (aR2 0) h_images h_slots n0 h_triedYear h_ofBikes C ] ++ (wRail aR C rs ra ++ (wRail aR2 C rs2 ra2 ++ (wNight n0 aN C ns na nl))))) sz)) 0 0 (va_A (List.flatten ([cLockRail L0 h_reader (aR 0) (aR2 0) h_images h_slots n0 h_triedYear h_ofBikes C ] ++ (wRail aR C rs ra ++ (wRail aR2 C rs2 ra2 ++ (wNight n0 aN C ns na nl))))) sz) := by
  refine cStart (QA := fun A => cQl D (fun (r : Int64) (u : (Nat → Nat) × (Nat → Int32) × (Nat → Nat → Int32) × (Nat → Int32) × (Nat → Nat → Int32) × (Nat → Nat → Int64)) => post r u.2.1 u.2.2.1 u.2.2.2.1 u.2.2.2.2.1 u.2.2.2.2.2) (fun u => [cLockRail L0 h_reader (aR 0) (aR2 0) h_images h_slots n0 h_triedYear h_ofBikes C ] ++ (wRail aR C rs ra ++ (wRail aR2 C u.2.1 u.2.2.1 ++ (wNight n0 u.1 C u.2.2.2.1 u.2.2.2.2.1 u.2.2.2.2.2)))) A) (cc := cX11_lossLit) (maxL := 3) (ret := (some .long)) (by decide) (Nat.le_of_ble_eq_true rfl) ?_
  intro p e s m args below meth c A ls hx hb hr hml hown hw hlocks hname hK hN hA hP hD hS hl
  generalize hQ : MQ below _ args s 0 0 A = Q
  have hl : lv_has ls 3 [(0, .ref L0), (1, .int p1), (2, .int p2)] := hl
  have hn374 : (Cond.fieldLinkNest "LockRail" 374 "LockRail$Rail" "lamps" "LLockRail$Lamps;" "LockRail").before args s = true := hN.f 56 rfl
  obtain ⟨H, hH⟩ : ∃ H, H = s.heap := ⟨_, rfl⟩
  obtain ⟨locs, hlo⟩ : ∃ z : List Loc, z = [] := ⟨_, rfl⟩
  have hP : va_P D vwCl (List.flatten ([cLockRail L0 h_reader (aR 0) (aR2 0) h_images h_slots n0 h_triedYear h_ofBikes C ] ++ (wRail aR C rs ra ++ (wRail aR2 C rs2 ra2 ++ (wNight n0 aN C ns na nl))))) H := by rw [hH]; exact hP
  have hS : va_S A s.heap H locs := by rw [hH, hlo]; exact hS
  rw [show W p l e rmX11_lossLit s m args below meth c s.heap [] 0 0 Q (F0 m 0 ls []) = W p l e rmX11_lossLit s m args below meth c H locs 0 0 Q (F0 m 0 ls []) from by rw [hH, hlo]]
  refine lv_aload_n hx hb dX11_lossLit_0 rfl (lv_at hl 0 rfl) ?_
  refine va_get (D := D) (ci := 11) (v := .ref (aR2 0)) (C := RX11) (T := TX11) (N := 8) hx hb hw inW_X11 hown hK hP 0 rfl rfl 2 (by decide) (hw _ mw_2_145) (fun _ h9 => h9) rfl dX11_lossLit_1 ?_
  refine lv_aload_n hx hb dX11_lossLit_4 rfl (lv_at hl 0 rfl) ?_
  refine va_get (D := D) (ci := 11) (v := .ref (aR 0)) (C := RX11) (T := TX11) (N := 8) hx hb hw inW_X11 hown hK hP 0 rfl rfl 1 (by decide) (hw _ mw_2_144) (fun _ h9 => h9) rfl dX11_lossLit_5 ?_
  refine gs_V16_72 (rs_VN16_55 (As := [.ref (aR 0)]) (rest := []) ⟨hx, hb, hml, hown, hw⟩ hK hN hP hD (k_X4_copyFrom l D C _ aR2 aR  rs2 ra2 rs ra  h) ⟨va_cnB 1 hw (goodN mw_3_126) rfl rfl rfl (hN.m 23 rfl) (hw _ mw_1_4) (by decide +kernel) ⟨Nat.le_of_ble_eq_true rfl, Nat.le_of_ble_eq_true rfl⟩, hw _ mw_3_125, hw _ mw_s26⟩ rfl rfl rfl hl.1 rfl (Nat.le_of_ble_eq_true rfl) dX11_lossLit_8 ⟨Nat.zero_le _, Nat.zero_le _⟩) hP hD hS hA (fun u H locs h hP hD hS => ?_)
  obtain ⟨rs_1, ra_2⟩ := u
  have hP : va_P D vwCl (List.flatten ([cLockRail L0 h_reader (aR 0) (aR2 0) h_images h_slots n0 h_triedYear h_ofBikes C ] ++ (wRail aR C rs ra ++ (wRail aR2 C rs_1 ra_2 ++ (wNight n0 aN C ns na nl))))) H := hP
  have hD : va_D A (List.flatten ([cLockRail L0 h_reader (aR 0) (aR2 0) h_images h_slots n0 h_triedYear h_ofBikes C ] ++ (wRail aR C rs ra ++ (wRail aR2 C rs_1 ra_2 ++ (wNight n0 aN C ns na nl))))) := hD
  refine lv_aload_n hx hb dX11_lossLit_11 rfl (lv_at hl 0 rfl) ?_
  refine va_get (D := D) (ci := 11) (v := .ref (aR2 0)) (C := RX11) (T := TX11) (N := 8) hx hb hw inW_X11 hown hK hP 0 rfl rfl 2 (by decide) (hw _ mw_2_145) (fun _ h9 => h9) rfl dX11_lossLit_12 ?_
  refine va_getN (D := D) (ci := 4) (v := .ref (aR2 1)) (C := RX4) (T := TX4) (N := 16) hx hb hw inW_X4 hown hK hP 23 rfl rfl 3 (by decide) hn374 (fun _ h9 => h9) rfl dX11_lossLit_15 ?_
  refine lv_iload_n hx hb dX11_lossLit_18 rfl (lv_at hl 1 rfl) ?_
  refine lv_iload_n hx hb dX11_lossLit_19 rfl (lv_at hl 2 rfl) ?_
  refine gs_V16_73 (rs_VN16_56 (As := [.int p1, .int p2]) (rest := []) ⟨hx, hb, hml, hown, hw⟩ hK hN hP hD (k_X1_add l D C _ (aR2 1) (aR2 2) (aR2 3)  (rs_1 11) (ra_2 0) (ra_2 1) p1 p2 h) ⟨va_cnB 2 hw (goodN mw_3_58) rfl rfl rfl (hN.m 61 rfl) (hw _ mw_1_5) (by decide +kernel) ⟨Nat.le_of_ble_eq_true rfl, Nat.le_of_ble_eq_true rfl⟩, hw _ mw_3_57, hw _ mw_s14⟩ rfl rfl rfl hl.1 rfl (Nat.le_of_ble_eq_true rfl) dX11_lossLit_20 ⟨Nat.zero_le _, Nat.zero_le _⟩) hP hD hS hA (fun u H locs h hP hD hS => ?_)
  obtain ⟨cou_3, pla_4, bri_5⟩ := u
  have hP : va_P D vwCl (List.flatten ([cLockRail L0 h_reader (aR 0) (aR2 0) h_images h_slots n0 h_triedYear h_ofBikes C ] ++ (wRail aR C rs ra ++ (wRail aR2 C (va_up rs_1 11 cou_3) (va_up (va_up ra_2 0 pla_4) 1 bri_5) ++ (wNight n0 aN C ns na nl))))) H := hP
  have hD : va_D A (List.flatten ([cLockRail L0 h_reader (aR 0) (aR2 0) h_images h_slots n0 h_triedYear h_ofBikes C ] ++ (wRail aR C rs ra ++ (wRail aR2 C (va_up rs_1 11 cou_3) (va_up (va_up ra_2 0 pla_4) 1 bri_5) ++ (wNight n0 aN C ns na nl))))) := hD
  refine lv_aload_n hx hb dX11_lossLit_23 rfl (lv_at hl 0 rfl) ?_
  refine lv_aload_n hx hb dX11_lossLit_24 rfl (lv_at hl 0 rfl) ?_
  refine va_get (D := D) (ci := 11) (v := .ref (aR2 0)) (C := RX11) (T := TX11) (N := 8) hx hb hw inW_X11 hown hK hP 0 rfl rfl 2 (by decide) (hw _ mw_2_145) (fun _ h9 => h9) rfl dX11_lossLit_25 ?_
  refine lv_iconst (v := 1) hx hb dX11_lossLit_28 (by decide) ?_
  refine gs_L16_74 (rs_V16_57 (As := [.ref (aR2 0), .int 1]) (rest := []) ⟨hx, hb, hml, hown, hw⟩ hK hN hP hD (k_X11_allOn l D C _ L0 aR2 n0 aN h_reader (aR 0) (aR2 0) h_images h_slots h_triedYear h_ofBikes  (va_up rs_1 11 cou_3) (va_up (va_up ra_2 0 pla_4) 1 bri_5) ns na nl 1 h) (cwV 2 hw (goodV mw_4_124 mw_4_126 mw_s63 mw_1_1 mw_4_127) rfl rfl rfl (by decide +kernel) ⟨Nat.le_of_ble_eq_true rfl, Nat.le_of_ble_eq_true rfl⟩) rfl rfl rfl hl.1 rfl (Nat.le_of_ble_eq_true rfl) dX11_lossLit_29 ⟨Nat.zero_le _, Nat.zero_le _⟩) hP hD hS hA (fun r10 u H locs h hP hD hS => ?_)
  obtain ⟨aN6, ns_7, na_8, nl_9⟩ := u
  have hP : va_P D vwCl (List.flatten ([cLockRail L0 h_reader (aR 0) (aR2 0) h_images h_slots n0 h_triedYear h_ofBikes C ] ++ (wRail aR C rs ra ++ (wRail aR2 C (va_up rs_1 11 cou_3) (va_up (va_up ra_2 0 pla_4) 1 bri_5) ++ (wNight n0 aN6 C ns_7 na_8 nl_9))))) H := hP
  have hD : va_D A (List.flatten ([cLockRail L0 h_reader (aR 0) (aR2 0) h_images h_slots n0 h_triedYear h_ofBikes C ] ++ (wRail aR C rs ra ++ (wRail aR2 C (va_up rs_1 11 cou_3) (va_up (va_up ra_2 0 pla_4) 1 bri_5) ++ (wNight n0 aN6 C ns_7 na_8 nl_9))))) := hD
  rw [← hQ]
  exact cRetL (v := r10) (aN6, (va_up rs_1 11 cou_3), (va_up (va_up ra_2 0 pla_4) 1 bri_5), ns_7, na_8, nl_9) hx hb hr hlocks hS hP hD h dX11_lossLit_32
abbrev vsX11_lamp : List Cond := Cond.code yX11_lamp cX11_lamp 8 (some .int) :: WS
abbrev rmX11_lamp : Room := { frames := 6, cells := 0, slots := 0, locals := 149 }
set_option maxHeartbeats 4000000 in
set_option maxRecDepth 100000 in
theorem k_X11_lamp (l : Launch) (D : va_G) (C : Nat → ClassId) (sz : Nat) (L0 : Nat) (aU : Nat → Nat) (aR : Nat → Nat) (aR2 : Nat → Nat) (aS : Nat → Nat) (n0 : Nat) (aN : Nat → Nat) (y0 : Nat) (y1 : Nat) (y2 : Nat) (o0 : Nat) (h_images : Nat) (us : Nat → Int32) (ua : Nat → Nat → Int32) (rs : Nat → Int32) (ra : Nat → Nat → Int32) (rs2 : Nat → Int32) (ra2 : Nat → Nat → Int32) (sa : Nat → Nat → Int32) (sl : Nat → Nat → Int64) (ns : Nat → Int32) (na : Nat → Nat → Int32) (nl : Nat → Nat → Int64) (y_isThere : Int32) (y_taken : Nat → Int32) (y_took : Nat → Int32) (o_of : Nat → Int64) (p1 : Int32) {post : Int32 → (Nat → Int32) → (Nat → Nat → Int32) → (Nat → Int32) → (Nat → Nat → Int32) → (Nat → Nat → Int64) → Prop} (h : P_X11_lamp rs ra rs2 ra2 ns na nl p1 post) : Met l yX11_lamp vsX11_lamp rmX11_lamp (cPre D C [.ref L0, .int p1] sz ([cLockRail L0 (aU 0) (aR 0) (aR2 0) h_images (aS 0) n0 y0 o0 C ] ++ (wReader aU C us ua ++ (wRail aR C rs ra ++ (wRail aR2 C rs2 ra2 ++ (wSlots aS C sa sl ++ (wNight n0 aN C ns na nl ++ ([cYear y0 y1 y2 C y_isThere y_taken y_took] ++ ([cOb o0 C o_of]))))))))) (cQi D (fun (r : Int32) (u : (Nat → Nat) × (Nat → Int32) × (Nat → Nat → Int32) × (Nat → Int32) × (Nat → Nat → Int32) × (Nat → Nat → Int64)) => post r u.2.1 u.2.2.1 u.2.2.2.1 u.2.2.2.2.1 u.2.2.2.2.2) (fun u => [cLockRail L0 (aU 0) (aR 0) (aR2 0) h_images (aS 0) n0 y0 o0 C ] ++ (wReader aU C us ua ++ (wRail aR C rs ra ++ (wRail aR2 C u.2.1 u.2.2.1 ++ (wSlots aS C sa sl ++ (wNight n0 u.1 C u.2.2.2.1 u.2.2.2.2.1 u.2.2.2.2.2 ++ ([cYear y0 y1 y2 C y_isThere y_taken y_took] ++ ([cOb o0 C o_of])))))))) (va_A (List.flatten ([cLockRail L0 (aU 0) (aR 0) (aR2 0) h_images (aS 0) n0 y0 o0 C ] ++ (wReader aU C us ua ++ (wRail aR C rs ra ++ (wRail aR2 C rs2 ra2 ++ (wSlots aS C sa sl ++ (wNight n0 aN C ns na nl ++ ([cYear y0 y1 y2 C y_isThere y_taken y_took] ++ ([cOb o0 C o_of]))))))))) sz)) 0 0 (va_A (List.flatten ([cLockRail L0 (aU 0) (aR 0) (aR2 0) h_images (aS 0) n0 y0 o0 C ] ++ (wReader aU C us ua ++ (wRail aR C rs ra ++ (wRail aR2 C rs2 ra2 ++ (wSlots aS C sa sl ++ (wNight n0 aN C ns na nl ++ ([cYear y0 y1 y2 C y_isThere y_taken y_took] ++ ([cOb o0 C o_of]))))))))) sz) := by
  refine cStart (QA := fun A => cQi D (fun (r : Int32) (u : (Nat → Nat) × (Nat → Int32) × (Nat → Nat → Int32) × (Nat → Int32) × (Nat → Nat → Int32) × (Nat → Nat → Int64)) => post r u.2.1 u.2.2.1 u.2.2.2.1 u.2.2.2.2.1 u.2.2.2.2.2) (fun u => [cLockRail L0 (aU 0) (aR 0) (aR2 0) h_images (aS 0) n0 y0 o0 C ] ++ (wReader aU C us ua ++ (wRail aR C rs ra ++ (wRail aR2 C u.2.1 u.2.2.1 ++ (wSlots aS C sa sl ++ (wNight n0 u.1 C u.2.2.2.1 u.2.2.2.2.1 u.2.2.2.2.2 ++ ([cYear y0 y1 y2 C y_isThere y_taken y_took] ++ ([cOb o0 C o_of])))))))) A) (cc := cX11_lamp) (maxL := 8) (ret := (some .int)) (by decide) (Nat.le_of_ble_eq_true rfl) ?_
  intro p e s m args below meth c A ls hx hb hr hml hown hw hlocks hname hK hN hA hP hD hS hl
  generalize hQ : MQ below _ args s 0 0 A = Q
  have hl : lv_has ls 8 [(0, .ref L0), (1, .int p1)] := hl
  have hn232 : (Cond.fieldLinkNest "LockRail" 232 "LockRail$Rail" "places" "I" "LockRail").before args s = true := hN.f 49 rfl
  obtain ⟨H, hH⟩ : ∃ H, H = s.heap := ⟨_, rfl⟩
  obtain ⟨locs, hlo⟩ : ∃ z : List Loc, z = [] := ⟨_, rfl⟩
  have hP : va_P D vwCl (List.flatten ([cLockRail L0 (aU 0) (aR 0) (aR2 0) h_images (aS 0) n0 y0 o0 C ] ++ (wReader aU C us ua ++ (wRail aR C rs ra ++ (wRail aR2 C rs2 ra2 ++ (wSlots aS C sa sl ++ (wNight n0 aN C ns na nl ++ ([cYear y0 y1 y2 C y_isThere y_taken y_took] ++ ([cOb o0 C o_of]))))))))) H := by rw [hH]; exact hP
  have hS : va_S A s.heap H locs := by rw [hH, hlo]; exact hS
  rw [show W p l e rmX11_lamp s m args below meth c s.heap [] 0 0 Q (F0 m 0 ls []) = W p l e rmX11_lamp s m args below meth c H locs 0 0 Q (F0 m 0 ls []) from by rw [hH, hlo]]
  have N29 : ∀  (n29 : Nat) (x2_ : Int32) (x3_ : Int64) (x5_ : Int32) (rs2 : Nat → Int32) (ra2 : Nat → Nat → Int32) (ns : Nat → Int32) (na : Nat → Nat → Int32) (nl : Nat → Nat → Int64) (aN : Nat → Nat) (H : Heap) (locs : List Loc) (ls : Array Slot), P_X11_lamp_29 rs ra p1 post   n29 x2_ x3_ x5_ rs2 ra2 ns na nl → va_P D vwCl (List.flatten ([cLockRail L0 (aU 0) (aR 0) (aR2 0) h_images (aS 0) n0 y0 o0 C ] ++ (wReader aU C us ua ++ (wRail aR C rs ra ++ (wRail aR2 C rs2 ra2 ++ (wSlots aS C sa sl ++ (wNight n0 aN C ns na nl ++ ([cYear y0 y1 y2 C y_isThere y_taken y_took] ++ ([cOb o0 C o_of]))))))))) H → va_D A (List.flatten ([cLockRail L0 (aU 0) (aR 0) (aR2 0) h_images (aS 0) n0 y0 o0 C ] ++ (wReader aU C us ua ++ (wRail aR C rs ra ++ (wRail aR2 C rs2 ra2 ++ (wSlots aS C sa sl ++ (wNight n0 aN C ns na nl ++ ([cYear y0 y1 y2 C y_isThere y_taken y_took] ++ ([cOb o0 C o_of]))))))))) → va_S A s.heap H locs → lv_has ls 8 [(0, .ref L0), (1, .int p1), (2, .int x2_), (3, .long x3_), (5, .int x5_)] → W p l e rmX11_lamp s m args below meth c H locs 0 0 Q (F0 m 29 ls []) := by
    intro n29
    induction n29 with
    | zero => intro x2_ x3_ x5_ rs2 ra2 ns na nl aN H locs ls h hP hD hS hl; exact False.elim h
    | succ n29 ih29 =>
      intro x2_ x3_ x5_ rs2 ra2 ns na nl aN H locs ls h hP hD hS hl
      refine lv_iload hx hb dX11_lamp_29 (lv_at hl 4 rfl) ?_
      refine lv_aload_n hx hb dX11_lamp_31 rfl (lv_at hl 0 rfl) ?_
      refine va_get (D := D) (ci := 11) (v := .ref (aR 0)) (C := RX11) (T := TX11) (N := 8) hx hb hw inW_X11 hown hK hP 0 rfl rfl 1 (by decide) (hw _ mw_2_144) (fun _ h9 => h9) rfl dX11_lamp_32 ?_
      refine va_getN (D := D) (ci := 4) (v := .int (rs 0)) (C := RX4) (T := TX4) (N := 16) hx hb hw inW_X4 hown hK hP 4 rfl rfl 0 (by decide) hn232 (fun _ h9 => h9) rfl dX11_lamp_35 ?_
      refine lv_icmp_ge (tgt := 69) hx hb dX11_lamp_38 (by decide) (fun c1 => ?_) (fun c1 => ?_)
      · have h := h.1 c1
        refine lv_iload_n hx hb dX11_lamp_69 rfl (lv_at hl 2 rfl) ?_
        rw [← hQ]
        exact cRetI (v := x2_) (aN, rs2, ra2, ns, na, nl) hx hb hr hlocks hS hP hD h dX11_lamp_70
      · have h := h.2 c1
        refine lv_aload_n hx hb dX11_lamp_41 rfl (lv_at hl 0 rfl) ?_
        refine lv_iload hx hb dX11_lamp_42 (lv_at hl 4 rfl) ?_
        refine lv_iload_n hx hb dX11_lamp_44 rfl (lv_at hl 1 rfl) ?_
        refine gs_L21_75 (rs_V21_58 (As := [.int x5_, .int p1]) (rest := []) ⟨hx, hb, hml, hown, hw⟩ hK hN hP hD (k_X11_lossLit l D C _ L0 aR aR2 n0 aN (aU 0) h_images (aS 0) y0 o0  rs ra rs2 ra2 ns na nl x5_ p1 h) (cwV 2 hw (goodV mw_5_19 mw_5_21 mw_s76 mw_1_1 mw_5_22) rfl rfl rfl (by decide +kernel) ⟨Nat.le_of_ble_eq_true rfl, Nat.le_of_ble_eq_true rfl⟩) rfl rfl rfl hl.1 rfl (Nat.le_of_ble_eq_true rfl) dX11_lamp_45 ⟨Nat.zero_le _, Nat.zero_le _⟩) hP hD hS hA (fun r8 u H locs h hP hD hS => ?_)
        obtain ⟨aN2, rs_3, ra_4, ns_5, na_6, nl_7⟩ := u
        have hP : va_P D vwCl (List.flatten ([cLockRail L0 (aU 0) (aR 0) (aR2 0) h_images (aS 0) n0 y0 o0 C ] ++ (wReader aU C us ua ++ (wRail aR C rs ra ++ (wRail aR2 C rs_3 ra_4 ++ (wSlots aS C sa sl ++ (wNight n0 aN2 C ns_5 na_6 nl_7 ++ ([cYear y0 y1 y2 C y_isThere y_taken y_took] ++ ([cOb o0 C o_of]))))))))) H := hP
        have hD : va_D A (List.flatten ([cLockRail L0 (aU 0) (aR 0) (aR2 0) h_images (aS 0) n0 y0 o0 C ] ++ (wReader aU C us ua ++ (wRail aR C rs ra ++ (wRail aR2 C rs_3 ra_4 ++ (wSlots aS C sa sl ++ (wNight n0 aN2 C ns_5 na_6 nl_7 ++ ([cYear y0 y1 y2 C y_isThere y_taken y_took] ++ ([cOb o0 C o_of]))))))))) := hD
        refine lv_lstore (lv' := [(6, .long r8), (0, .ref L0), (1, .int p1), (2, .int x2_), (3, .long x3_), (5, .int x5_)]) hx hb dX11_lamp_48 hl (by decide) rfl (fun ls hl => ?_)
        refine lv_lload hx hb dX11_lamp_50 (lv_at hl 0 rfl) ?_
        refine lv_lload_n hx hb dX11_lamp_52 rfl (lv_at hl 4 rfl) ?_
        refine W.lcmp hx hb dX11_lamp_53 ?_
        refine lv_if_ge (tgt := 63) hx hb dX11_lamp_54 (by decide) (fun c9 => ?_) (fun c9 => ?_)
        · have c9 : x3_ ≤ r8 := (lg_cmp_ge _ _).mp c9
          have h := h.1 c9
          refine lv_iinc (v := (x5_ + 1)) (lv' := [(5, .int (x5_ + 1)), (6, .long r8), (0, .ref L0), (1, .int p1), (2, .int x2_), (3, .long x3_)]) hx hb dX11_lamp_63 hl (k := 5) rfl rfl (by decide) rfl (fun ls hl => ?_)
          refine lv_goto (tgt := 29) hx hb dX11_lamp_66 (by decide) ?_
          exact ih29 x2_ x3_ (x5_ + 1) rs_3 ra_4 ns_5 na_6 nl_7 aN2 _ _ _ h hP hD hS (lv_sub hl [2, 3, 4, 5, 0] rfl)
        · have c9 : ¬ x3_ ≤ r8 := fun q => c9 ((lg_cmp_ge _ _).mpr q)
          have h := h.2 c9
          refine lv_lload hx hb dX11_lamp_57 (lv_at hl 0 rfl) ?_
          refine lv_lstore_n (lv' := [(3, .long r8), (6, .long r8), (0, .ref L0), (1, .int p1), (2, .int x2_), (5, .int x5_)]) hx hb dX11_lamp_59 rfl hl (by decide) rfl (fun ls hl => ?_)
          refine lv_iload hx hb dX11_lamp_60 (lv_at hl 5 rfl) ?_
          refine lv_istore_n (lv' := [(2, .int x5_), (3, .long r8), (6, .long r8), (0, .ref L0), (1, .int p1), (5, .int x5_)]) hx hb dX11_lamp_62 rfl hl (by decide) rfl (fun ls hl => ?_)
          refine lv_iinc (v := (x5_ + 1)) (lv' := [(5, .int (x5_ + 1)), (2, .int x5_), (3, .long r8), (6, .long r8), (0, .ref L0), (1, .int p1)]) hx hb dX11_lamp_63 hl (k := 5) rfl rfl (by decide) rfl (fun ls hl => ?_)
          refine lv_goto (tgt := 29) hx hb dX11_lamp_66 (by decide) ?_
          exact ih29 x5_ r8 (x5_ + 1) rs_3 ra_4 ns_5 na_6 nl_7 aN2 _ _ _ h hP hD hS (lv_sub hl [4, 5, 1, 2, 0] rfl)
  refine lv_aload_n hx hb dX11_lamp_0 rfl (lv_at hl 0 rfl) ?_
  refine va_get (D := D) (ci := 11) (v := .ref (aR 0)) (C := RX11) (T := TX11) (N := 8) hx hb hw inW_X11 hown hK hP 0 rfl rfl 1 (by decide) (hw _ mw_2_144) (fun _ h9 => h9) rfl dX11_lamp_1 ?_
  refine gs_I21_41 (rs_VN21_34 (As := []) (rest := []) ⟨hx, hb, hml, hown, hw⟩ hK hN hP hD (k_X4_isTold l D C _ aR  rs ra  h) ⟨va_cnB 0 hw (goodN mw_4_19) rfl rfl rfl (hN.m 44 rfl) (hw _ mw_1_4) (by decide +kernel) ⟨Nat.le_of_ble_eq_true rfl, Nat.le_of_ble_eq_true rfl⟩, hw _ mw_4_18, hw _ mw_s47⟩ rfl rfl rfl hl.1 rfl (Nat.le_of_ble_eq_true rfl) dX11_lamp_4 ⟨Nat.zero_le _, Nat.zero_le _⟩) hP hD hS hA (fun r10 u H locs h hP hD hS => ?_)
  have hP : va_P D vwCl (List.flatten ([cLockRail L0 (aU 0) (aR 0) (aR2 0) h_images (aS 0) n0 y0 o0 C ] ++ (wReader aU C us ua ++ (wRail aR C rs ra ++ (wRail aR2 C rs2 ra2 ++ (wSlots aS C sa sl ++ (wNight n0 aN C ns na nl ++ ([cYear y0 y1 y2 C y_isThere y_taken y_took] ++ ([cOb o0 C o_of]))))))))) H := hP
  have hD : va_D A (List.flatten ([cLockRail L0 (aU 0) (aR 0) (aR2 0) h_images (aS 0) n0 y0 o0 C ] ++ (wReader aU C us ua ++ (wRail aR C rs ra ++ (wRail aR2 C rs2 ra2 ++ (wSlots aS C sa sl ++ (wNight n0 aN C ns na nl ++ ([cYear y0 y1 y2 C y_isThere y_taken y_took] ++ ([cOb o0 C o_of]))))))))) := hD
  refine lv_if_eq (tgt := 17) hx hb dX11_lamp_7 (by decide) (fun c11 => ?_) (fun c11 => ?_)
  · have h := h.1 c11
    refine lv_bipush (v := (-2)) hx hb dX11_lamp_17 (by decide) ?_
    rw [← hQ]
    exact cRetI (v := (-2)) (aN, rs2, ra2, ns, na, nl) hx hb hr hlocks hS hP hD h dX11_lamp_19
  · have h := h.2 c11
    refine lv_iload_n hx hb dX11_lamp_10 rfl (lv_at hl 1 rfl) ?_
    refine cGoEI (cRunES (As := [.int p1]) (rest := []) ⟨hx, hb, hml, hown, hw⟩ hK hN hP hD (k_X11_isBright l D C _    p1 h) (va_cwS 1 hw (goodS mw_5_16 mw_5_17 mw_1_1 mw_5_18) rfl rfl rfl (by decide +kernel) ⟨Nat.le_of_ble_eq_true rfl, Nat.le_of_ble_eq_true rfl⟩) rfl hl.1 rfl (Nat.le_of_ble_eq_true rfl) dX11_lamp_11 ⟨Nat.zero_le _, Nat.zero_le _⟩) hP hD hS hA (fun r12 u H locs h hP hD hS => ?_)
    have hP : va_P D vwCl (List.flatten ([cLockRail L0 (aU 0) (aR 0) (aR2 0) h_images (aS 0) n0 y0 o0 C ] ++ (wReader aU C us ua ++ (wRail aR C rs ra ++ (wRail aR2 C rs2 ra2 ++ (wSlots aS C sa sl ++ (wNight n0 aN C ns na nl ++ ([cYear y0 y1 y2 C y_isThere y_taken y_took] ++ ([cOb o0 C o_of]))))))))) H := hP
    have hD : va_D A (List.flatten ([cLockRail L0 (aU 0) (aR 0) (aR2 0) h_images (aS 0) n0 y0 o0 C ] ++ (wReader aU C us ua ++ (wRail aR C rs ra ++ (wRail aR2 C rs2 ra2 ++ (wSlots aS C sa sl ++ (wNight n0 aN C ns na nl ++ ([cYear y0 y1 y2 C y_isThere y_taken y_took] ++ ([cOb o0 C o_of]))))))))) := hD
    refine lv_if_ne (tgt := 20) hx hb dX11_lamp_14 (by decide) (fun c13 => ?_) (fun c13 => ?_)
    · have h := h.1 c13
      refine lv_iconst (v := (-1)) hx hb dX11_lamp_20 (by decide) ?_
      refine lv_istore_n (lv' := [(2, .int (-1)), (0, .ref L0), (1, .int p1)]) hx hb dX11_lamp_21 rfl hl (by decide) rfl (fun ls hl => ?_)
      refine lv_ldc2 (v := 9223372036854775807) hx hb hown (hw _ mw_4_170) dX11_lamp_22 ?_
      refine lv_lstore_n (lv' := [(3, .long 9223372036854775807), (2, .int (-1)), (0, .ref L0), (1, .int p1)]) hx hb dX11_lamp_25 rfl hl (by decide) rfl (fun ls hl => ?_)
      refine lv_iconst (v := 0) hx hb dX11_lamp_26 (by decide) ?_
      refine lv_istore (lv' := [(5, .int 0), (3, .long 9223372036854775807), (2, .int (-1)), (0, .ref L0), (1, .int p1)]) hx hb dX11_lamp_27 hl (by decide) rfl (fun ls hl => ?_)
      obtain ⟨n, h⟩ := h
      exact N29  n (-1) 9223372036854775807 0 rs2 ra2 ns na nl aN _ _ _ h hP hD hS (lv_sub hl [3, 4, 2, 1, 0] rfl)
    · have h := h.2 c13
      refine lv_bipush (v := (-2)) hx hb dX11_lamp_17 (by decide) ?_
      rw [← hQ]
      exact cRetI (v := (-2)) (aN, rs2, ra2, ns, na, nl) hx hb hr hlocks hS hP hD h dX11_lamp_19
abbrev vsX11_lit : List Cond := Cond.code yX11_lit cX11_lit 3 (some .long) :: WS
abbrev rmX11_lit : Room := { frames := 6, cells := 0, slots := 0, locals := 149 }
set_option maxHeartbeats 4000000 in
set_option maxRecDepth 100000 in
theorem k_X11_lit (l : Launch) (D : va_G) (C : Nat → ClassId) (sz : Nat) (L0 : Nat) (aU : Nat → Nat) (aR : Nat → Nat) (aR2 : Nat → Nat) (aS : Nat → Nat) (n0 : Nat) (aN : Nat → Nat) (y0 : Nat) (y1 : Nat) (y2 : Nat) (o0 : Nat) (h_images : Nat) (us : Nat → Int32) (ua : Nat → Nat → Int32) (rs : Nat → Int32) (ra : Nat → Nat → Int32) (rs2 : Nat → Int32) (ra2 : Nat → Nat → Int32) (sa : Nat → Nat → Int32) (sl : Nat → Nat → Int64) (ns : Nat → Int32) (na : Nat → Nat → Int32) (nl : Nat → Nat → Int64) (y_isThere : Int32) (y_taken : Nat → Int32) (y_took : Nat → Int32) (o_of : Nat → Int64) (p1 : Int32) (p2 : Int32) {post : Int64 → (Nat → Int32) → (Nat → Nat → Int32) → (Nat → Int32) → (Nat → Nat → Int32) → (Nat → Nat → Int64) → Prop} (h : P_X11_lit rs ra rs2 ra2 ns na nl p1 p2 post) : Met l yX11_lit vsX11_lit rmX11_lit (cPre D C [.ref L0, .int p1, .int p2] sz ([cLockRail L0 (aU 0) (aR 0) (aR2 0) h_images (aS 0) n0 y0 o0 C ] ++ (wReader aU C us ua ++ (wRail aR C rs ra ++ (wRail aR2 C rs2 ra2 ++ (wSlots aS C sa sl ++ (wNight n0 aN C ns na nl ++ ([cYear y0 y1 y2 C y_isThere y_taken y_took] ++ ([cOb o0 C o_of]))))))))) (cQl D (fun (r : Int64) (u : (Nat → Nat) × (Nat → Int32) × (Nat → Nat → Int32) × (Nat → Int32) × (Nat → Nat → Int32) × (Nat → Nat → Int64)) => post r u.2.1 u.2.2.1 u.2.2.2.1 u.2.2.2.2.1 u.2.2.2.2.2) (fun u => [cLockRail L0 (aU 0) (aR 0) (aR2 0) h_images (aS 0) n0 y0 o0 C ] ++ (wReader aU C us ua ++ (wRail aR C rs ra ++ (wRail aR2 C u.2.1 u.2.2.1 ++ (wSlots aS C sa sl ++ (wNight n0 u.1 C u.2.2.2.1 u.2.2.2.2.1 u.2.2.2.2.2 ++ ([cYear y0 y1 y2 C y_isThere y_taken y_took] ++ ([cOb o0 C o_of])))))))) (va_A (List.flatten ([cLockRail L0 (aU 0) (aR 0) (aR2 0) h_images (aS 0) n0 y0 o0 C ] ++ (wReader aU C us ua ++ (wRail aR C rs ra ++ (wRail aR2 C rs2 ra2 ++ (wSlots aS C sa sl ++ (wNight n0 aN C ns na nl ++ ([cYear y0 y1 y2 C y_isThere y_taken y_took] ++ ([cOb o0 C o_of]))))))))) sz)) 0 0 (va_A (List.flatten ([cLockRail L0 (aU 0) (aR 0) (aR2 0) h_images (aS 0) n0 y0 o0 C ] ++ (wReader aU C us ua ++ (wRail aR C rs ra ++ (wRail aR2 C rs2 ra2 ++ (wSlots aS C sa sl ++ (wNight n0 aN C ns na nl ++ ([cYear y0 y1 y2 C y_isThere y_taken y_took] ++ ([cOb o0 C o_of]))))))))) sz) := by
  refine cStart (QA := fun A => cQl D (fun (r : Int64) (u : (Nat → Nat) × (Nat → Int32) × (Nat → Nat → Int32) × (Nat → Int32) × (Nat → Nat → Int32) × (Nat → Nat → Int64)) => post r u.2.1 u.2.2.1 u.2.2.2.1 u.2.2.2.2.1 u.2.2.2.2.2) (fun u => [cLockRail L0 (aU 0) (aR 0) (aR2 0) h_images (aS 0) n0 y0 o0 C ] ++ (wReader aU C us ua ++ (wRail aR C rs ra ++ (wRail aR2 C u.2.1 u.2.2.1 ++ (wSlots aS C sa sl ++ (wNight n0 u.1 C u.2.2.2.1 u.2.2.2.2.1 u.2.2.2.2.2 ++ ([cYear y0 y1 y2 C y_isThere y_taken y_took] ++ ([cOb o0 C o_of])))))))) A) (cc := cX11_lit) (maxL := 3) (ret := (some .long)) (by decide) (Nat.le_of_ble_eq_true rfl) ?_
  intro p e s m args below meth c A ls hx hb hr hml hown hw hlocks hname hK hN hA hP hD hS hl
  generalize hQ : MQ below _ args s 0 0 A = Q
  have hl : lv_has ls 3 [(0, .ref L0), (1, .int p1), (2, .int p2)] := hl
  obtain ⟨H, hH⟩ : ∃ H, H = s.heap := ⟨_, rfl⟩
  obtain ⟨locs, hlo⟩ : ∃ z : List Loc, z = [] := ⟨_, rfl⟩
  have hP : va_P D vwCl (List.flatten ([cLockRail L0 (aU 0) (aR 0) (aR2 0) h_images (aS 0) n0 y0 o0 C ] ++ (wReader aU C us ua ++ (wRail aR C rs ra ++ (wRail aR2 C rs2 ra2 ++ (wSlots aS C sa sl ++ (wNight n0 aN C ns na nl ++ ([cYear y0 y1 y2 C y_isThere y_taken y_took] ++ ([cOb o0 C o_of]))))))))) H := by rw [hH]; exact hP
  have hS : va_S A s.heap H locs := by rw [hH, hlo]; exact hS
  rw [show W p l e rmX11_lit s m args below meth c s.heap [] 0 0 Q (F0 m 0 ls []) = W p l e rmX11_lit s m args below meth c H locs 0 0 Q (F0 m 0 ls []) from by rw [hH, hlo]]
  refine lv_aload_n hx hb dX11_lit_0 rfl (lv_at hl 0 rfl) ?_
  refine va_get (D := D) (ci := 11) (v := .ref (aR 0)) (C := RX11) (T := TX11) (N := 8) hx hb hw inW_X11 hown hK hP 0 rfl rfl 1 (by decide) (hw _ mw_2_144) (fun _ h9 => h9) rfl dX11_lit_1 ?_
  refine lv_iload_n hx hb dX11_lit_4 rfl (lv_at hl 1 rfl) ?_
  refine gs_I21_41 (rs_VN21_34 (As := [.int p1]) (rest := []) ⟨hx, hb, hml, hown, hw⟩ hK hN hP hD (k_X4_hasPlace l D C _ aR  rs ra p1 h) ⟨va_cnB 1 hw (goodN mw_3_165) rfl rfl rfl (hN.m 29 rfl) (hw _ mw_1_4) (by decide +kernel) ⟨Nat.le_of_ble_eq_true rfl, Nat.le_of_ble_eq_true rfl⟩, hw _ mw_3_164, hw _ mw_s32⟩ rfl rfl rfl hl.1 rfl (Nat.le_of_ble_eq_true rfl) dX11_lit_5 ⟨Nat.zero_le _, Nat.zero_le _⟩) hP hD hS hA (fun r1 u H locs h hP hD hS => ?_)
  have hP : va_P D vwCl (List.flatten ([cLockRail L0 (aU 0) (aR 0) (aR2 0) h_images (aS 0) n0 y0 o0 C ] ++ (wReader aU C us ua ++ (wRail aR C rs ra ++ (wRail aR2 C rs2 ra2 ++ (wSlots aS C sa sl ++ (wNight n0 aN C ns na nl ++ ([cYear y0 y1 y2 C y_isThere y_taken y_took] ++ ([cOb o0 C o_of]))))))))) H := hP
  have hD : va_D A (List.flatten ([cLockRail L0 (aU 0) (aR 0) (aR2 0) h_images (aS 0) n0 y0 o0 C ] ++ (wReader aU C us ua ++ (wRail aR C rs ra ++ (wRail aR2 C rs2 ra2 ++ (wSlots aS C sa sl ++ (wNight n0 aN C ns na nl ++ ([cYear y0 y1 y2 C y_isThere y_taken y_took] ++ ([cOb o0 C o_of]))))))))) := hD
  refine lv_if_eq (tgt := 27) hx hb dX11_lit_8 (by decide) (fun c2 => ?_) (fun c2 => ?_)
  · have h := h.1 c2
    refine lv_ldc2 (v := (-2)) hx hb hown (hw _ mw_4_20) dX11_lit_27 ?_
    rw [← hQ]
    exact cRetL (v := (-2)) (aN, rs2, ra2, ns, na, nl) hx hb hr hlocks hS hP hD h dX11_lit_30
  · have h := h.2 c2
    refine lv_iload_n hx hb dX11_lit_11 rfl (lv_at hl 2 rfl) ?_
    refine cGoEI (cRunES (As := [.int p2]) (rest := []) ⟨hx, hb, hml, hown, hw⟩ hK hN hP hD (k_X11_isBright l D C _    p2 h) (va_cwS 1 hw (goodS mw_5_16 mw_5_17 mw_1_1 mw_5_18) rfl rfl rfl (by decide +kernel) ⟨Nat.le_of_ble_eq_true rfl, Nat.le_of_ble_eq_true rfl⟩) rfl hl.1 rfl (Nat.le_of_ble_eq_true rfl) dX11_lit_12 ⟨Nat.zero_le _, Nat.zero_le _⟩) hP hD hS hA (fun r3 u H locs h hP hD hS => ?_)
    have hP : va_P D vwCl (List.flatten ([cLockRail L0 (aU 0) (aR 0) (aR2 0) h_images (aS 0) n0 y0 o0 C ] ++ (wReader aU C us ua ++ (wRail aR C rs ra ++ (wRail aR2 C rs2 ra2 ++ (wSlots aS C sa sl ++ (wNight n0 aN C ns na nl ++ ([cYear y0 y1 y2 C y_isThere y_taken y_took] ++ ([cOb o0 C o_of]))))))))) H := hP
    have hD : va_D A (List.flatten ([cLockRail L0 (aU 0) (aR 0) (aR2 0) h_images (aS 0) n0 y0 o0 C ] ++ (wReader aU C us ua ++ (wRail aR C rs ra ++ (wRail aR2 C rs2 ra2 ++ (wSlots aS C sa sl ++ (wNight n0 aN C ns na nl ++ ([cYear y0 y1 y2 C y_isThere y_taken y_took] ++ ([cOb o0 C o_of]))))))))) := hD
    refine lv_if_eq (tgt := 27) hx hb dX11_lit_15 (by decide) (fun c4 => ?_) (fun c4 => ?_)
    · have h := h.1 c4
      refine lv_ldc2 (v := (-2)) hx hb hown (hw _ mw_4_20) dX11_lit_27 ?_
      rw [← hQ]
      exact cRetL (v := (-2)) (aN, rs2, ra2, ns, na, nl) hx hb hr hlocks hS hP hD h dX11_lit_30
    · have h := h.2 c4
      refine lv_aload_n hx hb dX11_lit_18 rfl (lv_at hl 0 rfl) ?_
      refine lv_iload_n hx hb dX11_lit_19 rfl (lv_at hl 1 rfl) ?_
      refine lv_iload_n hx hb dX11_lit_20 rfl (lv_at hl 2 rfl) ?_
      refine gs_L21_75 (rs_V21_58 (As := [.int p1, .int p2]) (rest := []) ⟨hx, hb, hml, hown, hw⟩ hK hN hP hD (k_X11_lossLit l D C _ L0 aR aR2 n0 aN (aU 0) h_images (aS 0) y0 o0  rs ra rs2 ra2 ns na nl p1 p2 h) (cwV 2 hw (goodV mw_5_19 mw_5_21 mw_s76 mw_1_1 mw_5_22) rfl rfl rfl (by decide +kernel) ⟨Nat.le_of_ble_eq_true rfl, Nat.le_of_ble_eq_true rfl⟩) rfl rfl rfl hl.1 rfl (Nat.le_of_ble_eq_true rfl) dX11_lit_21 ⟨Nat.zero_le _, Nat.zero_le _⟩) hP hD hS hA (fun r11 u H locs h hP hD hS => ?_)
      obtain ⟨aN5, rs_6, ra_7, ns_8, na_9, nl_10⟩ := u
      have hP : va_P D vwCl (List.flatten ([cLockRail L0 (aU 0) (aR 0) (aR2 0) h_images (aS 0) n0 y0 o0 C ] ++ (wReader aU C us ua ++ (wRail aR C rs ra ++ (wRail aR2 C rs_6 ra_7 ++ (wSlots aS C sa sl ++ (wNight n0 aN5 C ns_8 na_9 nl_10 ++ ([cYear y0 y1 y2 C y_isThere y_taken y_took] ++ ([cOb o0 C o_of]))))))))) H := hP
      have hD : va_D A (List.flatten ([cLockRail L0 (aU 0) (aR 0) (aR2 0) h_images (aS 0) n0 y0 o0 C ] ++ (wReader aU C us ua ++ (wRail aR C rs ra ++ (wRail aR2 C rs_6 ra_7 ++ (wSlots aS C sa sl ++ (wNight n0 aN5 C ns_8 na_9 nl_10 ++ ([cYear y0 y1 y2 C y_isThere y_taken y_took] ++ ([cOb o0 C o_of]))))))))) := hD
      refine lv_goto (tgt := 30) hx hb dX11_lit_24 (by decide) ?_
      rw [← hQ]
      exact cRetL (v := r11) (aN5, rs_6, ra_7, ns_8, na_9, nl_10) hx hb hr hlocks hS hP hD h dX11_lit_30
abbrev vsX11_watch : List Cond := Cond.code yX11_watch cX11_watch 3 (some .int) :: WS
abbrev rmX11_watch : Room := { frames := 0, cells := 0, slots := 0, locals := 0 }
set_option maxHeartbeats 4000000 in
set_option maxRecDepth 100000 in
theorem k_X11_watch (l : Launch) (D : va_G) (C : Nat → ClassId) (sz : Nat) (L0 : Nat) (aU : Nat → Nat) (aR : Nat → Nat) (aR2 : Nat → Nat) (aS : Nat → Nat) (n0 : Nat) (aN : Nat → Nat) (y0 : Nat) (y1 : Nat) (y2 : Nat) (o0 : Nat) (h_images : Nat) (us : Nat → Int32) (ua : Nat → Nat → Int32) (rs : Nat → Int32) (ra : Nat → Nat → Int32) (rs2 : Nat → Int32) (ra2 : Nat → Nat → Int32) (sa : Nat → Nat → Int32) (sl : Nat → Nat → Int64) (ns : Nat → Int32) (na : Nat → Nat → Int32) (nl : Nat → Nat → Int64) (y_isThere : Int32) (y_taken : Nat → Int32) (y_took : Nat → Int32) (o_of : Nat → Int64) (p1 : Int32) {post : Int32 → (Nat → Int32) → Prop} (h : P_X11_watch rs p1 post) : Met l yX11_watch vsX11_watch rmX11_watch (cPre D C [.ref L0, .int p1] sz ([cLockRail L0 (aU 0) (aR 0) (aR2 0) h_images (aS 0) n0 y0 o0 C ] ++ (wReader aU C us ua ++ (wRail aR C rs ra ++ (wRail aR2 C rs2 ra2 ++ (wSlots aS C sa sl ++ (wNight n0 aN C ns na nl ++ ([cYear y0 y1 y2 C y_isThere y_taken y_took] ++ ([cOb o0 C o_of]))))))))) (cQi D (fun (r : Int32) (u : (Nat → Int32)) => post r u) (fun u => [cLockRail L0 (aU 0) (aR 0) (aR2 0) h_images (aS 0) n0 y0 o0 C ] ++ (wReader aU C us ua ++ (wRail aR C u ra ++ (wRail aR2 C rs2 ra2 ++ (wSlots aS C sa sl ++ (wNight n0 aN C ns na nl ++ ([cYear y0 y1 y2 C y_isThere y_taken y_took] ++ ([cOb o0 C o_of])))))))) (va_A (List.flatten ([cLockRail L0 (aU 0) (aR 0) (aR2 0) h_images (aS 0) n0 y0 o0 C ] ++ (wReader aU C us ua ++ (wRail aR C rs ra ++ (wRail aR2 C rs2 ra2 ++ (wSlots aS C sa sl ++ (wNight n0 aN C ns na nl ++ ([cYear y0 y1 y2 C y_isThere y_taken y_took] ++ ([cOb o0 C o_of]))))))))) sz)) 0 0 (va_A (List.flatten ([cLockRail L0 (aU 0) (aR 0) (aR2 0) h_images (aS 0) n0 y0 o0 C ] ++ (wReader aU C us ua ++ (wRail aR C rs ra ++ (wRail aR2 C rs2 ra2 ++ (wSlots aS C sa sl ++ (wNight n0 aN C ns na nl ++ ([cYear y0 y1 y2 C y_isThere y_taken y_took] ++ ([cOb o0 C o_of]))))))))) sz) := by
  refine cStart (QA := fun A => cQi D (fun (r : Int32) (u : (Nat → Int32)) => post r u) (fun u => [cLockRail L0 (aU 0) (aR 0) (aR2 0) h_images (aS 0) n0 y0 o0 C ] ++ (wReader aU C us ua ++ (wRail aR C u ra ++ (wRail aR2 C rs2 ra2 ++ (wSlots aS C sa sl ++ (wNight n0 aN C ns na nl ++ ([cYear y0 y1 y2 C y_isThere y_taken y_took] ++ ([cOb o0 C o_of])))))))) A) (cc := cX11_watch) (maxL := 3) (ret := (some .int)) (by decide) (Nat.le_of_ble_eq_true rfl) ?_
  intro p e s m args below meth c A ls hx hb hr hml hown hw hlocks hname hK hN hA hP hD hS hl
  generalize hQ : MQ below _ args s 0 0 A = Q
  have hl : lv_has ls 3 [(0, .ref L0), (1, .int p1)] := hl
  have hn241 : (Cond.fieldLinkNest "LockRail" 241 "LockRail$Rail" "watchTold" "Z" "LockRail").before args s = true := hN.f 70 rfl
  have hn245 : (Cond.fieldLinkNest "LockRail" 245 "LockRail$Rail" "watched" "Z" "LockRail").before args s = true := hN.f 73 rfl
  obtain ⟨H, hH⟩ : ∃ H, H = s.heap := ⟨_, rfl⟩
  obtain ⟨locs, hlo⟩ : ∃ z : List Loc, z = [] := ⟨_, rfl⟩
  have hP : va_P D vwCl (List.flatten ([cLockRail L0 (aU 0) (aR 0) (aR2 0) h_images (aS 0) n0 y0 o0 C ] ++ (wReader aU C us ua ++ (wRail aR C rs ra ++ (wRail aR2 C rs2 ra2 ++ (wSlots aS C sa sl ++ (wNight n0 aN C ns na nl ++ ([cYear y0 y1 y2 C y_isThere y_taken y_took] ++ ([cOb o0 C o_of]))))))))) H := by rw [hH]; exact hP
  have hS : va_S A s.heap H locs := by rw [hH, hlo]; exact hS
  rw [show W p l e rmX11_watch s m args below meth c s.heap [] 0 0 Q (F0 m 0 ls []) = W p l e rmX11_watch s m args below meth c H locs 0 0 Q (F0 m 0 ls []) from by rw [hH, hlo]]
  refine lv_aload_n hx hb dX11_watch_0 rfl (lv_at hl 0 rfl) ?_
  refine va_get (D := D) (ci := 11) (v := .ref (aR 0)) (C := RX11) (T := TX11) (N := 8) hx hb hw inW_X11 hown hK hP 0 rfl rfl 1 (by decide) (hw _ mw_2_144) (fun _ h9 => h9) rfl dX11_watch_1 ?_
  refine va_getN (D := D) (ci := 4) (v := .int (rs 7)) (C := RX4) (T := TX4) (N := 16) hx hb hw inW_X4 hown hK hP 4 rfl rfl 11 (by decide) hn241 (fun _ h9 => h9) rfl dX11_watch_4 ?_
  refine lv_if_ne (tgt := 13) hx hb dX11_watch_7 (by decide) (fun c1 => ?_) (fun c1 => ?_)
  · have h := h.1 c1
    refine lv_aload_n hx hb dX11_watch_13 rfl (lv_at hl 0 rfl) ?_
    refine va_get (D := D) (ci := 11) (v := .ref (aR 0)) (C := RX11) (T := TX11) (N := 8) hx hb hw inW_X11 hown hK hP 0 rfl rfl 1 (by decide) (hw _ mw_2_144) (fun _ h9 => h9) rfl dX11_watch_14 ?_
    refine va_getN (D := D) (ci := 4) (v := .int (rs 10)) (C := RX4) (T := TX4) (N := 16) hx hb hw inW_X4 hown hK hP 4 rfl rfl 14 (by decide) hn245 (fun _ h9 => h9) rfl dX11_watch_17 ?_
    refine lv_if_eq (tgt := 27) hx hb dX11_watch_20 (by decide) (fun c2 => ?_) (fun c2 => ?_)
    · have h := h.1 c2
      refine lv_iconst (v := 0) hx hb dX11_watch_27 (by decide) ?_
      refine lv_istore_n (lv' := [(2, .int 0), (0, .ref L0), (1, .int p1)]) hx hb dX11_watch_28 rfl hl (by decide) rfl (fun ls hl => ?_)
      refine lv_aload_n hx hb dX11_watch_29 rfl (lv_at hl 1 rfl) ?_
      refine va_get (D := D) (ci := 11) (v := .ref (aR 0)) (C := RX11) (T := TX11) (N := 8) hx hb hw inW_X11 hown hK hP 0 rfl rfl 1 (by decide) (hw _ mw_2_144) (fun _ h9 => h9) rfl dX11_watch_30 ?_
      refine lv_iload_n hx hb dX11_watch_33 rfl (lv_at hl 2 rfl) ?_
      refine va_putN (D := D) (ci := 4) (v := .int p1) (ty := .boolean) (C := RX4) (T := TX4) (N := 16) hx hb hw inW_X4 tyX4 tyX4_ok nmX4 hown hK hP hD hS 4 rfl rfl 14 (by decide) hn245 (fun _ h9 => h9) rfl (by decide +kernel) (zb_n h.1) (zb_f h.1) (Nat.le_of_ble_eq_true rfl) dX11_watch_34 (fun H locs hP hD hS => ?_)
      have h := h.2
      refine lv_iload_n hx hb dX11_watch_37 rfl (lv_at hl 0 rfl) ?_
      have hP : va_P D vwCl (List.flatten ([cLockRail L0 (aU 0) (aR 0) (aR2 0) h_images (aS 0) n0 y0 o0 C ] ++ (wReader aU C us ua ++ (wRail aR C (va_up rs 10 p1) ra ++ (wRail aR2 C rs2 ra2 ++ (wSlots aS C sa sl ++ (wNight n0 aN C ns na nl ++ ([cYear y0 y1 y2 C y_isThere y_taken y_took] ++ ([cOb o0 C o_of]))))))))) H := hP
      have hD : va_D A (List.flatten ([cLockRail L0 (aU 0) (aR 0) (aR2 0) h_images (aS 0) n0 y0 o0 C ] ++ (wReader aU C us ua ++ (wRail aR C (va_up rs 10 p1) ra ++ (wRail aR2 C rs2 ra2 ++ (wSlots aS C sa sl ++ (wNight n0 aN C ns na nl ++ ([cYear y0 y1 y2 C y_isThere y_taken y_took] ++ ([cOb o0 C o_of]))))))))) := hD
      rw [← hQ]
      exact cRetI (v := 0) ((va_up rs 10 p1)) hx hb hr hlocks hS hP hD h dX11_watch_38
    · have h := h.2 c2
      refine lv_iconst (v := 1) hx hb dX11_watch_23 (by decide) ?_
      refine lv_goto (tgt := 28) hx hb dX11_watch_24 (by decide) ?_
      refine lv_istore_n (lv' := [(2, .int 1), (0, .ref L0), (1, .int p1)]) hx hb dX11_watch_28 rfl hl (by decide) rfl (fun ls hl => ?_)
      refine lv_aload_n hx hb dX11_watch_29 rfl (lv_at hl 1 rfl) ?_
      refine va_get (D := D) (ci := 11) (v := .ref (aR 0)) (C := RX11) (T := TX11) (N := 8) hx hb hw inW_X11 hown hK hP 0 rfl rfl 1 (by decide) (hw _ mw_2_144) (fun _ h9 => h9) rfl dX11_watch_30 ?_
      refine lv_iload_n hx hb dX11_watch_33 rfl (lv_at hl 2 rfl) ?_
      refine va_putN (D := D) (ci := 4) (v := .int p1) (ty := .boolean) (C := RX4) (T := TX4) (N := 16) hx hb hw inW_X4 tyX4 tyX4_ok nmX4 hown hK hP hD hS 4 rfl rfl 14 (by decide) hn245 (fun _ h9 => h9) rfl (by decide +kernel) (zb_n h.1) (zb_f h.1) (Nat.le_of_ble_eq_true rfl) dX11_watch_34 (fun H locs hP hD hS => ?_)
      have h := h.2
      refine lv_iload_n hx hb dX11_watch_37 rfl (lv_at hl 0 rfl) ?_
      have hP : va_P D vwCl (List.flatten ([cLockRail L0 (aU 0) (aR 0) (aR2 0) h_images (aS 0) n0 y0 o0 C ] ++ (wReader aU C us ua ++ (wRail aR C (va_up rs 10 p1) ra ++ (wRail aR2 C rs2 ra2 ++ (wSlots aS C sa sl ++ (wNight n0 aN C ns na nl ++ ([cYear y0 y1 y2 C y_isThere y_taken y_took] ++ ([cOb o0 C o_of]))))))))) H := hP
      have hD : va_D A (List.flatten ([cLockRail L0 (aU 0) (aR 0) (aR2 0) h_images (aS 0) n0 y0 o0 C ] ++ (wReader aU C us ua ++ (wRail aR C (va_up rs 10 p1) ra ++ (wRail aR2 C rs2 ra2 ++ (wSlots aS C sa sl ++ (wNight n0 aN C ns na nl ++ ([cYear y0 y1 y2 C y_isThere y_taken y_took] ++ ([cOb o0 C o_of]))))))))) := hD
      rw [← hQ]
      exact cRetI (v := 1) ((va_up rs 10 p1)) hx hb hr hlocks hS hP hD h dX11_watch_38
  · have h := h.2 c1
    refine lv_bipush (v := (-2)) hx hb dX11_watch_10 (by decide) ?_
    rw [← hQ]
    exact cRetI (v := (-2)) (rs) hx hb hr hlocks hS hP hD h dX11_watch_12
abbrev vsX11_penny : List Cond := Cond.code yX11_penny cX11_penny 3 (some .long) :: WS
abbrev rmX11_penny : Room := { frames := 5, cells := 0, slots := 0, locals := 127 }
set_option maxHeartbeats 4000000 in
set_option maxRecDepth 100000 in
theorem k_X11_penny (l : Launch) (D : va_G) (C : Nat → ClassId) (sz : Nat) (L0 : Nat) (aU : Nat → Nat) (aR : Nat → Nat) (aR2 : Nat → Nat) (aS : Nat → Nat) (n0 : Nat) (aN : Nat → Nat) (y0 : Nat) (y1 : Nat) (y2 : Nat) (o0 : Nat) (h_images : Nat) (us : Nat → Int32) (ua : Nat → Nat → Int32) (rs : Nat → Int32) (ra : Nat → Nat → Int32) (rs2 : Nat → Int32) (ra2 : Nat → Nat → Int32) (sa : Nat → Nat → Int32) (sl : Nat → Nat → Int64) (ns : Nat → Int32) (na : Nat → Nat → Int32) (nl : Nat → Nat → Int64) (y_isThere : Int32) (y_taken : Nat → Int32) (y_took : Nat → Int32) (o_of : Nat → Int64)  {post : Int64 → (Nat → Int32) → (Nat → Nat → Int32) → (Nat → Int32) → (Nat → Nat → Int32) → (Nat → Nat → Int64) → Prop} (h : P_X11_penny rs ra rs2 ra2 ns na nl post) : Met l yX11_penny vsX11_penny rmX11_penny (cPre D C [.ref L0] sz ([cLockRail L0 (aU 0) (aR 0) (aR2 0) h_images (aS 0) n0 y0 o0 C ] ++ (wReader aU C us ua ++ (wRail aR C rs ra ++ (wRail aR2 C rs2 ra2 ++ (wSlots aS C sa sl ++ (wNight n0 aN C ns na nl ++ ([cYear y0 y1 y2 C y_isThere y_taken y_took] ++ ([cOb o0 C o_of]))))))))) (cQl D (fun (r : Int64) (u : (Nat → Nat) × (Nat → Int32) × (Nat → Nat → Int32) × (Nat → Int32) × (Nat → Nat → Int32) × (Nat → Nat → Int64)) => post r u.2.1 u.2.2.1 u.2.2.2.1 u.2.2.2.2.1 u.2.2.2.2.2) (fun u => [cLockRail L0 (aU 0) (aR 0) (aR2 0) h_images (aS 0) n0 y0 o0 C ] ++ (wReader aU C us ua ++ (wRail aR C rs ra ++ (wRail aR2 C u.2.1 u.2.2.1 ++ (wSlots aS C sa sl ++ (wNight n0 u.1 C u.2.2.2.1 u.2.2.2.2.1 u.2.2.2.2.2 ++ ([cYear y0 y1 y2 C y_isThere y_taken y_took] ++ ([cOb o0 C o_of])))))))) (va_A (List.flatten ([cLockRail L0 (aU 0) (aR 0) (aR2 0) h_images (aS 0) n0 y0 o0 C ] ++ (wReader aU C us ua ++ (wRail aR C rs ra ++ (wRail aR2 C rs2 ra2 ++ (wSlots aS C sa sl ++ (wNight n0 aN C ns na nl ++ ([cYear y0 y1 y2 C y_isThere y_taken y_took] ++ ([cOb o0 C o_of]))))))))) sz)) 0 0 (va_A (List.flatten ([cLockRail L0 (aU 0) (aR 0) (aR2 0) h_images (aS 0) n0 y0 o0 C ] ++ (wReader aU C us ua ++ (wRail aR C rs ra ++ (wRail aR2 C rs2 ra2 ++ (wSlots aS C sa sl ++ (wNight n0 aN C ns na nl ++ ([cYear y0 y1 y2 C y_isThere y_taken y_took] ++ ([cOb o0 C o_of]))))))))) sz) := by
  refine cStart (QA := fun A => cQl D (fun (r : Int64) (u : (Nat → Nat) × (Nat → Int32) × (Nat → Nat → Int32) × (Nat → Int32) × (Nat → Nat → Int32) × (Nat → Nat → Int64)) => post r u.2.1 u.2.2.1 u.2.2.2.1 u.2.2.2.2.1 u.2.2.2.2.2) (fun u => [cLockRail L0 (aU 0) (aR 0) (aR2 0) h_images (aS 0) n0 y0 o0 C ] ++ (wReader aU C us ua ++ (wRail aR C rs ra ++ (wRail aR2 C u.2.1 u.2.2.1 ++ (wSlots aS C sa sl ++ (wNight n0 u.1 C u.2.2.2.1 u.2.2.2.2.1 u.2.2.2.2.2 ++ ([cYear y0 y1 y2 C y_isThere y_taken y_took] ++ ([cOb o0 C o_of])))))))) A) (cc := cX11_penny) (maxL := 3) (ret := (some .long)) (by decide) (Nat.le_of_ble_eq_true rfl) ?_
  intro p e s m args below meth c A ls hx hb hr hml hown hw hlocks hname hK hN hA hP hD hS hl
  generalize hQ : MQ below _ args s 0 0 A = Q
  have hl : lv_has ls 3 [(0, .ref L0)] := hl
  have hn241 : (Cond.fieldLinkNest "LockRail" 241 "LockRail$Rail" "watchTold" "Z" "LockRail").before args s = true := hN.f 70 rfl
  have hn245 : (Cond.fieldLinkNest "LockRail" 245 "LockRail$Rail" "watched" "Z" "LockRail").before args s = true := hN.f 73 rfl
  obtain ⟨H, hH⟩ : ∃ H, H = s.heap := ⟨_, rfl⟩
  obtain ⟨locs, hlo⟩ : ∃ z : List Loc, z = [] := ⟨_, rfl⟩
  have hP : va_P D vwCl (List.flatten ([cLockRail L0 (aU 0) (aR 0) (aR2 0) h_images (aS 0) n0 y0 o0 C ] ++ (wReader aU C us ua ++ (wRail aR C rs ra ++ (wRail aR2 C rs2 ra2 ++ (wSlots aS C sa sl ++ (wNight n0 aN C ns na nl ++ ([cYear y0 y1 y2 C y_isThere y_taken y_took] ++ ([cOb o0 C o_of]))))))))) H := by rw [hH]; exact hP
  have hS : va_S A s.heap H locs := by rw [hH, hlo]; exact hS
  rw [show W p l e rmX11_penny s m args below meth c s.heap [] 0 0 Q (F0 m 0 ls []) = W p l e rmX11_penny s m args below meth c H locs 0 0 Q (F0 m 0 ls []) from by rw [hH, hlo]]
  refine lv_aload_n hx hb dX11_penny_0 rfl (lv_at hl 0 rfl) ?_
  refine va_get (D := D) (ci := 11) (v := .ref (aR 0)) (C := RX11) (T := TX11) (N := 8) hx hb hw inW_X11 hown hK hP 0 rfl rfl 1 (by decide) (hw _ mw_2_144) (fun _ h9 => h9) rfl dX11_penny_1 ?_
  refine va_getN (D := D) (ci := 4) (v := .int (rs 7)) (C := RX4) (T := TX4) (N := 16) hx hb hw inW_X4 hown hK hP 4 rfl rfl 11 (by decide) hn241 (fun _ h9 => h9) rfl dX11_penny_4 ?_
  refine lv_if_ne (tgt := 14) hx hb dX11_penny_7 (by decide) (fun c1 => ?_) (fun c1 => ?_)
  · have h := h.1 c1
    refine lv_aload_n hx hb dX11_penny_14 rfl (lv_at hl 0 rfl) ?_
    refine va_get (D := D) (ci := 11) (v := .ref (aR2 0)) (C := RX11) (T := TX11) (N := 8) hx hb hw inW_X11 hown hK hP 0 rfl rfl 2 (by decide) (hw _ mw_2_145) (fun _ h9 => h9) rfl dX11_penny_15 ?_
    refine lv_aload_n hx hb dX11_penny_18 rfl (lv_at hl 0 rfl) ?_
    refine va_get (D := D) (ci := 11) (v := .ref (aR 0)) (C := RX11) (T := TX11) (N := 8) hx hb hw inW_X11 hown hK hP 0 rfl rfl 1 (by decide) (hw _ mw_2_144) (fun _ h9 => h9) rfl dX11_penny_19 ?_
    refine gs_V21_52 (rs_VN21_40 (As := [.ref (aR 0)]) (rest := []) ⟨hx, hb, hml, hown, hw⟩ hK hN hP hD (k_X4_copyFrom l D C _ aR2 aR  rs2 ra2 rs ra  h) ⟨va_cnB 1 hw (goodN mw_3_126) rfl rfl rfl (hN.m 23 rfl) (hw _ mw_1_4) (by decide +kernel) ⟨Nat.le_of_ble_eq_true rfl, Nat.le_of_ble_eq_true rfl⟩, hw _ mw_3_125, hw _ mw_s26⟩ rfl rfl rfl hl.1 rfl (Nat.le_of_ble_eq_true rfl) dX11_penny_22 ⟨Nat.zero_le _, Nat.zero_le _⟩) hP hD hS hA (fun u H locs h hP hD hS => ?_)
    obtain ⟨rs_2, ra_3⟩ := u
    have hP : va_P D vwCl (List.flatten ([cLockRail L0 (aU 0) (aR 0) (aR2 0) h_images (aS 0) n0 y0 o0 C ] ++ (wReader aU C us ua ++ (wRail aR C rs ra ++ (wRail aR2 C rs_2 ra_3 ++ (wSlots aS C sa sl ++ (wNight n0 aN C ns na nl ++ ([cYear y0 y1 y2 C y_isThere y_taken y_took] ++ ([cOb o0 C o_of]))))))))) H := hP
    have hD : va_D A (List.flatten ([cLockRail L0 (aU 0) (aR 0) (aR2 0) h_images (aS 0) n0 y0 o0 C ] ++ (wReader aU C us ua ++ (wRail aR C rs ra ++ (wRail aR2 C rs_2 ra_3 ++ (wSlots aS C sa sl ++ (wNight n0 aN C ns na nl ++ ([cYear y0 y1 y2 C y_isThere y_taken y_took] ++ ([cOb o0 C o_of]))))))))) := hD
    refine lv_aload_n hx hb dX11_penny_25 rfl (lv_at hl 0 rfl) ?_
    refine va_get (D := D) (ci := 11) (v := .ref (aR2 0)) (C := RX11) (T := TX11) (N := 8) hx hb hw inW_X11 hown hK hP 0 rfl rfl 2 (by decide) (hw _ mw_2_145) (fun _ h9 => h9) rfl dX11_penny_26 ?_
    refine lv_iconst (v := 0) hx hb dX11_penny_29 (by decide) ?_
    refine va_putN (D := D) (ci := 4) (v := .int 0) (ty := .boolean) (C := RX4) (T := TX4) (N := 16) hx hb hw inW_X4 tyX4 tyX4_ok nmX4 hown hK hP hD hS 26 rfl rfl 14 (by decide) hn245 (fun _ h9 => h9) rfl (by decide +kernel) rfl rfl (Nat.le_of_ble_eq_true rfl) dX11_penny_30 (fun H locs hP hD hS => ?_)
    refine lv_aload_n hx hb dX11_penny_33 rfl (lv_at hl 0 rfl) ?_
    refine lv_aload_n hx hb dX11_penny_34 rfl (lv_at hl 0 rfl) ?_
    refine va_get (D := D) (ci := 11) (v := .ref (aR2 0)) (C := RX11) (T := TX11) (N := 8) hx hb hw inW_X11 hown hK hP 0 rfl rfl 2 (by decide) (hw _ mw_2_145) (fun _ h9 => h9) rfl dX11_penny_35 ?_
    refine lv_iconst (v := 1) hx hb dX11_penny_38 (by decide) ?_
    have hP : va_P D vwCl (List.flatten ([cLockRail L0 (aU 0) (aR 0) (aR2 0) h_images (aS 0) n0 y0 o0 C ] ++ (wReader aU C us ua ++ (wRail aR C rs ra ++ (wRail aR2 C (va_up rs_2 10 0) ra_3 ++ (wSlots aS C sa sl ++ (wNight n0 aN C ns na nl ++ ([cYear y0 y1 y2 C y_isThere y_taken y_took] ++ ([cOb o0 C o_of]))))))))) H := hP
    have hD : va_D A (List.flatten ([cLockRail L0 (aU 0) (aR 0) (aR2 0) h_images (aS 0) n0 y0 o0 C ] ++ (wReader aU C us ua ++ (wRail aR C rs ra ++ (wRail aR2 C (va_up rs_2 10 0) ra_3 ++ (wSlots aS C sa sl ++ (wNight n0 aN C ns na nl ++ ([cYear y0 y1 y2 C y_isThere y_taken y_took] ++ ([cOb o0 C o_of]))))))))) := hD
    refine gs_L21_54 (rs_V21_42 (As := [.ref (aR2 0), .int 1]) (rest := []) ⟨hx, hb, hml, hown, hw⟩ hK hN hP hD (k_X11_allOn l D C _ L0 aR2 n0 aN (aU 0) (aR 0) (aR2 0) h_images (aS 0) y0 o0  (va_up rs_2 10 0) ra_3 ns na nl 1 h) (cwV 2 hw (goodV mw_4_124 mw_4_126 mw_s63 mw_1_1 mw_4_127) rfl rfl rfl (by decide +kernel) ⟨Nat.le_of_ble_eq_true rfl, Nat.le_of_ble_eq_true rfl⟩) rfl rfl rfl hl.1 rfl (Nat.le_of_ble_eq_true rfl) dX11_penny_39 ⟨Nat.zero_le _, Nat.zero_le _⟩) hP hD hS hA (fun r8 u H locs h hP hD hS => ?_)
    obtain ⟨aN4, ns_5, na_6, nl_7⟩ := u
    have hP : va_P D vwCl (List.flatten ([cLockRail L0 (aU 0) (aR 0) (aR2 0) h_images (aS 0) n0 y0 o0 C ] ++ (wReader aU C us ua ++ (wRail aR C rs ra ++ (wRail aR2 C (va_up rs_2 10 0) ra_3 ++ (wSlots aS C sa sl ++ (wNight n0 aN4 C ns_5 na_6 nl_7 ++ ([cYear y0 y1 y2 C y_isThere y_taken y_took] ++ ([cOb o0 C o_of]))))))))) H := hP
    have hD : va_D A (List.flatten ([cLockRail L0 (aU 0) (aR 0) (aR2 0) h_images (aS 0) n0 y0 o0 C ] ++ (wReader aU C us ua ++ (wRail aR C rs ra ++ (wRail aR2 C (va_up rs_2 10 0) ra_3 ++ (wSlots aS C sa sl ++ (wNight n0 aN4 C ns_5 na_6 nl_7 ++ ([cYear y0 y1 y2 C y_isThere y_taken y_took] ++ ([cOb o0 C o_of]))))))))) := hD
    refine lv_lstore_n (lv' := [(1, .long r8), (0, .ref L0)]) hx hb dX11_penny_42 rfl hl (by decide) rfl (fun ls hl => ?_)
    refine lv_aload_n hx hb dX11_penny_43 rfl (lv_at hl 1 rfl) ?_
    refine va_get (D := D) (ci := 11) (v := .ref (aR2 0)) (C := RX11) (T := TX11) (N := 8) hx hb hw inW_X11 hown hK hP 0 rfl rfl 2 (by decide) (hw _ mw_2_145) (fun _ h9 => h9) rfl dX11_penny_44 ?_
    refine lv_iconst (v := 1) hx hb dX11_penny_47 (by decide) ?_
    refine va_putN (D := D) (ci := 4) (v := .int 1) (ty := .boolean) (C := RX4) (T := TX4) (N := 16) hx hb hw inW_X4 tyX4 tyX4_ok nmX4 hown hK hP hD hS 26 rfl rfl 14 (by decide) hn245 (fun _ h9 => h9) rfl (by decide +kernel) rfl rfl (Nat.le_of_ble_eq_true rfl) dX11_penny_48 (fun H locs hP hD hS => ?_)
    refine lv_lload_n hx hb dX11_penny_51 rfl (lv_at hl 0 rfl) ?_
    refine lv_aload_n hx hb dX11_penny_52 rfl (lv_at hl 1 rfl) ?_
    refine lv_aload_n hx hb dX11_penny_53 rfl (lv_at hl 1 rfl) ?_
    refine va_get (D := D) (ci := 11) (v := .ref (aR2 0)) (C := RX11) (T := TX11) (N := 8) hx hb hw inW_X11 hown hK hP 0 rfl rfl 2 (by decide) (hw _ mw_2_145) (fun _ h9 => h9) rfl dX11_penny_54 ?_
    refine lv_iconst (v := 1) hx hb dX11_penny_57 (by decide) ?_
    have hP : va_P D vwCl (List.flatten ([cLockRail L0 (aU 0) (aR 0) (aR2 0) h_images (aS 0) n0 y0 o0 C ] ++ (wReader aU C us ua ++ (wRail aR C rs ra ++ (wRail aR2 C (va_up rs_2 10 1) ra_3 ++ (wSlots aS C sa sl ++ (wNight n0 aN4 C ns_5 na_6 nl_7 ++ ([cYear y0 y1 y2 C y_isThere y_taken y_took] ++ ([cOb o0 C o_of]))))))))) H := hP
    have hD : va_D A (List.flatten ([cLockRail L0 (aU 0) (aR 0) (aR2 0) h_images (aS 0) n0 y0 o0 C ] ++ (wReader aU C us ua ++ (wRail aR C rs ra ++ (wRail aR2 C (va_up rs_2 10 1) ra_3 ++ (wSlots aS C sa sl ++ (wNight n0 aN4 C ns_5 na_6 nl_7 ++ ([cYear y0 y1 y2 C y_isThere y_taken y_took] ++ ([cOb o0 C o_of]))))))))) := hD
    refine gs_L21_54 (rs_V21_42 (As := [.ref (aR2 0), .int 1]) (rest := [.long r8]) ⟨hx, hb, hml, hown, hw⟩ hK hN hP hD (k_X11_allOn l D C _ L0 aR2 n0 aN4 (aU 0) (aR 0) (aR2 0) h_images (aS 0) y0 o0  (va_up rs_2 10 1) ra_3 ns_5 na_6 nl_7 1 h) (cwV 2 hw (goodV mw_4_124 mw_4_126 mw_s63 mw_1_1 mw_4_127) rfl rfl rfl (by decide +kernel) ⟨Nat.le_of_ble_eq_true rfl, Nat.le_of_ble_eq_true rfl⟩) rfl rfl rfl hl.1 rfl (Nat.le_of_ble_eq_true rfl) dX11_penny_58 ⟨Nat.zero_le _, Nat.zero_le _⟩) hP hD hS hA (fun r13 u H locs h hP hD hS => ?_)
    obtain ⟨aN9, ns_10, na_11, nl_12⟩ := u
    have hP : va_P D vwCl (List.flatten ([cLockRail L0 (aU 0) (aR 0) (aR2 0) h_images (aS 0) n0 y0 o0 C ] ++ (wReader aU C us ua ++ (wRail aR C rs ra ++ (wRail aR2 C (va_up rs_2 10 1) ra_3 ++ (wSlots aS C sa sl ++ (wNight n0 aN9 C ns_10 na_11 nl_12 ++ ([cYear y0 y1 y2 C y_isThere y_taken y_took] ++ ([cOb o0 C o_of]))))))))) H := hP
    have hD : va_D A (List.flatten ([cLockRail L0 (aU 0) (aR 0) (aR2 0) h_images (aS 0) n0 y0 o0 C ] ++ (wReader aU C us ua ++ (wRail aR C rs ra ++ (wRail aR2 C (va_up rs_2 10 1) ra_3 ++ (wSlots aS C sa sl ++ (wNight n0 aN9 C ns_10 na_11 nl_12 ++ ([cYear y0 y1 y2 C y_isThere y_taken y_took] ++ ([cOb o0 C o_of]))))))))) := hD
    refine lv_lsub hx hb dX11_penny_61 ?_
    refine lv_aload_n hx hb dX11_penny_62 rfl (lv_at hl 1 rfl) ?_
    refine va_get (D := D) (ci := 11) (v := .ref (aR 0)) (C := RX11) (T := TX11) (N := 8) hx hb hw inW_X11 hown hK hP 0 rfl rfl 1 (by decide) (hw _ mw_2_144) (fun _ h9 => h9) rfl dX11_penny_63 ?_
    refine gs_L21_76 (rs_VN21_34 (As := []) (rest := [.long (r8 - r13)]) ⟨hx, hb, hml, hown, hw⟩ hK hN hP hD (k_X4_wages l D C _ aR  rs ra  h) ⟨va_cnB 0 hw (goodN mw_4_119) rfl rfl rfl (hN.m 62 rfl) (hw _ mw_1_4) (by decide +kernel) ⟨Nat.le_of_ble_eq_true rfl, Nat.le_of_ble_eq_true rfl⟩, hw _ mw_4_118, hw _ mw_s62⟩ rfl rfl rfl hl.1 rfl (Nat.le_of_ble_eq_true rfl) dX11_penny_66 ⟨Nat.zero_le _, Nat.zero_le _⟩) hP hD hS hA (fun r14 u H locs h hP hD hS => ?_)
    have hP : va_P D vwCl (List.flatten ([cLockRail L0 (aU 0) (aR 0) (aR2 0) h_images (aS 0) n0 y0 o0 C ] ++ (wReader aU C us ua ++ (wRail aR C rs ra ++ (wRail aR2 C (va_up rs_2 10 1) ra_3 ++ (wSlots aS C sa sl ++ (wNight n0 aN9 C ns_10 na_11 nl_12 ++ ([cYear y0 y1 y2 C y_isThere y_taken y_took] ++ ([cOb o0 C o_of]))))))))) H := hP
    have hD : va_D A (List.flatten ([cLockRail L0 (aU 0) (aR 0) (aR2 0) h_images (aS 0) n0 y0 o0 C ] ++ (wReader aU C us ua ++ (wRail aR C rs ra ++ (wRail aR2 C (va_up rs_2 10 1) ra_3 ++ (wSlots aS C sa sl ++ (wNight n0 aN9 C ns_10 na_11 nl_12 ++ ([cYear y0 y1 y2 C y_isThere y_taken y_took] ++ ([cOb o0 C o_of]))))))))) := hD
    refine lv_lsub hx hb dX11_penny_69 ?_
    rw [← hQ]
    exact cRetL (v := ((r8 - r13) - r14)) (aN9, (va_up rs_2 10 1), ra_3, ns_10, na_11, nl_12) hx hb hr hlocks hS hP hD h dX11_penny_70
  · have h := h.2 c1
    refine lv_ldc2 (v := (-1000000000000)) hx hb hown (hw _ mw_4_222) dX11_penny_10 ?_
    rw [← hQ]
    exact cRetL (v := (-1000000000000)) (aN, rs2, ra2, ns, na, nl) hx hb hr hlocks hS hP hD h dX11_penny_13
abbrev vsX11_findSpared : List Cond := Cond.code yX11_findSpared cX11_findSpared 5 none :: WS
abbrev rmX11_findSpared : Room := { frames := 4, cells := 0, slots := 0, locals := 105 }
set_option maxHeartbeats 4000000 in
set_option maxRecDepth 100000 in
theorem k_X11_findSpared (l : Launch) (D : va_G) (C : Nat → ClassId) (sz : Nat) (L0 : Nat) (aR : Nat → Nat) (aR2 : Nat → Nat) (n0 : Nat) (aN : Nat → Nat) (o0 : Nat) (h_reader : Nat) (h_images : Nat) (h_slots : Nat) (h_triedYear : Nat) (rs : Nat → Int32) (ra : Nat → Nat → Int32) (rs2 : Nat → Int32) (ra2 : Nat → Nat → Int32) (ns : Nat → Int32) (na : Nat → Nat → Int32) (nl : Nat → Nat → Int64) (o_of : Nat → Int64)  {post : (Nat → Int32) → (Nat → Nat → Int32) → (Nat → Int32) → (Nat → Nat → Int32) → (Nat → Nat → Int64) → (Nat → Int64) → Prop} (h : P_X11_findSpared rs ra rs2 ra2 ns na nl o_of post) : Met l yX11_findSpared vsX11_findSpared rmX11_findSpared (cPre D C [.ref L0] sz ([cLockRail L0 h_reader (aR 0) (aR2 0) h_images h_slots n0 h_triedYear o0 C ] ++ (wRail aR C rs ra ++ (wRail aR2 C rs2 ra2 ++ (wNight n0 aN C ns na nl ++ ([cOb o0 C o_of])))))) (cQv D (fun (u : (Nat → Nat) × (Nat → Int32) × (Nat → Nat → Int32) × (Nat → Int32) × (Nat → Nat → Int32) × (Nat → Nat → Int64) × (Nat → Int64)) => post u.2.1 u.2.2.1 u.2.2.2.1 u.2.2.2.2.1 u.2.2.2.2.2.1 u.2.2.2.2.2.2) (fun u => [cLockRail L0 h_reader (aR 0) (aR2 0) h_images h_slots n0 h_triedYear o0 C ] ++ (wRail aR C rs ra ++ (wRail aR2 C u.2.1 u.2.2.1 ++ (wNight n0 u.1 C u.2.2.2.1 u.2.2.2.2.1 u.2.2.2.2.2.1 ++ ([cOb o0 C u.2.2.2.2.2.2]))))) (va_A (List.flatten ([cLockRail L0 h_reader (aR 0) (aR2 0) h_images h_slots n0 h_triedYear o0 C ] ++ (wRail aR C rs ra ++ (wRail aR2 C rs2 ra2 ++ (wNight n0 aN C ns na nl ++ ([cOb o0 C o_of])))))) sz)) 0 0 (va_A (List.flatten ([cLockRail L0 h_reader (aR 0) (aR2 0) h_images h_slots n0 h_triedYear o0 C ] ++ (wRail aR C rs ra ++ (wRail aR2 C rs2 ra2 ++ (wNight n0 aN C ns na nl ++ ([cOb o0 C o_of])))))) sz) := by
  refine cStart (QA := fun A => cQv D (fun (u : (Nat → Nat) × (Nat → Int32) × (Nat → Nat → Int32) × (Nat → Int32) × (Nat → Nat → Int32) × (Nat → Nat → Int64) × (Nat → Int64)) => post u.2.1 u.2.2.1 u.2.2.2.1 u.2.2.2.2.1 u.2.2.2.2.2.1 u.2.2.2.2.2.2) (fun u => [cLockRail L0 h_reader (aR 0) (aR2 0) h_images h_slots n0 h_triedYear o0 C ] ++ (wRail aR C rs ra ++ (wRail aR2 C u.2.1 u.2.2.1 ++ (wNight n0 u.1 C u.2.2.2.1 u.2.2.2.2.1 u.2.2.2.2.2.1 ++ ([cOb o0 C u.2.2.2.2.2.2]))))) A) (cc := cX11_findSpared) (maxL := 5) (ret := none) (by decide) (Nat.le_of_ble_eq_true rfl) ?_
  intro p e s m args below meth c A ls hx hb hr hml hown hw hlocks hname hK hN hA hP hD hS hl
  generalize hQ : MQ below _ args s 0 0 A = Q
  have hl : lv_has ls 5 [(0, .ref L0)] := hl
  have hn97 : (Cond.fieldLinkNest "LockRail" 97 "LockRail$Rail" "bikes" "LLockRail$Bikes;" "LockRail").before args s = true := hN.f 61 rfl
  have hn161 : (Cond.fieldLinkNest "LockRail" 161 "LockRail$Bikes" "count" "I" "LockRail").before args s = true := hN.f 20 rfl
  have hn245 : (Cond.fieldLinkNest "LockRail" 245 "LockRail$Rail" "watched" "Z" "LockRail").before args s = true := hN.f 73 rfl
  obtain ⟨H, hH⟩ : ∃ H, H = s.heap := ⟨_, rfl⟩
  obtain ⟨locs, hlo⟩ : ∃ z : List Loc, z = [] := ⟨_, rfl⟩
  have hP : va_P D vwCl (List.flatten ([cLockRail L0 h_reader (aR 0) (aR2 0) h_images h_slots n0 h_triedYear o0 C ] ++ (wRail aR C rs ra ++ (wRail aR2 C rs2 ra2 ++ (wNight n0 aN C ns na nl ++ ([cOb o0 C o_of])))))) H := by rw [hH]; exact hP
  have hS : va_S A s.heap H locs := by rw [hH, hlo]; exact hS
  rw [show W p l e rmX11_findSpared s m args below meth c s.heap [] 0 0 Q (F0 m 0 ls []) = W p l e rmX11_findSpared s m args below meth c H locs 0 0 Q (F0 m 0 ls []) from by rw [hH, hlo]]
  have N92 : ∀ (rs2 : Nat → Int32) (ra2 : Nat → Nat → Int32) (ns : Nat → Int32) (na : Nat → Nat → Int32) (nl : Nat → Nat → Int64) (n92 : Nat) (x1_ : Int32) (o_of : Nat → Int64) (aN : Nat → Nat) (H : Heap) (locs : List Loc) (ls : Array Slot), P_X11_findSpared_92 rs ra post  rs2 ra2 ns na nl n92 x1_ o_of → va_P D vwCl (List.flatten ([cLockRail L0 h_reader (aR 0) (aR2 0) h_images h_slots n0 h_triedYear o0 C ] ++ (wRail aR C rs ra ++ (wRail aR2 C rs2 ra2 ++ (wNight n0 aN C ns na nl ++ ([cOb o0 C o_of])))))) H → va_D A (List.flatten ([cLockRail L0 h_reader (aR 0) (aR2 0) h_images h_slots n0 h_triedYear o0 C ] ++ (wRail aR C rs ra ++ (wRail aR2 C rs2 ra2 ++ (wNight n0 aN C ns na nl ++ ([cOb o0 C o_of])))))) → va_S A s.heap H locs → lv_has ls 5 [(0, .ref L0), (1, .int x1_)] → W p l e rmX11_findSpared s m args below meth c H locs 0 0 Q (F0 m 92 ls []) := by
    intro rs2 ra2 ns na nl
    intro n92
    induction n92 with
    | zero => intro x1_ o_of aN H locs ls h hP hD hS hl; exact False.elim h
    | succ n92 ih92 =>
      have N130 : ∀ (x1_ : Int32) (x2_ : Int64) (n130 : Nat) (x4_ : Int32) (o_of : Nat → Int64) (aN : Nat → Nat) (H : Heap) (locs : List Loc) (ls : Array Slot), P_X11_findSpared_130 rs ra rs2 ra2 ns na nl post (P_X11_findSpared_92 rs ra post  rs2 ra2 ns na nl n92) x1_ x2_ n130 x4_ o_of → va_P D vwCl (List.flatten ([cLockRail L0 h_reader (aR 0) (aR2 0) h_images h_slots n0 h_triedYear o0 C ] ++ (wRail aR C rs ra ++ (wRail aR2 C rs2 ra2 ++ (wNight n0 aN C ns na nl ++ ([cOb o0 C o_of])))))) H → va_D A (List.flatten ([cLockRail L0 h_reader (aR 0) (aR2 0) h_images h_slots n0 h_triedYear o0 C ] ++ (wRail aR C rs ra ++ (wRail aR2 C rs2 ra2 ++ (wNight n0 aN C ns na nl ++ ([cOb o0 C o_of])))))) → va_S A s.heap H locs → lv_has ls 5 [(0, .ref L0), (1, .int x1_), (2, .long x2_), (4, .int x4_)] → W p l e rmX11_findSpared s m args below meth c H locs 0 0 Q (F0 m 130 ls []) := by
        intro x1_ x2_
        intro n130
        induction n130 with
        | zero => intro x4_ o_of aN H locs ls h hP hD hS hl; exact False.elim h
        | succ n130 ih130 =>
          intro x4_ o_of aN H locs ls h hP hD hS hl
          refine lv_iload hx hb dX11_findSpared_130 (lv_at hl 3 rfl) ?_
          refine lv_if_le (tgt := 171) hx hb dX11_findSpared_132 (by decide) (fun c1 => ?_) (fun c1 => ?_)
          · have h := h.1 c1
            refine lv_aload_n hx hb dX11_findSpared_171 rfl (lv_at hl 0 rfl) ?_
            refine va_get (D := D) (ci := 11) (v := .ref o0) (C := RX11) (T := TX11) (N := 8) hx hb hw inW_X11 hown hK hP 0 rfl rfl 7 (by decide) (hw _ mw_2_150) (fun _ h9 => h9) rfl dX11_findSpared_172 ?_
            refine lv_iload hx hb dX11_findSpared_175 (lv_at hl 3 rfl) ?_
            refine lv_lload_n hx hb dX11_findSpared_177 rfl (lv_at hl 2 rfl) ?_
            refine cLast hx hb hK hP hD hS 62 1 rfl rfl x4_.toNatClampNeg rfl h.1 dX11_findSpared_178 (fun H locs hP hD hS => ?_)
            have h := h.2
            refine lv_iinc (v := (x1_ + 1)) (lv' := [(1, .int (x1_ + 1)), (0, .ref L0), (2, .long x2_), (4, .int x4_)]) hx hb dX11_findSpared_179 hl (k := 1) rfl rfl (by decide) rfl (fun ls hl => ?_)
            refine lv_goto (tgt := 92) hx hb dX11_findSpared_182 (by decide) ?_
            have hP : va_P D vwCl (List.flatten ([cLockRail L0 h_reader (aR 0) (aR2 0) h_images h_slots n0 h_triedYear o0 C ] ++ (wRail aR C rs ra ++ (wRail aR2 C rs2 ra2 ++ (wNight n0 aN C ns na nl ++ ([cOb o0 C (vp_updL o_of x4_.toNatClampNeg x2_)])))))) H := hP
            have hD : va_D A (List.flatten ([cLockRail L0 h_reader (aR 0) (aR2 0) h_images h_slots n0 h_triedYear o0 C ] ++ (wRail aR C rs ra ++ (wRail aR2 C rs2 ra2 ++ (wNight n0 aN C ns na nl ++ ([cOb o0 C (vp_updL o_of x4_.toNatClampNeg x2_)])))))) := hD
            exact ih92 (x1_ + 1) (vp_updL o_of x4_.toNatClampNeg x2_) aN _ _ _ h hP hD hS (lv_sub hl [1, 0] rfl)
          · have h := h.2 c1
            refine lv_aload_n hx hb dX11_findSpared_135 rfl (lv_at hl 0 rfl) ?_
            refine va_get (D := D) (ci := 11) (v := .ref o0) (C := RX11) (T := TX11) (N := 8) hx hb hw inW_X11 hown hK hP 0 rfl rfl 7 (by decide) (hw _ mw_2_150) (fun _ h9 => h9) rfl dX11_findSpared_136 ?_
            refine lv_iload hx hb dX11_findSpared_139 (lv_at hl 3 rfl) ?_
            refine lv_iconst (v := 1) hx hb dX11_findSpared_141 (by decide) ?_
            refine lv_isub hx hb dX11_findSpared_142 ?_
            refine cLald hx hb hK hP 62 1 rfl rfl ((x4_ - 1).toNatClampNeg) rfl h.1 dX11_findSpared_143 ?_
            have h := h.2
            refine lv_lload_n hx hb dX11_findSpared_144 rfl (lv_at hl 2 rfl) ?_
            refine W.lcmp hx hb dX11_findSpared_145 ?_
            refine lv_if_ge (tgt := 171) hx hb dX11_findSpared_146 (by decide) (fun c2 => ?_) (fun c2 => ?_)
            · have c2 : x2_ ≤ (o_of ((x4_ - 1).toNatClampNeg)) := (lg_cmp_ge _ _).mp c2
              have h := h.1 c2
              refine lv_aload_n hx hb dX11_findSpared_171 rfl (lv_at hl 0 rfl) ?_
              refine va_get (D := D) (ci := 11) (v := .ref o0) (C := RX11) (T := TX11) (N := 8) hx hb hw inW_X11 hown hK hP 0 rfl rfl 7 (by decide) (hw _ mw_2_150) (fun _ h9 => h9) rfl dX11_findSpared_172 ?_
              refine lv_iload hx hb dX11_findSpared_175 (lv_at hl 3 rfl) ?_
              refine lv_lload_n hx hb dX11_findSpared_177 rfl (lv_at hl 2 rfl) ?_
              refine cLast hx hb hK hP hD hS 62 1 rfl rfl x4_.toNatClampNeg rfl h.1 dX11_findSpared_178 (fun H locs hP hD hS => ?_)
              have h := h.2
              refine lv_iinc (v := (x1_ + 1)) (lv' := [(1, .int (x1_ + 1)), (0, .ref L0), (2, .long x2_), (4, .int x4_)]) hx hb dX11_findSpared_179 hl (k := 1) rfl rfl (by decide) rfl (fun ls hl => ?_)
              refine lv_goto (tgt := 92) hx hb dX11_findSpared_182 (by decide) ?_
              have hP : va_P D vwCl (List.flatten ([cLockRail L0 h_reader (aR 0) (aR2 0) h_images h_slots n0 h_triedYear o0 C ] ++ (wRail aR C rs ra ++ (wRail aR2 C rs2 ra2 ++ (wNight n0 aN C ns na nl ++ ([cOb o0 C (vp_updL o_of x4_.toNatClampNeg x2_)])))))) H := hP
              have hD : va_D A (List.flatten ([cLockRail L0 h_reader (aR 0) (aR2 0) h_images h_slots n0 h_triedYear o0 C ] ++ (wRail aR C rs ra ++ (wRail aR2 C rs2 ra2 ++ (wNight n0 aN C ns na nl ++ ([cOb o0 C (vp_updL o_of x4_.toNatClampNeg x2_)])))))) := hD
              exact ih92 (x1_ + 1) (vp_updL o_of x4_.toNatClampNeg x2_) aN _ _ _ h hP hD hS (lv_sub hl [1, 0] rfl)
            · have c2 : ¬ x2_ ≤ (o_of ((x4_ - 1).toNatClampNeg)) := fun q => c2 ((lg_cmp_ge _ _).mpr q)
              have h := h.2 c2
              refine lv_aload_n hx hb dX11_findSpared_149 rfl (lv_at hl 0 rfl) ?_
              refine va_get (D := D) (ci := 11) (v := .ref o0) (C := RX11) (T := TX11) (N := 8) hx hb hw inW_X11 hown hK hP 0 rfl rfl 7 (by decide) (hw _ mw_2_150) (fun _ h9 => h9) rfl dX11_findSpared_150 ?_
              refine lv_iload hx hb dX11_findSpared_153 (lv_at hl 3 rfl) ?_
              refine lv_aload_n hx hb dX11_findSpared_155 rfl (lv_at hl 0 rfl) ?_
              refine va_get (D := D) (ci := 11) (v := .ref o0) (C := RX11) (T := TX11) (N := 8) hx hb hw inW_X11 hown hK hP 0 rfl rfl 7 (by decide) (hw _ mw_2_150) (fun _ h9 => h9) rfl dX11_findSpared_156 ?_
              refine lv_iload hx hb dX11_findSpared_159 (lv_at hl 3 rfl) ?_
              refine lv_iconst (v := 1) hx hb dX11_findSpared_161 (by decide) ?_
              refine lv_isub hx hb dX11_findSpared_162 ?_
              refine cLald hx hb hK hP 62 1 rfl rfl ((x4_ - 1).toNatClampNeg) rfl h.1 dX11_findSpared_163 ?_
              have h := h.2
              refine cLast hx hb hK hP hD hS 62 1 rfl rfl x4_.toNatClampNeg rfl h.1 dX11_findSpared_164 (fun H locs hP hD hS => ?_)
              have h := h.2
              refine lv_iinc (v := (x4_ + (-1))) (lv' := [(4, .int (x4_ + (-1))), (0, .ref L0), (1, .int x1_), (2, .long x2_)]) hx hb dX11_findSpared_165 hl (k := 3) rfl rfl (by decide) rfl (fun ls hl => ?_)
              refine lv_goto (tgt := 130) hx hb dX11_findSpared_168 (by decide) ?_
              have hP : va_P D vwCl (List.flatten ([cLockRail L0 h_reader (aR 0) (aR2 0) h_images h_slots n0 h_triedYear o0 C ] ++ (wRail aR C rs ra ++ (wRail aR2 C rs2 ra2 ++ (wNight n0 aN C ns na nl ++ ([cOb o0 C (vp_updL o_of x4_.toNatClampNeg (o_of ((x4_ - 1).toNatClampNeg)))])))))) H := hP
              have hD : va_D A (List.flatten ([cLockRail L0 h_reader (aR 0) (aR2 0) h_images h_slots n0 h_triedYear o0 C ] ++ (wRail aR C rs ra ++ (wRail aR2 C rs2 ra2 ++ (wNight n0 aN C ns na nl ++ ([cOb o0 C (vp_updL o_of x4_.toNatClampNeg (o_of ((x4_ - 1).toNatClampNeg)))])))))) := hD
              exact ih130 (x4_ + (-1)) (vp_updL o_of x4_.toNatClampNeg (o_of ((x4_ - 1).toNatClampNeg))) aN _ _ _ h hP hD hS (lv_sub hl [1, 2, 3, 0] rfl)
      intro x1_ o_of aN H locs ls h hP hD hS hl
      refine lv_iload_n hx hb dX11_findSpared_92 rfl (lv_at hl 1 rfl) ?_
      refine lv_aload_n hx hb dX11_findSpared_93 rfl (lv_at hl 0 rfl) ?_
      refine va_get (D := D) (ci := 11) (v := .ref (aR2 0)) (C := RX11) (T := TX11) (N := 8) hx hb hw inW_X11 hown hK hP 0 rfl rfl 2 (by decide) (hw _ mw_2_145) (fun _ h9 => h9) rfl dX11_findSpared_94 ?_
      refine va_getN (D := D) (ci := 4) (v := .ref (aR2 7)) (C := RX4) (T := TX4) (N := 16) hx hb hw inW_X4 hown hK hP 23 rfl rfl 5 (by decide) hn97 (fun _ h9 => h9) rfl dX11_findSpared_97 ?_
      refine va_getN (D := D) (ci := 0) (v := .int (rs2 13)) (C := RX0) (T := TX0) (N := 6) hx hb hw inW_X0 hown hK hP 30 rfl rfl 0 (by decide) hn161 (fun _ h9 => h9) rfl dX11_findSpared_100 ?_
      refine lv_icmp_ge (tgt := 185) hx hb dX11_findSpared_103 (by decide) (fun c3 => ?_) (fun c3 => ?_)
      · have h := h.1 c3
        rw [← hQ]
        exact cRetV (aN, rs2, ra2, ns, na, nl, o_of) hx hb hr hlocks hS hP hD h dX11_findSpared_185
      · have h := h.2 c3
        refine lv_aload_n hx hb dX11_findSpared_106 rfl (lv_at hl 0 rfl) ?_
        refine va_get (D := D) (ci := 11) (v := .ref o0) (C := RX11) (T := TX11) (N := 8) hx hb hw inW_X11 hown hK hP 0 rfl rfl 7 (by decide) (hw _ mw_2_150) (fun _ h9 => h9) rfl dX11_findSpared_107 ?_
        refine lv_iload_n hx hb dX11_findSpared_110 rfl (lv_at hl 1 rfl) ?_
        refine cLald hx hb hK hP 62 1 rfl rfl x1_.toNatClampNeg rfl h.1 dX11_findSpared_111 ?_
        have h := h.2
        refine lv_aload_n hx hb dX11_findSpared_112 rfl (lv_at hl 0 rfl) ?_
        refine va_get (D := D) (ci := 11) (v := .ref n0) (C := RX11) (T := TX11) (N := 8) hx hb hw inW_X11 hown hK hP 0 rfl rfl 5 (by decide) (hw _ mw_2_148) (fun _ h9 => h9) rfl dX11_findSpared_113 ?_
        refine lv_aload_n hx hb dX11_findSpared_116 rfl (lv_at hl 0 rfl) ?_
        refine va_get (D := D) (ci := 11) (v := .ref (aR2 0)) (C := RX11) (T := TX11) (N := 8) hx hb hw inW_X11 hown hK hP 0 rfl rfl 2 (by decide) (hw _ mw_2_145) (fun _ h9 => h9) rfl dX11_findSpared_117 ?_
        refine lv_iload_n hx hb dX11_findSpared_120 rfl (lv_at hl 1 rfl) ?_
        refine lv_iconst (v := 1) hx hb dX11_findSpared_121 (by decide) ?_
        refine gs_L17_77 (rs_VN17_52 (As := [.ref (aR2 0), .int x1_, .int 1]) (rest := [.long (o_of x1_.toNatClampNeg)]) ⟨hx, hb, hml, hown, hw⟩ hK hN hP hD (k_X3_costOf l D C _ n0 aN aR2  ns na nl rs2 ra2 x1_ 1 h) ⟨va_cnB 3 hw (goodN mw_4_104) rfl rfl rfl (hN.m 52 rfl) (hw _ mw_1_11) (by decide +kernel) ⟨Nat.le_of_ble_eq_true rfl, Nat.le_of_ble_eq_true rfl⟩, hw _ mw_4_103, hw _ mw_s59⟩ rfl rfl rfl hl.1 rfl (Nat.le_of_ble_eq_true rfl) dX11_findSpared_122 ⟨Nat.zero_le _, Nat.zero_le _⟩) hP hD hS hA (fun r4 u H locs h hP hD hS => ?_)
        have hP : va_P D vwCl (List.flatten ([cLockRail L0 h_reader (aR 0) (aR2 0) h_images h_slots n0 h_triedYear o0 C ] ++ (wRail aR C rs ra ++ (wRail aR2 C rs2 ra2 ++ (wNight n0 aN C ns na nl ++ ([cOb o0 C o_of])))))) H := hP
        have hD : va_D A (List.flatten ([cLockRail L0 h_reader (aR 0) (aR2 0) h_images h_slots n0 h_triedYear o0 C ] ++ (wRail aR C rs ra ++ (wRail aR2 C rs2 ra2 ++ (wNight n0 aN C ns na nl ++ ([cOb o0 C o_of])))))) := hD
        refine lv_lsub hx hb dX11_findSpared_125 ?_
        refine lv_topl (fun x5 ex5 => ?_)
        have h := h x5 ex5
        refine lv_lstore_n (lv' := [(2, .long x5), (0, .ref L0), (1, .int x1_)]) hx hb dX11_findSpared_126 rfl hl (by decide) rfl (fun ls hl => ?_)
        refine lv_iload_n hx hb dX11_findSpared_127 rfl (lv_at hl 2 rfl) ?_
        refine lv_istore (lv' := [(4, .int x1_), (2, .long x5), (0, .ref L0), (1, .int x1_)]) hx hb dX11_findSpared_128 hl (by decide) rfl (fun ls hl => ?_)
        obtain ⟨n, h⟩ := h
        exact N130 x1_ x5 n x1_ o_of aN _ _ _ h hP hD hS (lv_sub hl [2, 3, 1, 0] rfl)
  have N71 : ∀ (rs2 : Nat → Int32) (ra2 : Nat → Nat → Int32) (ns : Nat → Int32) (na : Nat → Nat → Int32) (nl : Nat → Nat → Int64) (o_of : Nat → Int64) (aN : Nat → Nat) (H : Heap) (locs : List Loc) (ls : Array Slot), P_X11_findSpared_71 rs ra post  rs2 ra2 ns na nl o_of → va_P D vwCl (List.flatten ([cLockRail L0 h_reader (aR 0) (aR2 0) h_images h_slots n0 h_triedYear o0 C ] ++ (wRail aR C rs ra ++ (wRail aR2 C rs2 ra2 ++ (wNight n0 aN C ns na nl ++ ([cOb o0 C o_of])))))) H → va_D A (List.flatten ([cLockRail L0 h_reader (aR 0) (aR2 0) h_images h_slots n0 h_triedYear o0 C ] ++ (wRail aR C rs ra ++ (wRail aR2 C rs2 ra2 ++ (wNight n0 aN C ns na nl ++ ([cOb o0 C o_of])))))) → va_S A s.heap H locs → lv_has ls 5 [(0, .ref L0)] → W p l e rmX11_findSpared s m args below meth c H locs 0 0 Q (F0 m 71 ls []) := by
    intro rs2 ra2 ns na nl o_of aN H locs ls h hP hD hS hl
    refine lv_aload_n hx hb dX11_findSpared_71 rfl (lv_at hl 0 rfl) ?_
    refine va_get (D := D) (ci := 11) (v := .ref (aR2 0)) (C := RX11) (T := TX11) (N := 8) hx hb hw inW_X11 hown hK hP 0 rfl rfl 2 (by decide) (hw _ mw_2_145) (fun _ h9 => h9) rfl dX11_findSpared_72 ?_
    refine lv_iconst (v := 1) hx hb dX11_findSpared_75 (by decide) ?_
    refine va_putN (D := D) (ci := 4) (v := .int 1) (ty := .boolean) (C := RX4) (T := TX4) (N := 16) hx hb hw inW_X4 tyX4 tyX4_ok nmX4 hown hK hP hD hS 23 rfl rfl 14 (by decide) hn245 (fun _ h9 => h9) rfl (by decide +kernel) rfl rfl (Nat.le_of_ble_eq_true rfl) dX11_findSpared_76 (fun H locs hP hD hS => ?_)
    refine lv_aload_n hx hb dX11_findSpared_79 rfl (lv_at hl 0 rfl) ?_
    refine va_get (D := D) (ci := 11) (v := .ref n0) (C := RX11) (T := TX11) (N := 8) hx hb hw inW_X11 hown hK hP 0 rfl rfl 5 (by decide) (hw _ mw_2_148) (fun _ h9 => h9) rfl dX11_findSpared_80 ?_
    refine lv_aload_n hx hb dX11_findSpared_83 rfl (lv_at hl 0 rfl) ?_
    refine va_get (D := D) (ci := 11) (v := .ref (aR2 0)) (C := RX11) (T := TX11) (N := 8) hx hb hw inW_X11 hown hK hP 0 rfl rfl 2 (by decide) (hw _ mw_2_145) (fun _ h9 => h9) rfl dX11_findSpared_84 ?_
    have hP : va_P D vwCl (List.flatten ([cLockRail L0 h_reader (aR 0) (aR2 0) h_images h_slots n0 h_triedYear o0 C ] ++ (wRail aR C rs ra ++ (wRail aR2 C (va_up rs2 10 1) ra2 ++ (wNight n0 aN C ns na nl ++ ([cOb o0 C o_of])))))) H := hP
    have hD : va_D A (List.flatten ([cLockRail L0 h_reader (aR 0) (aR2 0) h_images h_slots n0 h_triedYear o0 C ] ++ (wRail aR C rs ra ++ (wRail aR2 C (va_up rs2 10 1) ra2 ++ (wNight n0 aN C ns na nl ++ ([cOb o0 C o_of])))))) := hD
    refine gs_V17_69 (rs_VN17_52 (As := [.ref (aR2 0)]) (rest := []) ⟨hx, hb, hml, hown, hw⟩ hK hN hP hD (k_X3_play l D C _ n0 aN aR2  ns na nl (va_up rs2 10 1) ra2  h) ⟨va_cnB 1 hw (goodN mw_4_24) rfl rfl rfl (hN.m 45 rfl) (hw _ mw_1_11) (by decide +kernel) ⟨Nat.le_of_ble_eq_true rfl, Nat.le_of_ble_eq_true rfl⟩, hw _ mw_4_23, hw _ mw_s48⟩ rfl rfl rfl hl.1 rfl (Nat.le_of_ble_eq_true rfl) dX11_findSpared_87 ⟨Nat.zero_le _, Nat.zero_le _⟩) hP hD hS hA (fun u H locs h hP hD hS => ?_)
    obtain ⟨aN6, ns_7, na_8, nl_9⟩ := u
    have hP : va_P D vwCl (List.flatten ([cLockRail L0 h_reader (aR 0) (aR2 0) h_images h_slots n0 h_triedYear o0 C ] ++ (wRail aR C rs ra ++ (wRail aR2 C (va_up rs2 10 1) ra2 ++ (wNight n0 aN6 C ns_7 na_8 nl_9 ++ ([cOb o0 C o_of])))))) H := hP
    have hD : va_D A (List.flatten ([cLockRail L0 h_reader (aR 0) (aR2 0) h_images h_slots n0 h_triedYear o0 C ] ++ (wRail aR C rs ra ++ (wRail aR2 C (va_up rs2 10 1) ra2 ++ (wNight n0 aN6 C ns_7 na_8 nl_9 ++ ([cOb o0 C o_of])))))) := hD
    refine lv_iconst (v := 0) hx hb dX11_findSpared_90 (by decide) ?_
    refine lv_istore_n (lv' := [(1, .int 0), (0, .ref L0)]) hx hb dX11_findSpared_91 rfl hl (by decide) rfl (fun ls hl => ?_)
    obtain ⟨n, h⟩ := h
    exact N92 (va_up rs2 10 1) ra2 ns_7 na_8 nl_9 n 0 o_of aN6 _ _ _ h hP hD hS (lv_sub hl [1, 0] rfl)
  have N32 : ∀ (rs2 : Nat → Int32) (ra2 : Nat → Nat → Int32) (ns : Nat → Int32) (na : Nat → Nat → Int32) (nl : Nat → Nat → Int64) (n32 : Nat) (x1_ : Int32) (o_of : Nat → Int64) (aN : Nat → Nat) (H : Heap) (locs : List Loc) (ls : Array Slot), P_X11_findSpared_32 rs ra post (fun (rs2 : Nat → Int32) (ra2 : Nat → Nat → Int32) (ns : Nat → Int32) (na : Nat → Nat → Int32) (nl : Nat → Nat → Int64) (o_of : Nat → Int64) => P_X11_findSpared_71 rs ra post  rs2 ra2 ns na nl o_of) rs2 ra2 ns na nl n32 x1_ o_of → va_P D vwCl (List.flatten ([cLockRail L0 h_reader (aR 0) (aR2 0) h_images h_slots n0 h_triedYear o0 C ] ++ (wRail aR C rs ra ++ (wRail aR2 C rs2 ra2 ++ (wNight n0 aN C ns na nl ++ ([cOb o0 C o_of])))))) H → va_D A (List.flatten ([cLockRail L0 h_reader (aR 0) (aR2 0) h_images h_slots n0 h_triedYear o0 C ] ++ (wRail aR C rs ra ++ (wRail aR2 C rs2 ra2 ++ (wNight n0 aN C ns na nl ++ ([cOb o0 C o_of])))))) → va_S A s.heap H locs → lv_has ls 5 [(0, .ref L0), (1, .int x1_)] → W p l e rmX11_findSpared s m args below meth c H locs 0 0 Q (F0 m 32 ls []) := by
    intro rs2 ra2 ns na nl
    intro n32
    induction n32 with
    | zero => intro x1_ o_of aN H locs ls h hP hD hS hl; exact False.elim h
    | succ n32 ih32 =>
      intro x1_ o_of aN H locs ls h hP hD hS hl
      refine lv_iload_n hx hb dX11_findSpared_32 rfl (lv_at hl 1 rfl) ?_
      refine lv_aload_n hx hb dX11_findSpared_33 rfl (lv_at hl 0 rfl) ?_
      refine va_get (D := D) (ci := 11) (v := .ref (aR2 0)) (C := RX11) (T := TX11) (N := 8) hx hb hw inW_X11 hown hK hP 0 rfl rfl 2 (by decide) (hw _ mw_2_145) (fun _ h9 => h9) rfl dX11_findSpared_34 ?_
      refine va_getN (D := D) (ci := 4) (v := .ref (aR2 7)) (C := RX4) (T := TX4) (N := 16) hx hb hw inW_X4 hown hK hP 23 rfl rfl 5 (by decide) hn97 (fun _ h9 => h9) rfl dX11_findSpared_37 ?_
      refine va_getN (D := D) (ci := 0) (v := .int (rs2 13)) (C := RX0) (T := TX0) (N := 6) hx hb hw inW_X0 hown hK hP 30 rfl rfl 0 (by decide) hn161 (fun _ h9 => h9) rfl dX11_findSpared_40 ?_
      refine lv_icmp_ge (tgt := 71) hx hb dX11_findSpared_43 (by decide) (fun c10 => ?_) (fun c10 => ?_)
      · have h := h.1 c10
        exact N71 rs2 ra2 ns na nl o_of aN _ _ _ h hP hD hS (lv_sub hl [0] rfl)
      · have h := h.2 c10
        refine lv_aload_n hx hb dX11_findSpared_46 rfl (lv_at hl 0 rfl) ?_
        refine va_get (D := D) (ci := 11) (v := .ref o0) (C := RX11) (T := TX11) (N := 8) hx hb hw inW_X11 hown hK hP 0 rfl rfl 7 (by decide) (hw _ mw_2_150) (fun _ h9 => h9) rfl dX11_findSpared_47 ?_
        refine lv_iload_n hx hb dX11_findSpared_50 rfl (lv_at hl 1 rfl) ?_
        refine lv_aload_n hx hb dX11_findSpared_51 rfl (lv_at hl 0 rfl) ?_
        refine va_get (D := D) (ci := 11) (v := .ref n0) (C := RX11) (T := TX11) (N := 8) hx hb hw inW_X11 hown hK hP 0 rfl rfl 5 (by decide) (hw _ mw_2_148) (fun _ h9 => h9) rfl dX11_findSpared_52 ?_
        refine lv_aload_n hx hb dX11_findSpared_55 rfl (lv_at hl 0 rfl) ?_
        refine va_get (D := D) (ci := 11) (v := .ref (aR2 0)) (C := RX11) (T := TX11) (N := 8) hx hb hw inW_X11 hown hK hP 0 rfl rfl 2 (by decide) (hw _ mw_2_145) (fun _ h9 => h9) rfl dX11_findSpared_56 ?_
        refine lv_iload_n hx hb dX11_findSpared_59 rfl (lv_at hl 1 rfl) ?_
        refine lv_iconst (v := 1) hx hb dX11_findSpared_60 (by decide) ?_
        refine gs_L17_77 (rs_VN17_52 (As := [.ref (aR2 0), .int x1_, .int 1]) (rest := [.int x1_, .ref o0]) ⟨hx, hb, hml, hown, hw⟩ hK hN hP hD (k_X3_costOf l D C _ n0 aN aR2  ns na nl rs2 ra2 x1_ 1 h) ⟨va_cnB 3 hw (goodN mw_4_104) rfl rfl rfl (hN.m 52 rfl) (hw _ mw_1_11) (by decide +kernel) ⟨Nat.le_of_ble_eq_true rfl, Nat.le_of_ble_eq_true rfl⟩, hw _ mw_4_103, hw _ mw_s59⟩ rfl rfl rfl hl.1 rfl (Nat.le_of_ble_eq_true rfl) dX11_findSpared_61 ⟨Nat.zero_le _, Nat.zero_le _⟩) hP hD hS hA (fun r11 u H locs h hP hD hS => ?_)
        have hP : va_P D vwCl (List.flatten ([cLockRail L0 h_reader (aR 0) (aR2 0) h_images h_slots n0 h_triedYear o0 C ] ++ (wRail aR C rs ra ++ (wRail aR2 C rs2 ra2 ++ (wNight n0 aN C ns na nl ++ ([cOb o0 C o_of])))))) H := hP
        have hD : va_D A (List.flatten ([cLockRail L0 h_reader (aR 0) (aR2 0) h_images h_slots n0 h_triedYear o0 C ] ++ (wRail aR C rs ra ++ (wRail aR2 C rs2 ra2 ++ (wNight n0 aN C ns na nl ++ ([cOb o0 C o_of])))))) := hD
        refine cLast hx hb hK hP hD hS 62 1 rfl rfl x1_.toNatClampNeg rfl h.1 dX11_findSpared_64 (fun H locs hP hD hS => ?_)
        have h := h.2
        refine lv_iinc (v := (x1_ + 1)) (lv' := [(1, .int (x1_ + 1)), (0, .ref L0)]) hx hb dX11_findSpared_65 hl (k := 1) rfl rfl (by decide) rfl (fun ls hl => ?_)
        refine lv_goto (tgt := 32) hx hb dX11_findSpared_68 (by decide) ?_
        have hP : va_P D vwCl (List.flatten ([cLockRail L0 h_reader (aR 0) (aR2 0) h_images h_slots n0 h_triedYear o0 C ] ++ (wRail aR C rs ra ++ (wRail aR2 C rs2 ra2 ++ (wNight n0 aN C ns na nl ++ ([cOb o0 C (vp_updL o_of x1_.toNatClampNeg r11)])))))) H := hP
        have hD : va_D A (List.flatten ([cLockRail L0 h_reader (aR 0) (aR2 0) h_images h_slots n0 h_triedYear o0 C ] ++ (wRail aR C rs ra ++ (wRail aR2 C rs2 ra2 ++ (wNight n0 aN C ns na nl ++ ([cOb o0 C (vp_updL o_of x1_.toNatClampNeg r11)])))))) := hD
        exact ih32 (x1_ + 1) (vp_updL o_of x1_.toNatClampNeg r11) aN _ _ _ h hP hD hS (lv_sub hl [1, 0] rfl)
  refine lv_aload_n hx hb dX11_findSpared_0 rfl (lv_at hl 0 rfl) ?_
  refine va_get (D := D) (ci := 11) (v := .ref (aR2 0)) (C := RX11) (T := TX11) (N := 8) hx hb hw inW_X11 hown hK hP 0 rfl rfl 2 (by decide) (hw _ mw_2_145) (fun _ h9 => h9) rfl dX11_findSpared_1 ?_
  refine lv_aload_n hx hb dX11_findSpared_4 rfl (lv_at hl 0 rfl) ?_
  refine va_get (D := D) (ci := 11) (v := .ref (aR 0)) (C := RX11) (T := TX11) (N := 8) hx hb hw inW_X11 hown hK hP 0 rfl rfl 1 (by decide) (hw _ mw_2_144) (fun _ h9 => h9) rfl dX11_findSpared_5 ?_
  refine gs_V17_67 (rs_VN17_50 (As := [.ref (aR 0)]) (rest := []) ⟨hx, hb, hml, hown, hw⟩ hK hN hP hD (k_X4_copyFrom l D C _ aR2 aR  rs2 ra2 rs ra  h) ⟨va_cnB 1 hw (goodN mw_3_126) rfl rfl rfl (hN.m 23 rfl) (hw _ mw_1_4) (by decide +kernel) ⟨Nat.le_of_ble_eq_true rfl, Nat.le_of_ble_eq_true rfl⟩, hw _ mw_3_125, hw _ mw_s26⟩ rfl rfl rfl hl.1 rfl (Nat.le_of_ble_eq_true rfl) dX11_findSpared_8 ⟨Nat.zero_le _, Nat.zero_le _⟩) hP hD hS hA (fun u H locs h hP hD hS => ?_)
  obtain ⟨rs_12, ra_13⟩ := u
  have hP : va_P D vwCl (List.flatten ([cLockRail L0 h_reader (aR 0) (aR2 0) h_images h_slots n0 h_triedYear o0 C ] ++ (wRail aR C rs ra ++ (wRail aR2 C rs_12 ra_13 ++ (wNight n0 aN C ns na nl ++ ([cOb o0 C o_of])))))) H := hP
  have hD : va_D A (List.flatten ([cLockRail L0 h_reader (aR 0) (aR2 0) h_images h_slots n0 h_triedYear o0 C ] ++ (wRail aR C rs ra ++ (wRail aR2 C rs_12 ra_13 ++ (wNight n0 aN C ns na nl ++ ([cOb o0 C o_of])))))) := hD
  refine lv_aload_n hx hb dX11_findSpared_11 rfl (lv_at hl 0 rfl) ?_
  refine va_get (D := D) (ci := 11) (v := .ref (aR2 0)) (C := RX11) (T := TX11) (N := 8) hx hb hw inW_X11 hown hK hP 0 rfl rfl 2 (by decide) (hw _ mw_2_145) (fun _ h9 => h9) rfl dX11_findSpared_12 ?_
  refine lv_iconst (v := 0) hx hb dX11_findSpared_15 (by decide) ?_
  refine va_putN (D := D) (ci := 4) (v := .int 0) (ty := .boolean) (C := RX4) (T := TX4) (N := 16) hx hb hw inW_X4 tyX4 tyX4_ok nmX4 hown hK hP hD hS 23 rfl rfl 14 (by decide) hn245 (fun _ h9 => h9) rfl (by decide +kernel) rfl rfl (Nat.le_of_ble_eq_true rfl) dX11_findSpared_16 (fun H locs hP hD hS => ?_)
  refine lv_aload_n hx hb dX11_findSpared_19 rfl (lv_at hl 0 rfl) ?_
  refine va_get (D := D) (ci := 11) (v := .ref n0) (C := RX11) (T := TX11) (N := 8) hx hb hw inW_X11 hown hK hP 0 rfl rfl 5 (by decide) (hw _ mw_2_148) (fun _ h9 => h9) rfl dX11_findSpared_20 ?_
  refine lv_aload_n hx hb dX11_findSpared_23 rfl (lv_at hl 0 rfl) ?_
  refine va_get (D := D) (ci := 11) (v := .ref (aR2 0)) (C := RX11) (T := TX11) (N := 8) hx hb hw inW_X11 hown hK hP 0 rfl rfl 2 (by decide) (hw _ mw_2_145) (fun _ h9 => h9) rfl dX11_findSpared_24 ?_
  have hP : va_P D vwCl (List.flatten ([cLockRail L0 h_reader (aR 0) (aR2 0) h_images h_slots n0 h_triedYear o0 C ] ++ (wRail aR C rs ra ++ (wRail aR2 C (va_up rs_12 10 0) ra_13 ++ (wNight n0 aN C ns na nl ++ ([cOb o0 C o_of])))))) H := hP
  have hD : va_D A (List.flatten ([cLockRail L0 h_reader (aR 0) (aR2 0) h_images h_slots n0 h_triedYear o0 C ] ++ (wRail aR C rs ra ++ (wRail aR2 C (va_up rs_12 10 0) ra_13 ++ (wNight n0 aN C ns na nl ++ ([cOb o0 C o_of])))))) := hD
  refine gs_V17_69 (rs_VN17_52 (As := [.ref (aR2 0)]) (rest := []) ⟨hx, hb, hml, hown, hw⟩ hK hN hP hD (k_X3_play l D C _ n0 aN aR2  ns na nl (va_up rs_12 10 0) ra_13  h) ⟨va_cnB 1 hw (goodN mw_4_24) rfl rfl rfl (hN.m 45 rfl) (hw _ mw_1_11) (by decide +kernel) ⟨Nat.le_of_ble_eq_true rfl, Nat.le_of_ble_eq_true rfl⟩, hw _ mw_4_23, hw _ mw_s48⟩ rfl rfl rfl hl.1 rfl (Nat.le_of_ble_eq_true rfl) dX11_findSpared_27 ⟨Nat.zero_le _, Nat.zero_le _⟩) hP hD hS hA (fun u H locs h hP hD hS => ?_)
  obtain ⟨aN14, ns_15, na_16, nl_17⟩ := u
  have hP : va_P D vwCl (List.flatten ([cLockRail L0 h_reader (aR 0) (aR2 0) h_images h_slots n0 h_triedYear o0 C ] ++ (wRail aR C rs ra ++ (wRail aR2 C (va_up rs_12 10 0) ra_13 ++ (wNight n0 aN14 C ns_15 na_16 nl_17 ++ ([cOb o0 C o_of])))))) H := hP
  have hD : va_D A (List.flatten ([cLockRail L0 h_reader (aR 0) (aR2 0) h_images h_slots n0 h_triedYear o0 C ] ++ (wRail aR C rs ra ++ (wRail aR2 C (va_up rs_12 10 0) ra_13 ++ (wNight n0 aN14 C ns_15 na_16 nl_17 ++ ([cOb o0 C o_of])))))) := hD
  refine lv_iconst (v := 0) hx hb dX11_findSpared_30 (by decide) ?_
  refine lv_istore_n (lv' := [(1, .int 0), (0, .ref L0)]) hx hb dX11_findSpared_31 rfl hl (by decide) rfl (fun ls hl => ?_)
  obtain ⟨n, h⟩ := h
  exact N32 (va_up rs_12 10 0) ra_13 ns_15 na_16 nl_17 n 0 o_of aN14 _ _ _ h hP hD hS (lv_sub hl [1, 0] rfl)
abbrev vsX11_enough : List Cond := Cond.code yX11_enough cX11_enough 5 (some .int) :: WS
abbrev rmX11_enough : Room := { frames := 5, cells := 0, slots := 0, locals := 129 }
set_option maxHeartbeats 4000000 in
set_option maxRecDepth 100000 in
theorem k_X11_enough (l : Launch) (D : va_G) (C : Nat → ClassId) (sz : Nat) (L0 : Nat) (aU : Nat → Nat) (aR : Nat → Nat) (aR2 : Nat → Nat) (aS : Nat → Nat) (n0 : Nat) (aN : Nat → Nat) (y0 : Nat) (y1 : Nat) (y2 : Nat) (o0 : Nat) (h_images : Nat) (us : Nat → Int32) (ua : Nat → Nat → Int32) (rs : Nat → Int32) (ra : Nat → Nat → Int32) (rs2 : Nat → Int32) (ra2 : Nat → Nat → Int32) (sa : Nat → Nat → Int32) (sl : Nat → Nat → Int64) (ns : Nat → Int32) (na : Nat → Nat → Int32) (nl : Nat → Nat → Int64) (y_isThere : Int32) (y_taken : Nat → Int32) (y_took : Nat → Int32) (o_of : Nat → Int64)  {post : Int32 → (Nat → Int32) → (Nat → Nat → Int32) → (Nat → Int32) → (Nat → Nat → Int32) → (Nat → Nat → Int64) → (Nat → Int64) → Prop} (h : P_X11_enough rs ra rs2 ra2 ns na nl o_of post) : Met l yX11_enough vsX11_enough rmX11_enough (cPre D C [.ref L0] sz ([cLockRail L0 (aU 0) (aR 0) (aR2 0) h_images (aS 0) n0 y0 o0 C ] ++ (wReader aU C us ua ++ (wRail aR C rs ra ++ (wRail aR2 C rs2 ra2 ++ (wSlots aS C sa sl ++ (wNight n0 aN C ns na nl ++ ([cYear y0 y1 y2 C y_isThere y_taken y_took] ++ ([cOb o0 C o_of]))))))))) (cQi D (fun (r : Int32) (u : (Nat → Nat) × (Nat → Int32) × (Nat → Nat → Int32) × (Nat → Int32) × (Nat → Nat → Int32) × (Nat → Nat → Int64) × (Nat → Int64)) => post r u.2.1 u.2.2.1 u.2.2.2.1 u.2.2.2.2.1 u.2.2.2.2.2.1 u.2.2.2.2.2.2) (fun u => [cLockRail L0 (aU 0) (aR 0) (aR2 0) h_images (aS 0) n0 y0 o0 C ] ++ (wReader aU C us ua ++ (wRail aR C rs ra ++ (wRail aR2 C u.2.1 u.2.2.1 ++ (wSlots aS C sa sl ++ (wNight n0 u.1 C u.2.2.2.1 u.2.2.2.2.1 u.2.2.2.2.2.1 ++ ([cYear y0 y1 y2 C y_isThere y_taken y_took] ++ ([cOb o0 C u.2.2.2.2.2.2])))))))) (va_A (List.flatten ([cLockRail L0 (aU 0) (aR 0) (aR2 0) h_images (aS 0) n0 y0 o0 C ] ++ (wReader aU C us ua ++ (wRail aR C rs ra ++ (wRail aR2 C rs2 ra2 ++ (wSlots aS C sa sl ++ (wNight n0 aN C ns na nl ++ ([cYear y0 y1 y2 C y_isThere y_taken y_took] ++ ([cOb o0 C o_of]))))))))) sz)) 0 0 (va_A (List.flatten ([cLockRail L0 (aU 0) (aR 0) (aR2 0) h_images (aS 0) n0 y0 o0 C ] ++ (wReader aU C us ua ++ (wRail aR C rs ra ++ (wRail aR2 C rs2 ra2 ++ (wSlots aS C sa sl ++ (wNight n0 aN C ns na nl ++ ([cYear y0 y1 y2 C y_isThere y_taken y_took] ++ ([cOb o0 C o_of]))))))))) sz) := by
  refine cStart (QA := fun A => cQi D (fun (r : Int32) (u : (Nat → Nat) × (Nat → Int32) × (Nat → Nat → Int32) × (Nat → Int32) × (Nat → Nat → Int32) × (Nat → Nat → Int64) × (Nat → Int64)) => post r u.2.1 u.2.2.1 u.2.2.2.1 u.2.2.2.2.1 u.2.2.2.2.2.1 u.2.2.2.2.2.2) (fun u => [cLockRail L0 (aU 0) (aR 0) (aR2 0) h_images (aS 0) n0 y0 o0 C ] ++ (wReader aU C us ua ++ (wRail aR C rs ra ++ (wRail aR2 C u.2.1 u.2.2.1 ++ (wSlots aS C sa sl ++ (wNight n0 u.1 C u.2.2.2.1 u.2.2.2.2.1 u.2.2.2.2.2.1 ++ ([cYear y0 y1 y2 C y_isThere y_taken y_took] ++ ([cOb o0 C u.2.2.2.2.2.2])))))))) A) (cc := cX11_enough) (maxL := 5) (ret := (some .int)) (by decide) (Nat.le_of_ble_eq_true rfl) ?_
  intro p e s m args below meth c A ls hx hb hr hml hown hw hlocks hname hK hN hA hP hD hS hl
  generalize hQ : MQ below _ args s 0 0 A = Q
  have hl : lv_has ls 5 [(0, .ref L0)] := hl
  have hn97 : (Cond.fieldLinkNest "LockRail" 97 "LockRail$Rail" "bikes" "LLockRail$Bikes;" "LockRail").before args s = true := hN.f 61 rfl
  have hn161 : (Cond.fieldLinkNest "LockRail" 161 "LockRail$Bikes" "count" "I" "LockRail").before args s = true := hN.f 20 rfl
  have hn241 : (Cond.fieldLinkNest "LockRail" 241 "LockRail$Rail" "watchTold" "Z" "LockRail").before args s = true := hN.f 70 rfl
  obtain ⟨H, hH⟩ : ∃ H, H = s.heap := ⟨_, rfl⟩
  obtain ⟨locs, hlo⟩ : ∃ z : List Loc, z = [] := ⟨_, rfl⟩
  have hP : va_P D vwCl (List.flatten ([cLockRail L0 (aU 0) (aR 0) (aR2 0) h_images (aS 0) n0 y0 o0 C ] ++ (wReader aU C us ua ++ (wRail aR C rs ra ++ (wRail aR2 C rs2 ra2 ++ (wSlots aS C sa sl ++ (wNight n0 aN C ns na nl ++ ([cYear y0 y1 y2 C y_isThere y_taken y_took] ++ ([cOb o0 C o_of]))))))))) H := by rw [hH]; exact hP
  have hS : va_S A s.heap H locs := by rw [hH, hlo]; exact hS
  rw [show W p l e rmX11_enough s m args below meth c s.heap [] 0 0 Q (F0 m 0 ls []) = W p l e rmX11_enough s m args below meth c H locs 0 0 Q (F0 m 0 ls []) from by rw [hH, hlo]]
  have N70 : ∀ (x1_ : Int32) (x2_ : Int64) (rs2 : Nat → Int32) (ra2 : Nat → Nat → Int32) (ns : Nat → Int32) (na : Nat → Nat → Int32) (nl : Nat → Nat → Int64) (o_of : Nat → Int64) (aN : Nat → Nat) (H : Heap) (locs : List Loc) (ls : Array Slot), P_X11_enough_70 rs ra post  x1_ x2_ rs2 ra2 ns na nl o_of → va_P D vwCl (List.flatten ([cLockRail L0 (aU 0) (aR 0) (aR2 0) h_images (aS 0) n0 y0 o0 C ] ++ (wReader aU C us ua ++ (wRail aR C rs ra ++ (wRail aR2 C rs2 ra2 ++ (wSlots aS C sa sl ++ (wNight n0 aN C ns na nl ++ ([cYear y0 y1 y2 C y_isThere y_taken y_took] ++ ([cOb o0 C o_of]))))))))) H → va_D A (List.flatten ([cLockRail L0 (aU 0) (aR 0) (aR2 0) h_images (aS 0) n0 y0 o0 C ] ++ (wReader aU C us ua ++ (wRail aR C rs ra ++ (wRail aR2 C rs2 ra2 ++ (wSlots aS C sa sl ++ (wNight n0 aN C ns na nl ++ ([cYear y0 y1 y2 C y_isThere y_taken y_took] ++ ([cOb o0 C o_of]))))))))) → va_S A s.heap H locs → lv_has ls 5 [(0, .ref L0), (1, .int x1_), (2, .long x2_)] → W p l e rmX11_enough s m args below meth c H locs 0 0 Q (F0 m 70 ls []) := by
    intro x1_ x2_ rs2 ra2 ns na nl o_of aN H locs ls h hP hD hS hl
    refine lv_lload_n hx hb dX11_enough_70 rfl (lv_at hl 2 rfl) ?_
    refine lv_aload_n hx hb dX11_enough_71 rfl (lv_at hl 0 rfl) ?_
    refine va_get (D := D) (ci := 11) (v := .ref (aR 0)) (C := RX11) (T := TX11) (N := 8) hx hb hw inW_X11 hown hK hP 0 rfl rfl 1 (by decide) (hw _ mw_2_144) (fun _ h9 => h9) rfl dX11_enough_72 ?_
    refine gs_L21_76 (rs_VN21_34 (As := []) (rest := [.long x2_]) ⟨hx, hb, hml, hown, hw⟩ hK hN hP hD (k_X4_wages l D C _ aR  rs ra  h) ⟨va_cnB 0 hw (goodN mw_4_119) rfl rfl rfl (hN.m 62 rfl) (hw _ mw_1_4) (by decide +kernel) ⟨Nat.le_of_ble_eq_true rfl, Nat.le_of_ble_eq_true rfl⟩, hw _ mw_4_118, hw _ mw_s62⟩ rfl rfl rfl hl.1 rfl (Nat.le_of_ble_eq_true rfl) dX11_enough_75 ⟨Nat.zero_le _, Nat.zero_le _⟩) hP hD hS hA (fun r1 u H locs h hP hD hS => ?_)
    have hP : va_P D vwCl (List.flatten ([cLockRail L0 (aU 0) (aR 0) (aR2 0) h_images (aS 0) n0 y0 o0 C ] ++ (wReader aU C us ua ++ (wRail aR C rs ra ++ (wRail aR2 C rs2 ra2 ++ (wSlots aS C sa sl ++ (wNight n0 aN C ns na nl ++ ([cYear y0 y1 y2 C y_isThere y_taken y_took] ++ ([cOb o0 C o_of]))))))))) H := hP
    have hD : va_D A (List.flatten ([cLockRail L0 (aU 0) (aR 0) (aR2 0) h_images (aS 0) n0 y0 o0 C ] ++ (wReader aU C us ua ++ (wRail aR C rs ra ++ (wRail aR2 C rs2 ra2 ++ (wSlots aS C sa sl ++ (wNight n0 aN C ns na nl ++ ([cYear y0 y1 y2 C y_isThere y_taken y_took] ++ ([cOb o0 C o_of]))))))))) := hD
    refine W.lcmp hx hb dX11_enough_78 ?_
    refine lv_if_lt (tgt := 86) hx hb dX11_enough_79 (by decide) (fun c2 => ?_) (fun c2 => ?_)
    · have c2 : x2_ < r1 := (lg_cmp_lt _ _).mp c2
      have h := h.1 c2
      refine lv_iconst (v := (-1)) hx hb dX11_enough_86 (by decide) ?_
      rw [← hQ]
      exact cRetI (v := (-1)) (aN, rs2, ra2, ns, na, nl, o_of) hx hb hr hlocks hS hP hD h dX11_enough_87
    · have c2 : ¬ x2_ < r1 := fun q => c2 ((lg_cmp_lt _ _).mpr q)
      have h := h.2 c2
      refine lv_iload_n hx hb dX11_enough_82 rfl (lv_at hl 1 rfl) ?_
      refine lv_goto (tgt := 87) hx hb dX11_enough_83 (by decide) ?_
      rw [← hQ]
      exact cRetI (v := x1_) (aN, rs2, ra2, ns, na, nl, o_of) hx hb hr hlocks hS hP hD h dX11_enough_87
  have N24 : ∀ (rs2 : Nat → Int32) (ra2 : Nat → Nat → Int32) (ns : Nat → Int32) (na : Nat → Nat → Int32) (nl : Nat → Nat → Int64) (o_of : Nat → Int64) (n24 : Nat) (x1_ : Int32) (x2_ : Int64) (x4_ : Int32) (aN : Nat → Nat) (H : Heap) (locs : List Loc) (ls : Array Slot), P_X11_enough_24 rs ra post (fun (x1_ : Int32) (x2_ : Int64) (rs2 : Nat → Int32) (ra2 : Nat → Nat → Int32) (ns : Nat → Int32) (na : Nat → Nat → Int32) (nl : Nat → Nat → Int64) (o_of : Nat → Int64) => P_X11_enough_70 rs ra post  x1_ x2_ rs2 ra2 ns na nl o_of) rs2 ra2 ns na nl o_of n24 x1_ x2_ x4_ → va_P D vwCl (List.flatten ([cLockRail L0 (aU 0) (aR 0) (aR2 0) h_images (aS 0) n0 y0 o0 C ] ++ (wReader aU C us ua ++ (wRail aR C rs ra ++ (wRail aR2 C rs2 ra2 ++ (wSlots aS C sa sl ++ (wNight n0 aN C ns na nl ++ ([cYear y0 y1 y2 C y_isThere y_taken y_took] ++ ([cOb o0 C o_of]))))))))) H → va_D A (List.flatten ([cLockRail L0 (aU 0) (aR 0) (aR2 0) h_images (aS 0) n0 y0 o0 C ] ++ (wReader aU C us ua ++ (wRail aR C rs ra ++ (wRail aR2 C rs2 ra2 ++ (wSlots aS C sa sl ++ (wNight n0 aN C ns na nl ++ ([cYear y0 y1 y2 C y_isThere y_taken y_took] ++ ([cOb o0 C o_of]))))))))) → va_S A s.heap H locs → lv_has ls 5 [(0, .ref L0), (1, .int x1_), (2, .long x2_), (4, .int x4_)] → W p l e rmX11_enough s m args below meth c H locs 0 0 Q (F0 m 24 ls []) := by
    intro rs2 ra2 ns na nl o_of
    intro n24
    induction n24 with
    | zero => intro x1_ x2_ x4_ aN H locs ls h hP hD hS hl; exact False.elim h
    | succ n24 ih24 =>
      intro x1_ x2_ x4_ aN H locs ls h hP hD hS hl
      refine lv_iload hx hb dX11_enough_24 (lv_at hl 3 rfl) ?_
      refine lv_aload_n hx hb dX11_enough_26 rfl (lv_at hl 0 rfl) ?_
      refine va_get (D := D) (ci := 11) (v := .ref (aR 0)) (C := RX11) (T := TX11) (N := 8) hx hb hw inW_X11 hown hK hP 0 rfl rfl 1 (by decide) (hw _ mw_2_144) (fun _ h9 => h9) rfl dX11_enough_27 ?_
      refine va_getN (D := D) (ci := 4) (v := .ref (aR 7)) (C := RX4) (T := TX4) (N := 16) hx hb hw inW_X4 hown hK hP 4 rfl rfl 5 (by decide) hn97 (fun _ h9 => h9) rfl dX11_enough_30 ?_
      refine va_getN (D := D) (ci := 0) (v := .int (rs 13)) (C := RX0) (T := TX0) (N := 6) hx hb hw inW_X0 hown hK hP 11 rfl rfl 0 (by decide) hn161 (fun _ h9 => h9) rfl dX11_enough_33 ?_
      refine lv_icmp_ge (tgt := 70) hx hb dX11_enough_36 (by decide) (fun c3 => ?_) (fun c3 => ?_)
      · have h := h.1 c3
        exact N70 x1_ x2_ rs2 ra2 ns na nl o_of aN _ _ _ h hP hD hS (lv_sub hl [0, 1, 2] rfl)
      · have h := h.2 c3
        refine lv_lload_n hx hb dX11_enough_39 rfl (lv_at hl 2 rfl) ?_
        refine lv_aload_n hx hb dX11_enough_40 rfl (lv_at hl 0 rfl) ?_
        refine va_get (D := D) (ci := 11) (v := .ref (aR 0)) (C := RX11) (T := TX11) (N := 8) hx hb hw inW_X11 hown hK hP 0 rfl rfl 1 (by decide) (hw _ mw_2_144) (fun _ h9 => h9) rfl dX11_enough_41 ?_
        refine gs_L21_76 (rs_VN21_34 (As := []) (rest := [.long x2_]) ⟨hx, hb, hml, hown, hw⟩ hK hN hP hD (k_X4_wages l D C _ aR  rs ra  h) ⟨va_cnB 0 hw (goodN mw_4_119) rfl rfl rfl (hN.m 62 rfl) (hw _ mw_1_4) (by decide +kernel) ⟨Nat.le_of_ble_eq_true rfl, Nat.le_of_ble_eq_true rfl⟩, hw _ mw_4_118, hw _ mw_s62⟩ rfl rfl rfl hl.1 rfl (Nat.le_of_ble_eq_true rfl) dX11_enough_44 ⟨Nat.zero_le _, Nat.zero_le _⟩) hP hD hS hA (fun r4 u H locs h hP hD hS => ?_)
        have hP : va_P D vwCl (List.flatten ([cLockRail L0 (aU 0) (aR 0) (aR2 0) h_images (aS 0) n0 y0 o0 C ] ++ (wReader aU C us ua ++ (wRail aR C rs ra ++ (wRail aR2 C rs2 ra2 ++ (wSlots aS C sa sl ++ (wNight n0 aN C ns na nl ++ ([cYear y0 y1 y2 C y_isThere y_taken y_took] ++ ([cOb o0 C o_of]))))))))) H := hP
        have hD : va_D A (List.flatten ([cLockRail L0 (aU 0) (aR 0) (aR2 0) h_images (aS 0) n0 y0 o0 C ] ++ (wReader aU C us ua ++ (wRail aR C rs ra ++ (wRail aR2 C rs2 ra2 ++ (wSlots aS C sa sl ++ (wNight n0 aN C ns na nl ++ ([cYear y0 y1 y2 C y_isThere y_taken y_took] ++ ([cOb o0 C o_of]))))))))) := hD
        refine W.lcmp hx hb dX11_enough_47 ?_
        refine lv_if_ge (tgt := 70) hx hb dX11_enough_48 (by decide) (fun c5 => ?_) (fun c5 => ?_)
        · have c5 : r4 ≤ x2_ := (lg_cmp_ge _ _).mp c5
          have h := h.1 c5
          exact N70 x1_ x2_ rs2 ra2 ns na nl o_of aN _ _ _ h hP hD hS (lv_sub hl [0, 1, 2] rfl)
        · have c5 : ¬ r4 ≤ x2_ := fun q => c5 ((lg_cmp_ge _ _).mpr q)
          have h := h.2 c5
          refine lv_lload_n hx hb dX11_enough_51 rfl (lv_at hl 2 rfl) ?_
          refine lv_aload_n hx hb dX11_enough_52 rfl (lv_at hl 0 rfl) ?_
          refine va_get (D := D) (ci := 11) (v := .ref o0) (C := RX11) (T := TX11) (N := 8) hx hb hw inW_X11 hown hK hP 0 rfl rfl 7 (by decide) (hw _ mw_2_150) (fun _ h9 => h9) rfl dX11_enough_53 ?_
          refine lv_iload hx hb dX11_enough_56 (lv_at hl 3 rfl) ?_
          refine cLald hx hb hK hP 72 1 rfl rfl x4_.toNatClampNeg rfl h.1 dX11_enough_58 ?_
          have h := h.2
          refine lv_ladd hx hb dX11_enough_59 ?_
          refine lv_topl (fun x6 ex6 => ?_)
          have h := h x6 ex6
          refine lv_lstore_n (lv' := [(2, .long x6), (0, .ref L0), (1, .int x1_), (4, .int x4_)]) hx hb dX11_enough_60 rfl hl (by decide) rfl (fun ls hl => ?_)
          refine lv_iinc (v := (x1_ + 1)) (lv' := [(1, .int (x1_ + 1)), (2, .long x6), (0, .ref L0), (4, .int x4_)]) hx hb dX11_enough_61 hl (k := 2) rfl rfl (by decide) rfl (fun ls hl => ?_)
          refine lv_iinc (v := (x4_ + 1)) (lv' := [(4, .int (x4_ + 1)), (1, .int (x1_ + 1)), (2, .long x6), (0, .ref L0)]) hx hb dX11_enough_64 hl (k := 3) rfl rfl (by decide) rfl (fun ls hl => ?_)
          refine lv_goto (tgt := 24) hx hb dX11_enough_67 (by decide) ?_
          exact ih24 (x1_ + 1) x6 (x4_ + 1) aN _ _ _ h hP hD hS (lv_sub hl [3, 1, 2, 0] rfl)
  refine lv_aload_n hx hb dX11_enough_0 rfl (lv_at hl 0 rfl) ?_
  refine va_get (D := D) (ci := 11) (v := .ref (aR 0)) (C := RX11) (T := TX11) (N := 8) hx hb hw inW_X11 hown hK hP 0 rfl rfl 1 (by decide) (hw _ mw_2_144) (fun _ h9 => h9) rfl dX11_enough_1 ?_
  refine va_getN (D := D) (ci := 4) (v := .int (rs 7)) (C := RX4) (T := TX4) (N := 16) hx hb hw inW_X4 hown hK hP 4 rfl rfl 11 (by decide) hn241 (fun _ h9 => h9) rfl dX11_enough_4 ?_
  refine lv_if_ne (tgt := 13) hx hb dX11_enough_7 (by decide) (fun c7 => ?_) (fun c7 => ?_)
  · have h := h.1 c7
    refine lv_aload_n hx hb dX11_enough_13 rfl (lv_at hl 0 rfl) ?_
    refine gs_V21_71 (rs_V21_54 (As := []) (rest := []) ⟨hx, hb, hml, hown, hw⟩ hK hN hP hD (k_X11_findSpared l D C _ L0 aR aR2 n0 aN o0 (aU 0) h_images (aS 0) y0  rs ra rs2 ra2 ns na nl o_of  h) (cwV 0 hw (goodV mw_5_41 mw_5_43 mw_s77 mw_1_1 mw_5_44) rfl rfl rfl (by decide +kernel) ⟨Nat.le_of_ble_eq_true rfl, Nat.le_of_ble_eq_true rfl⟩) rfl rfl rfl hl.1 rfl (Nat.le_of_ble_eq_true rfl) dX11_enough_14 ⟨Nat.zero_le _, Nat.zero_le _⟩) hP hD hS hA (fun u H locs h hP hD hS => ?_)
    obtain ⟨aN8, rs_9, ra_10, ns_11, na_12, nl_13, of_14⟩ := u
    have hP : va_P D vwCl (List.flatten ([cLockRail L0 (aU 0) (aR 0) (aR2 0) h_images (aS 0) n0 y0 o0 C ] ++ (wReader aU C us ua ++ (wRail aR C rs ra ++ (wRail aR2 C rs_9 ra_10 ++ (wSlots aS C sa sl ++ (wNight n0 aN8 C ns_11 na_12 nl_13 ++ ([cYear y0 y1 y2 C y_isThere y_taken y_took] ++ ([cOb o0 C of_14]))))))))) H := hP
    have hD : va_D A (List.flatten ([cLockRail L0 (aU 0) (aR 0) (aR2 0) h_images (aS 0) n0 y0 o0 C ] ++ (wReader aU C us ua ++ (wRail aR C rs ra ++ (wRail aR2 C rs_9 ra_10 ++ (wSlots aS C sa sl ++ (wNight n0 aN8 C ns_11 na_12 nl_13 ++ ([cYear y0 y1 y2 C y_isThere y_taken y_took] ++ ([cOb o0 C of_14]))))))))) := hD
    refine lv_iconst (v := 0) hx hb dX11_enough_17 (by decide) ?_
    refine lv_istore_n (lv' := [(1, .int 0), (0, .ref L0)]) hx hb dX11_enough_18 rfl hl (by decide) rfl (fun ls hl => ?_)
    refine lv_lconst (v := 0) hx hb dX11_enough_19 (by decide) ?_
    refine lv_lstore_n (lv' := [(2, .long 0), (1, .int 0), (0, .ref L0)]) hx hb dX11_enough_20 rfl hl (by decide) rfl (fun ls hl => ?_)
    refine lv_iconst (v := 0) hx hb dX11_enough_21 (by decide) ?_
    refine lv_istore (lv' := [(4, .int 0), (2, .long 0), (1, .int 0), (0, .ref L0)]) hx hb dX11_enough_22 hl (by decide) rfl (fun ls hl => ?_)
    obtain ⟨n, h⟩ := h
    exact N24 rs_9 ra_10 ns_11 na_12 nl_13 of_14 n 0 0 0 aN8 _ _ _ h hP hD hS (lv_sub hl [3, 2, 1, 0] rfl)
  · have h := h.2 c7
    refine lv_bipush (v := (-2)) hx hb dX11_enough_10 (by decide) ?_
    rw [← hQ]
    exact cRetI (v := (-2)) (aN, rs2, ra2, ns, na, nl, o_of) hx hb hr hlocks hS hP hD h dX11_enough_12
abbrev vsX11_anyWanted : List Cond := Cond.code yX11_anyWanted cX11_anyWanted 3 (some .boolean) :: WS
abbrev rmX11_anyWanted : Room := { frames := 4, cells := 0, slots := 0, locals := 98 }
set_option maxHeartbeats 4000000 in
set_option maxRecDepth 100000 in
theorem k_X11_anyWanted (l : Launch) (D : va_G) (C : Nat → ClassId) (sz : Nat) (L0 : Nat) (aR0 : Nat → Nat) (n0 : Nat) (aN : Nat → Nat) (h_reader : Nat) (h_rail : Nat) (h_trial : Nat) (h_images : Nat) (h_slots : Nat) (h_triedYear : Nat) (h_ofBikes : Nat) (rs0 : Nat → Int32) (ra0 : Nat → Nat → Int32) (ns : Nat → Int32) (na : Nat → Nat → Int32) (nl : Nat → Nat → Int64)  {post : Int32 → (Nat → Int32) → (Nat → Nat → Int32) → Prop} (h : P_X11_anyWanted rs0 ra0 ns na post) : Met l yX11_anyWanted vsX11_anyWanted rmX11_anyWanted (cPre D C [.ref L0, .ref (aR0 0)] sz ([cLockRail L0 h_reader h_rail h_trial h_images h_slots n0 h_triedYear h_ofBikes C ] ++ (wRail aR0 C rs0 ra0 ++ (wNight n0 aN C ns na nl)))) (cQi D (fun (r : Int32) (u : (Nat → Int32) × (Nat → Nat → Int32)) => post r u.1 u.2) (fun u => [cLockRail L0 h_reader h_rail h_trial h_images h_slots n0 h_triedYear h_ofBikes C ] ++ (wRail aR0 C rs0 ra0 ++ (wNight n0 aN C u.1 u.2 nl))) (va_A (List.flatten ([cLockRail L0 h_reader h_rail h_trial h_images h_slots n0 h_triedYear h_ofBikes C ] ++ (wRail aR0 C rs0 ra0 ++ (wNight n0 aN C ns na nl)))) sz)) 0 0 (va_A (List.flatten ([cLockRail L0 h_reader h_rail h_trial h_images h_slots n0 h_triedYear h_ofBikes C ] ++ (wRail aR0 C rs0 ra0 ++ (wNight n0 aN C ns na nl)))) sz) := by
  refine cStart (QA := fun A => cQi D (fun (r : Int32) (u : (Nat → Int32) × (Nat → Nat → Int32)) => post r u.1 u.2) (fun u => [cLockRail L0 h_reader h_rail h_trial h_images h_slots n0 h_triedYear h_ofBikes C ] ++ (wRail aR0 C rs0 ra0 ++ (wNight n0 aN C u.1 u.2 nl))) A) (cc := cX11_anyWanted) (maxL := 3) (ret := (some .boolean)) (by decide) (Nat.le_of_ble_eq_true rfl) ?_
  intro p e s m args below meth c A ls hx hb hr hml hown hw hlocks hname hK hN hA hP hD hS hl
  generalize hQ : MQ below _ args s 0 0 A = Q
  have hl : lv_has ls 3 [(0, .ref L0), (1, .ref (aR0 0))] := hl
  have hn279 : (Cond.fieldLinkNest "LockRail" 279 "LockRail$Rail" "thieves" "LLockRail$Thieves;" "LockRail").before args s = true := hN.f 64 rfl
  have hn283 : (Cond.fieldLinkNest "LockRail" 283 "LockRail$Thieves" "count" "I" "LockRail").before args s = true := hN.f 35 rfl
  obtain ⟨H, hH⟩ : ∃ H, H = s.heap := ⟨_, rfl⟩
  obtain ⟨locs, hlo⟩ : ∃ z : List Loc, z = [] := ⟨_, rfl⟩
  have hP : va_P D vwCl (List.flatten ([cLockRail L0 h_reader h_rail h_trial h_images h_slots n0 h_triedYear h_ofBikes C ] ++ (wRail aR0 C rs0 ra0 ++ (wNight n0 aN C ns na nl)))) H := by rw [hH]; exact hP
  have hS : va_S A s.heap H locs := by rw [hH, hlo]; exact hS
  rw [show W p l e rmX11_anyWanted s m args below meth c s.heap [] 0 0 Q (F0 m 0 ls []) = W p l e rmX11_anyWanted s m args below meth c H locs 0 0 Q (F0 m 0 ls []) from by rw [hH, hlo]]
  have N10 : ∀ (ns : Nat → Int32) (na : Nat → Nat → Int32) (n10 : Nat) (x2_ : Int32) (H : Heap) (locs : List Loc) (ls : Array Slot), P_X11_anyWanted_10 rs0 ra0 post  ns na n10 x2_ → va_P D vwCl (List.flatten ([cLockRail L0 h_reader h_rail h_trial h_images h_slots n0 h_triedYear h_ofBikes C ] ++ (wRail aR0 C rs0 ra0 ++ (wNight n0 aN C ns na nl)))) H → va_D A (List.flatten ([cLockRail L0 h_reader h_rail h_trial h_images h_slots n0 h_triedYear h_ofBikes C ] ++ (wRail aR0 C rs0 ra0 ++ (wNight n0 aN C ns na nl)))) → va_S A s.heap H locs → lv_has ls 3 [(0, .ref L0), (1, .ref (aR0 0)), (2, .int x2_)] → W p l e rmX11_anyWanted s m args below meth c H locs 0 0 Q (F0 m 10 ls []) := by
    intro ns na
    intro n10
    induction n10 with
    | zero => intro x2_ H locs ls h hP hD hS hl; exact False.elim h
    | succ n10 ih10 =>
      intro x2_ H locs ls h hP hD hS hl
      refine lv_iload_n hx hb dX11_anyWanted_10 rfl (lv_at hl 2 rfl) ?_
      refine lv_aload_n hx hb dX11_anyWanted_11 rfl (lv_at hl 1 rfl) ?_
      refine va_getN (D := D) (ci := 4) (v := .ref (aR0 13)) (C := RX4) (T := TX4) (N := 16) hx hb hw inW_X4 hown hK hP 1 rfl rfl 6 (by decide) hn279 (fun _ h9 => h9) rfl dX11_anyWanted_12 ?_
      refine va_getN (D := D) (ci := 9) (v := .int (rs0 14)) (C := RX9) (T := TX9) (N := 6) hx hb hw inW_X9 hown hK hP 14 rfl rfl 0 (by decide) hn283 (fun _ h9 => h9) rfl dX11_anyWanted_15 ?_
      refine lv_icmp_ge (tgt := 41) hx hb dX11_anyWanted_18 (by decide) (fun c1 => ?_) (fun c1 => ?_)
      · have h := h.1 c1
        refine lv_iconst (v := 0) hx hb dX11_anyWanted_41 (by decide) ?_
        rw [← hQ]
        exact cRetZ (v := 0) (ns, na) hx hb hr hlocks hS hP hD (Or.inl rfl) h dX11_anyWanted_42
      · have h := h.2 c1
        refine lv_aload_n hx hb dX11_anyWanted_21 rfl (lv_at hl 0 rfl) ?_
        refine va_get (D := D) (ci := 11) (v := .ref n0) (C := RX11) (T := TX11) (N := 8) hx hb hw inW_X11 hown hK hP 0 rfl rfl 5 (by decide) (hw _ mw_2_148) (fun _ h9 => h9) rfl dX11_anyWanted_22 ?_
        refine lv_aload_n hx hb dX11_anyWanted_25 rfl (lv_at hl 1 rfl) ?_
        refine lv_iload_n hx hb dX11_anyWanted_26 rfl (lv_at hl 2 rfl) ?_
        refine gs_I10_78 (rs_VN10_38 (As := [.ref (aR0 0), .int x2_]) (rest := []) ⟨hx, hb, hml, hown, hw⟩ hK hN hP hD (k_X3_wantedBy l D C _ n0 aN aR0  ns na nl rs0 ra0 x2_ h) ⟨va_cnB 2 hw (goodN mw_4_7) rfl rfl rfl (hN.m 43 rfl) (hw _ mw_1_11) (by decide +kernel) ⟨Nat.le_of_ble_eq_true rfl, Nat.le_of_ble_eq_true rfl⟩, hw _ mw_4_6, hw _ mw_s45⟩ rfl rfl rfl hl.1 rfl (Nat.le_of_ble_eq_true rfl) dX11_anyWanted_27 ⟨Nat.zero_le _, Nat.zero_le _⟩) hP hD hS hA (fun r2 u H locs h hP hD hS => ?_)
        have hP : va_P D vwCl (List.flatten ([cLockRail L0 h_reader h_rail h_trial h_images h_slots n0 h_triedYear h_ofBikes C ] ++ (wRail aR0 C rs0 ra0 ++ (wNight n0 aN C ns na nl)))) H := hP
        have hD : va_D A (List.flatten ([cLockRail L0 h_reader h_rail h_trial h_images h_slots n0 h_triedYear h_ofBikes C ] ++ (wRail aR0 C rs0 ra0 ++ (wNight n0 aN C ns na nl)))) := hD
        refine lv_if_le (tgt := 35) hx hb dX11_anyWanted_30 (by decide) (fun c3 => ?_) (fun c3 => ?_)
        · have h := h.1 c3
          refine lv_iinc (v := (x2_ + 1)) (lv' := [(2, .int (x2_ + 1)), (0, .ref L0), (1, .ref (aR0 0))]) hx hb dX11_anyWanted_35 hl (k := 2) rfl rfl (by decide) rfl (fun ls hl => ?_)
          refine lv_goto (tgt := 10) hx hb dX11_anyWanted_38 (by decide) ?_
          exact ih10 (x2_ + 1) _ _ _ h hP hD hS (lv_sub hl [1, 2, 0] rfl)
        · have h := h.2 c3
          refine lv_iconst (v := 1) hx hb dX11_anyWanted_33 (by decide) ?_
          rw [← hQ]
          exact cRetZ (v := 1) (ns, na) hx hb hr hlocks hS hP hD (Or.inr rfl) h dX11_anyWanted_34
  refine lv_aload_n hx hb dX11_anyWanted_0 rfl (lv_at hl 0 rfl) ?_
  refine va_get (D := D) (ci := 11) (v := .ref n0) (C := RX11) (T := TX11) (N := 8) hx hb hw inW_X11 hown hK hP 0 rfl rfl 5 (by decide) (hw _ mw_2_148) (fun _ h9 => h9) rfl dX11_anyWanted_1 ?_
  refine lv_aload_n hx hb dX11_anyWanted_4 rfl (lv_at hl 1 rfl) ?_
  refine gs_V10_48 (rs_VN10_38 (As := [.ref (aR0 0)]) (rest := []) ⟨hx, hb, hml, hown, hw⟩ hK hN hP hD (k_X3_lookAt l D C _ n0 aN aR0  ns na nl rs0 ra0  h) ⟨va_cnB 1 hw (goodN mw_3_219) rfl rfl rfl (hN.m 37 rfl) (hw _ mw_1_11) (by decide +kernel) ⟨Nat.le_of_ble_eq_true rfl, Nat.le_of_ble_eq_true rfl⟩, hw _ mw_3_218, hw _ mw_s40⟩ rfl rfl rfl hl.1 rfl (Nat.le_of_ble_eq_true rfl) dX11_anyWanted_5 ⟨Nat.zero_le _, Nat.zero_le _⟩) hP hD hS hA (fun u H locs h hP hD hS => ?_)
  obtain ⟨ns_4, na_5⟩ := u
  have hP : va_P D vwCl (List.flatten ([cLockRail L0 h_reader h_rail h_trial h_images h_slots n0 h_triedYear h_ofBikes C ] ++ (wRail aR0 C rs0 ra0 ++ (wNight n0 aN C ns_4 na_5 nl)))) H := hP
  have hD : va_D A (List.flatten ([cLockRail L0 h_reader h_rail h_trial h_images h_slots n0 h_triedYear h_ofBikes C ] ++ (wRail aR0 C rs0 ra0 ++ (wNight n0 aN C ns_4 na_5 nl)))) := hD
  refine lv_iconst (v := 0) hx hb dX11_anyWanted_8 (by decide) ?_
  refine lv_istore_n (lv' := [(2, .int 0), (0, .ref L0), (1, .ref (aR0 0))]) hx hb dX11_anyWanted_9 rfl hl (by decide) rfl (fun ls hl => ?_)
  obtain ⟨n, h⟩ := h
  exact N10 ns_4 na_5 n 0 _ _ _ h hP hD hS (lv_sub hl [1, 2, 0] rfl)
abbrev vsX11_marks : List Cond := Cond.code yX11_marks cX11_marks 3 (some .int) :: WS
abbrev rmX11_marks : Room := { frames := 5, cells := 0, slots := 0, locals := 120 }
set_option maxHeartbeats 4000000 in
set_option maxRecDepth 100000 in
theorem k_X11_marks (l : Launch) (D : va_G) (C : Nat → ClassId) (sz : Nat) (L0 : Nat) (aU : Nat → Nat) (aR : Nat → Nat) (aR2 : Nat → Nat) (aS : Nat → Nat) (n0 : Nat) (aN : Nat → Nat) (y0 : Nat) (y1 : Nat) (y2 : Nat) (o0 : Nat) (h_images : Nat) (us : Nat → Int32) (ua : Nat → Nat → Int32) (rs : Nat → Int32) (ra : Nat → Nat → Int32) (rs2 : Nat → Int32) (ra2 : Nat → Nat → Int32) (sa : Nat → Nat → Int32) (sl : Nat → Nat → Int64) (ns : Nat → Int32) (na : Nat → Nat → Int32) (nl : Nat → Nat → Int64) (y_isThere : Int32) (y_taken : Nat → Int32) (y_took : Nat → Int32) (o_of : Nat → Int64)  {post : Int32 → (Nat → Int32) → (Nat → Nat → Int32) → (Nat → Int32) → (Nat → Nat → Int32) → Prop} (h : P_X11_marks rs ra rs2 ra2 ns na post) : Met l yX11_marks vsX11_marks rmX11_marks (cPre D C [.ref L0] sz ([cLockRail L0 (aU 0) (aR 0) (aR2 0) h_images (aS 0) n0 y0 o0 C ] ++ (wReader aU C us ua ++ (wRail aR C rs ra ++ (wRail aR2 C rs2 ra2 ++ (wSlots aS C sa sl ++ (wNight n0 aN C ns na nl ++ ([cYear y0 y1 y2 C y_isThere y_taken y_took] ++ ([cOb o0 C o_of]))))))))) (cQi D (fun (r : Int32) (u : (Nat → Int32) × (Nat → Nat → Int32) × (Nat → Int32) × (Nat → Nat → Int32)) => post r u.1 u.2.1 u.2.2.1 u.2.2.2) (fun u => [cLockRail L0 (aU 0) (aR 0) (aR2 0) h_images (aS 0) n0 y0 o0 C ] ++ (wReader aU C us ua ++ (wRail aR C rs ra ++ (wRail aR2 C u.1 u.2.1 ++ (wSlots aS C sa sl ++ (wNight n0 aN C u.2.2.1 u.2.2.2 nl ++ ([cYear y0 y1 y2 C y_isThere y_taken y_took] ++ ([cOb o0 C o_of])))))))) (va_A (List.flatten ([cLockRail L0 (aU 0) (aR 0) (aR2 0) h_images (aS 0) n0 y0 o0 C ] ++ (wReader aU C us ua ++ (wRail aR C rs ra ++ (wRail aR2 C rs2 ra2 ++ (wSlots aS C sa sl ++ (wNight n0 aN C ns na nl ++ ([cYear y0 y1 y2 C y_isThere y_taken y_took] ++ ([cOb o0 C o_of]))))))))) sz)) 0 0 (va_A (List.flatten ([cLockRail L0 (aU 0) (aR 0) (aR2 0) h_images (aS 0) n0 y0 o0 C ] ++ (wReader aU C us ua ++ (wRail aR C rs ra ++ (wRail aR2 C rs2 ra2 ++ (wSlots aS C sa sl ++ (wNight n0 aN C ns na nl ++ ([cYear y0 y1 y2 C y_isThere y_taken y_took] ++ ([cOb o0 C o_of]))))))))) sz) := by
  refine cStart (QA := fun A => cQi D (fun (r : Int32) (u : (Nat → Int32) × (Nat → Nat → Int32) × (Nat → Int32) × (Nat → Nat → Int32)) => post r u.1 u.2.1 u.2.2.1 u.2.2.2) (fun u => [cLockRail L0 (aU 0) (aR 0) (aR2 0) h_images (aS 0) n0 y0 o0 C ] ++ (wReader aU C us ua ++ (wRail aR C rs ra ++ (wRail aR2 C u.1 u.2.1 ++ (wSlots aS C sa sl ++ (wNight n0 aN C u.2.2.1 u.2.2.2 nl ++ ([cYear y0 y1 y2 C y_isThere y_taken y_took] ++ ([cOb o0 C o_of])))))))) A) (cc := cX11_marks) (maxL := 3) (ret := (some .int)) (by decide) (Nat.le_of_ble_eq_true rfl) ?_
  intro p e s m args below meth c A ls hx hb hr hml hown hw hlocks hname hK hN hA hP hD hS hl
  generalize hQ : MQ below _ args s 0 0 A = Q
  have hl : lv_has ls 3 [(0, .ref L0)] := hl
  have hn97 : (Cond.fieldLinkNest "LockRail" 97 "LockRail$Rail" "bikes" "LLockRail$Bikes;" "LockRail").before args s = true := hN.f 61 rfl
  have hn161 : (Cond.fieldLinkNest "LockRail" 161 "LockRail$Bikes" "count" "I" "LockRail").before args s = true := hN.f 20 rfl
  have hn116 : (Cond.fieldLinkNest "LockRail" 116 "LockRail$Bikes" "marked" "[Z" "LockRail").before args s = true := hN.f 30 rfl
  obtain ⟨H, hH⟩ : ∃ H, H = s.heap := ⟨_, rfl⟩
  obtain ⟨locs, hlo⟩ : ∃ z : List Loc, z = [] := ⟨_, rfl⟩
  have hP : va_P D vwCl (List.flatten ([cLockRail L0 (aU 0) (aR 0) (aR2 0) h_images (aS 0) n0 y0 o0 C ] ++ (wReader aU C us ua ++ (wRail aR C rs ra ++ (wRail aR2 C rs2 ra2 ++ (wSlots aS C sa sl ++ (wNight n0 aN C ns na nl ++ ([cYear y0 y1 y2 C y_isThere y_taken y_took] ++ ([cOb o0 C o_of]))))))))) H := by rw [hH]; exact hP
  have hS : va_S A s.heap H locs := by rw [hH, hlo]; exact hS
  rw [show W p l e rmX11_marks s m args below meth c s.heap [] 0 0 Q (F0 m 0 ls []) = W p l e rmX11_marks s m args below meth c H locs 0 0 Q (F0 m 0 ls []) from by rw [hH, hlo]]
  have N26 : ∀ (rs2 : Nat → Int32) (n26 : Nat) (x1_ : Int32) (ra2 : Nat → Nat → Int32) (ns : Nat → Int32) (na : Nat → Nat → Int32) (H : Heap) (locs : List Loc) (ls : Array Slot), P_X11_marks_26 rs ra post  rs2 n26 x1_ ra2 ns na → va_P D vwCl (List.flatten ([cLockRail L0 (aU 0) (aR 0) (aR2 0) h_images (aS 0) n0 y0 o0 C ] ++ (wReader aU C us ua ++ (wRail aR C rs ra ++ (wRail aR2 C rs2 ra2 ++ (wSlots aS C sa sl ++ (wNight n0 aN C ns na nl ++ ([cYear y0 y1 y2 C y_isThere y_taken y_took] ++ ([cOb o0 C o_of]))))))))) H → va_D A (List.flatten ([cLockRail L0 (aU 0) (aR 0) (aR2 0) h_images (aS 0) n0 y0 o0 C ] ++ (wReader aU C us ua ++ (wRail aR C rs ra ++ (wRail aR2 C rs2 ra2 ++ (wSlots aS C sa sl ++ (wNight n0 aN C ns na nl ++ ([cYear y0 y1 y2 C y_isThere y_taken y_took] ++ ([cOb o0 C o_of]))))))))) → va_S A s.heap H locs → lv_has ls 3 [(0, .ref L0), (1, .int x1_)] → W p l e rmX11_marks s m args below meth c H locs 0 0 Q (F0 m 26 ls []) := by
    intro rs2
    intro n26
    induction n26 with
    | zero => intro x1_ ra2 ns na H locs ls h hP hD hS hl; exact False.elim h
    | succ n26 ih26 =>
      have N84 : ∀ (x1_ : Int32) (ra2 : Nat → Nat → Int32) (ns : Nat → Int32) (na : Nat → Nat → Int32) (H : Heap) (locs : List Loc) (ls : Array Slot), P_X11_marks_84 rs ra rs2 post (P_X11_marks_26 rs ra post  rs2 n26) x1_ ra2 ns na → va_P D vwCl (List.flatten ([cLockRail L0 (aU 0) (aR 0) (aR2 0) h_images (aS 0) n0 y0 o0 C ] ++ (wReader aU C us ua ++ (wRail aR C rs ra ++ (wRail aR2 C rs2 ra2 ++ (wSlots aS C sa sl ++ (wNight n0 aN C ns na nl ++ ([cYear y0 y1 y2 C y_isThere y_taken y_took] ++ ([cOb o0 C o_of]))))))))) H → va_D A (List.flatten ([cLockRail L0 (aU 0) (aR 0) (aR2 0) h_images (aS 0) n0 y0 o0 C ] ++ (wReader aU C us ua ++ (wRail aR C rs ra ++ (wRail aR2 C rs2 ra2 ++ (wSlots aS C sa sl ++ (wNight n0 aN C ns na nl ++ ([cYear y0 y1 y2 C y_isThere y_taken y_took] ++ ([cOb o0 C o_of]))))))))) → va_S A s.heap H locs → lv_has ls 3 [(0, .ref L0), (1, .int x1_)] → W p l e rmX11_marks s m args below meth c H locs 0 0 Q (F0 m 84 ls []) := by
        intro x1_ ra2 ns na H locs ls h hP hD hS hl
        refine lv_aload_n hx hb dX11_marks_84 rfl (lv_at hl 0 rfl) ?_
        refine lv_aload_n hx hb dX11_marks_85 rfl (lv_at hl 0 rfl) ?_
        refine va_get (D := D) (ci := 11) (v := .ref (aR2 0)) (C := RX11) (T := TX11) (N := 8) hx hb hw inW_X11 hown hK hP 0 rfl rfl 2 (by decide) (hw _ mw_2_145) (fun _ h9 => h9) rfl dX11_marks_86 ?_
        refine gs_I21_58 (rs_V21_42 (As := [.ref (aR2 0)]) (rest := []) ⟨hx, hb, hml, hown, hw⟩ hK hN hP hD (k_X11_anyWanted l D C _ L0 aR2 n0 aN (aU 0) (aR 0) (aR2 0) h_images (aS 0) y0 o0  rs2 ra2 ns na nl  h) (cwV 1 hw (goodV mw_5_49 mw_5_51 mw_s78 mw_1_1 mw_5_52) rfl rfl rfl (by decide +kernel) ⟨Nat.le_of_ble_eq_true rfl, Nat.le_of_ble_eq_true rfl⟩) rfl rfl rfl hl.1 rfl (Nat.le_of_ble_eq_true rfl) dX11_marks_89 ⟨Nat.zero_le _, Nat.zero_le _⟩) hP hD hS hA (fun r3 u H locs h hP hD hS => ?_)
        obtain ⟨ns_1, na_2⟩ := u
        have hP : va_P D vwCl (List.flatten ([cLockRail L0 (aU 0) (aR 0) (aR2 0) h_images (aS 0) n0 y0 o0 C ] ++ (wReader aU C us ua ++ (wRail aR C rs ra ++ (wRail aR2 C rs2 ra2 ++ (wSlots aS C sa sl ++ (wNight n0 aN C ns_1 na_2 nl ++ ([cYear y0 y1 y2 C y_isThere y_taken y_took] ++ ([cOb o0 C o_of]))))))))) H := hP
        have hD : va_D A (List.flatten ([cLockRail L0 (aU 0) (aR 0) (aR2 0) h_images (aS 0) n0 y0 o0 C ] ++ (wReader aU C us ua ++ (wRail aR C rs ra ++ (wRail aR2 C rs2 ra2 ++ (wSlots aS C sa sl ++ (wNight n0 aN C ns_1 na_2 nl ++ ([cYear y0 y1 y2 C y_isThere y_taken y_took] ++ ([cOb o0 C o_of]))))))))) := hD
        refine lv_if_ne (tgt := 97) hx hb dX11_marks_92 (by decide) (fun c4 => ?_) (fun c4 => ?_)
        · have h := h.1 c4
          refine lv_iinc (v := (x1_ + 1)) (lv' := [(1, .int (x1_ + 1)), (0, .ref L0)]) hx hb dX11_marks_97 hl (k := 1) rfl rfl (by decide) rfl (fun ls hl => ?_)
          refine lv_goto (tgt := 26) hx hb dX11_marks_100 (by decide) ?_
          exact ih26 (x1_ + 1) ra2 ns_1 na_2 _ _ _ h hP hD hS (lv_sub hl [1, 0] rfl)
        · have h := h.2 c4
          refine lv_iload_n hx hb dX11_marks_95 rfl (lv_at hl 1 rfl) ?_
          rw [← hQ]
          exact cRetI (v := x1_) (rs2, ra2, ns_1, na_2) hx hb hr hlocks hS hP hD h dX11_marks_96
      have N42 : ∀ (x1_ : Int32) (ns : Nat → Int32) (na : Nat → Nat → Int32) (n42 : Nat) (x2_ : Int32) (ra2 : Nat → Nat → Int32) (H : Heap) (locs : List Loc) (ls : Array Slot), P_X11_marks_42 rs ra rs2 post (fun (x1_ : Int32) (ra2 : Nat → Nat → Int32) (ns : Nat → Int32) (na : Nat → Nat → Int32) => P_X11_marks_84 rs ra rs2 post (P_X11_marks_26 rs ra post  rs2 n26) x1_ ra2 ns na) x1_ ns na n42 x2_ ra2 → va_P D vwCl (List.flatten ([cLockRail L0 (aU 0) (aR 0) (aR2 0) h_images (aS 0) n0 y0 o0 C ] ++ (wReader aU C us ua ++ (wRail aR C rs ra ++ (wRail aR2 C rs2 ra2 ++ (wSlots aS C sa sl ++ (wNight n0 aN C ns na nl ++ ([cYear y0 y1 y2 C y_isThere y_taken y_took] ++ ([cOb o0 C o_of]))))))))) H → va_D A (List.flatten ([cLockRail L0 (aU 0) (aR 0) (aR2 0) h_images (aS 0) n0 y0 o0 C ] ++ (wReader aU C us ua ++ (wRail aR C rs ra ++ (wRail aR2 C rs2 ra2 ++ (wSlots aS C sa sl ++ (wNight n0 aN C ns na nl ++ ([cYear y0 y1 y2 C y_isThere y_taken y_took] ++ ([cOb o0 C o_of]))))))))) → va_S A s.heap H locs → lv_has ls 3 [(0, .ref L0), (1, .int x1_), (2, .int x2_)] → W p l e rmX11_marks s m args below meth c H locs 0 0 Q (F0 m 42 ls []) := by
        intro x1_ ns na
        intro n42
        induction n42 with
        | zero => intro x2_ ra2 H locs ls h hP hD hS hl; exact False.elim h
        | succ n42 ih42 =>
          intro x2_ ra2 H locs ls h hP hD hS hl
          refine lv_iload_n hx hb dX11_marks_42 rfl (lv_at hl 2 rfl) ?_
          refine lv_aload_n hx hb dX11_marks_43 rfl (lv_at hl 0 rfl) ?_
          refine va_get (D := D) (ci := 11) (v := .ref (aR2 0)) (C := RX11) (T := TX11) (N := 8) hx hb hw inW_X11 hown hK hP 0 rfl rfl 2 (by decide) (hw _ mw_2_145) (fun _ h9 => h9) rfl dX11_marks_44 ?_
          refine va_getN (D := D) (ci := 4) (v := .ref (aR2 7)) (C := RX4) (T := TX4) (N := 16) hx hb hw inW_X4 hown hK hP 26 rfl rfl 5 (by decide) hn97 (fun _ h9 => h9) rfl dX11_marks_47 ?_
          refine va_getN (D := D) (ci := 0) (v := .int (rs2 13)) (C := RX0) (T := TX0) (N := 6) hx hb hw inW_X0 hown hK hP 33 rfl rfl 0 (by decide) hn161 (fun _ h9 => h9) rfl dX11_marks_50 ?_
          refine lv_icmp_ge (tgt := 84) hx hb dX11_marks_53 (by decide) (fun c5 => ?_) (fun c5 => ?_)
          · have h := h.1 c5
            exact N84 x1_ ra2 ns na _ _ _ h hP hD hS (lv_sub hl [0, 1] rfl)
          · have h := h.2 c5
            refine lv_aload_n hx hb dX11_marks_56 rfl (lv_at hl 0 rfl) ?_
            refine va_get (D := D) (ci := 11) (v := .ref (aR2 0)) (C := RX11) (T := TX11) (N := 8) hx hb hw inW_X11 hown hK hP 0 rfl rfl 2 (by decide) (hw _ mw_2_145) (fun _ h9 => h9) rfl dX11_marks_57 ?_
            refine va_getN (D := D) (ci := 4) (v := .ref (aR2 7)) (C := RX4) (T := TX4) (N := 16) hx hb hw inW_X4 hown hK hP 26 rfl rfl 5 (by decide) hn97 (fun _ h9 => h9) rfl dX11_marks_60 ?_
            refine va_getN (D := D) (ci := 0) (v := .ref (aR2 12)) (C := RX0) (T := TX0) (N := 6) hx hb hw inW_X0 hown hK hP 33 rfl rfl 5 (by decide) hn116 (fun _ h9 => h9) rfl dX11_marks_63 ?_
            refine lv_iload_n hx hb dX11_marks_66 rfl (lv_at hl 2 rfl) ?_
            refine lv_iload_n hx hb dX11_marks_67 rfl (lv_at hl 2 rfl) ?_
            refine lv_iload_n hx hb dX11_marks_68 rfl (lv_at hl 1 rfl) ?_
            refine lv_icmp_ge (tgt := 76) hx hb dX11_marks_69 (by decide) (fun c6 => ?_) (fun c6 => ?_)
            · have h := h.1 c6
              refine lv_iconst (v := 0) hx hb dX11_marks_76 (by decide) ?_
              refine cZast hx hb hK hP hD hS 38 3 rfl rfl x2_.toNatClampNeg rfl h.1 (Or.inl rfl) dX11_marks_77 (fun H locs hP hD hS => ?_)
              have h := h.2
              refine lv_iinc (v := (x2_ + 1)) (lv' := [(2, .int (x2_ + 1)), (0, .ref L0), (1, .int x1_)]) hx hb dX11_marks_78 hl (k := 2) rfl rfl (by decide) rfl (fun ls hl => ?_)
              refine lv_goto (tgt := 42) hx hb dX11_marks_81 (by decide) ?_
              have hP : va_P D vwCl (List.flatten ([cLockRail L0 (aU 0) (aR 0) (aR2 0) h_images (aS 0) n0 y0 o0 C ] ++ (wReader aU C us ua ++ (wRail aR C rs ra ++ (wRail aR2 C rs2 (va_up ra2 8 (upd (ra2 8) x2_.toNatClampNeg 0)) ++ (wSlots aS C sa sl ++ (wNight n0 aN C ns na nl ++ ([cYear y0 y1 y2 C y_isThere y_taken y_took] ++ ([cOb o0 C o_of]))))))))) H := hP
              have hD : va_D A (List.flatten ([cLockRail L0 (aU 0) (aR 0) (aR2 0) h_images (aS 0) n0 y0 o0 C ] ++ (wReader aU C us ua ++ (wRail aR C rs ra ++ (wRail aR2 C rs2 (va_up ra2 8 (upd (ra2 8) x2_.toNatClampNeg 0)) ++ (wSlots aS C sa sl ++ (wNight n0 aN C ns na nl ++ ([cYear y0 y1 y2 C y_isThere y_taken y_took] ++ ([cOb o0 C o_of]))))))))) := hD
              exact ih42 (x2_ + 1) (va_up ra2 8 (upd (ra2 8) x2_.toNatClampNeg 0)) _ _ _ h hP hD hS (lv_sub hl [1, 2, 0] rfl)
            · have h := h.2 c6
              refine lv_iconst (v := 1) hx hb dX11_marks_72 (by decide) ?_
              refine lv_goto (tgt := 77) hx hb dX11_marks_73 (by decide) ?_
              refine cZast hx hb hK hP hD hS 38 3 rfl rfl x2_.toNatClampNeg rfl h.1 (Or.inr rfl) dX11_marks_77 (fun H locs hP hD hS => ?_)
              have h := h.2
              refine lv_iinc (v := (x2_ + 1)) (lv' := [(2, .int (x2_ + 1)), (0, .ref L0), (1, .int x1_)]) hx hb dX11_marks_78 hl (k := 2) rfl rfl (by decide) rfl (fun ls hl => ?_)
              refine lv_goto (tgt := 42) hx hb dX11_marks_81 (by decide) ?_
              have hP : va_P D vwCl (List.flatten ([cLockRail L0 (aU 0) (aR 0) (aR2 0) h_images (aS 0) n0 y0 o0 C ] ++ (wReader aU C us ua ++ (wRail aR C rs ra ++ (wRail aR2 C rs2 (va_up ra2 8 (upd (ra2 8) x2_.toNatClampNeg 1)) ++ (wSlots aS C sa sl ++ (wNight n0 aN C ns na nl ++ ([cYear y0 y1 y2 C y_isThere y_taken y_took] ++ ([cOb o0 C o_of]))))))))) H := hP
              have hD : va_D A (List.flatten ([cLockRail L0 (aU 0) (aR 0) (aR2 0) h_images (aS 0) n0 y0 o0 C ] ++ (wReader aU C us ua ++ (wRail aR C rs ra ++ (wRail aR2 C rs2 (va_up ra2 8 (upd (ra2 8) x2_.toNatClampNeg 1)) ++ (wSlots aS C sa sl ++ (wNight n0 aN C ns na nl ++ ([cYear y0 y1 y2 C y_isThere y_taken y_took] ++ ([cOb o0 C o_of]))))))))) := hD
              exact ih42 (x2_ + 1) (va_up ra2 8 (upd (ra2 8) x2_.toNatClampNeg 1)) _ _ _ h hP hD hS (lv_sub hl [1, 2, 0] rfl)
      intro x1_ ra2 ns na H locs ls h hP hD hS hl
      refine lv_iload_n hx hb dX11_marks_26 rfl (lv_at hl 1 rfl) ?_
      refine lv_aload_n hx hb dX11_marks_27 rfl (lv_at hl 0 rfl) ?_
      refine va_get (D := D) (ci := 11) (v := .ref (aR2 0)) (C := RX11) (T := TX11) (N := 8) hx hb hw inW_X11 hown hK hP 0 rfl rfl 2 (by decide) (hw _ mw_2_145) (fun _ h9 => h9) rfl dX11_marks_28 ?_
      refine va_getN (D := D) (ci := 4) (v := .ref (aR2 7)) (C := RX4) (T := TX4) (N := 16) hx hb hw inW_X4 hown hK hP 26 rfl rfl 5 (by decide) hn97 (fun _ h9 => h9) rfl dX11_marks_31 ?_
      refine va_getN (D := D) (ci := 0) (v := .int (rs2 13)) (C := RX0) (T := TX0) (N := 6) hx hb hw inW_X0 hown hK hP 33 rfl rfl 0 (by decide) hn161 (fun _ h9 => h9) rfl dX11_marks_34 ?_
      refine lv_icmp_gt (tgt := 103) hx hb dX11_marks_37 (by decide) (fun c7 => ?_) (fun c7 => ?_)
      · have h := h.1 c7
        refine lv_iconst (v := (-1)) hx hb dX11_marks_103 (by decide) ?_
        rw [← hQ]
        exact cRetI (v := (-1)) (rs2, ra2, ns, na) hx hb hr hlocks hS hP hD h dX11_marks_104
      · have h := h.2 c7
        refine lv_iconst (v := 0) hx hb dX11_marks_40 (by decide) ?_
        refine lv_istore_n (lv' := [(2, .int 0), (0, .ref L0), (1, .int x1_)]) hx hb dX11_marks_41 rfl hl (by decide) rfl (fun ls hl => ?_)
        obtain ⟨n, h⟩ := h
        exact N42 x1_ ns na n 0 ra2 _ _ _ h hP hD hS (lv_sub hl [1, 2, 0] rfl)
  refine lv_aload_n hx hb dX11_marks_0 rfl (lv_at hl 0 rfl) ?_
  refine va_get (D := D) (ci := 11) (v := .ref (aR 0)) (C := RX11) (T := TX11) (N := 8) hx hb hw inW_X11 hown hK hP 0 rfl rfl 1 (by decide) (hw _ mw_2_144) (fun _ h9 => h9) rfl dX11_marks_1 ?_
  refine gs_I21_41 (rs_VN21_34 (As := []) (rest := []) ⟨hx, hb, hml, hown, hw⟩ hK hN hP hD (k_X4_isTold l D C _ aR  rs ra  h) ⟨va_cnB 0 hw (goodN mw_4_19) rfl rfl rfl (hN.m 44 rfl) (hw _ mw_1_4) (by decide +kernel) ⟨Nat.le_of_ble_eq_true rfl, Nat.le_of_ble_eq_true rfl⟩, hw _ mw_4_18, hw _ mw_s47⟩ rfl rfl rfl hl.1 rfl (Nat.le_of_ble_eq_true rfl) dX11_marks_4 ⟨Nat.zero_le _, Nat.zero_le _⟩) hP hD hS hA (fun r8 u H locs h hP hD hS => ?_)
  have hP : va_P D vwCl (List.flatten ([cLockRail L0 (aU 0) (aR 0) (aR2 0) h_images (aS 0) n0 y0 o0 C ] ++ (wReader aU C us ua ++ (wRail aR C rs ra ++ (wRail aR2 C rs2 ra2 ++ (wSlots aS C sa sl ++ (wNight n0 aN C ns na nl ++ ([cYear y0 y1 y2 C y_isThere y_taken y_took] ++ ([cOb o0 C o_of]))))))))) H := hP
  have hD : va_D A (List.flatten ([cLockRail L0 (aU 0) (aR 0) (aR2 0) h_images (aS 0) n0 y0 o0 C ] ++ (wReader aU C us ua ++ (wRail aR C rs ra ++ (wRail aR2 C rs2 ra2 ++ (wSlots aS C sa sl ++ (wNight n0 aN C ns na nl ++ ([cYear y0 y1 y2 C y_isThere y_taken y_took] ++ ([cOb o0 C o_of]))))))))) := hD
  refine lv_if_ne (tgt := 13) hx hb dX11_marks_7 (by decide) (fun c9 => ?_) (fun c9 => ?_)
  · have h := h.1 c9
    refine lv_aload_n hx hb dX11_marks_13 rfl (lv_at hl 0 rfl) ?_
    refine va_get (D := D) (ci := 11) (v := .ref (aR2 0)) (C := RX11) (T := TX11) (N := 8) hx hb hw inW_X11 hown hK hP 0 rfl rfl 2 (by decide) (hw _ mw_2_145) (fun _ h9 => h9) rfl dX11_marks_14 ?_
    refine lv_aload_n hx hb dX11_marks_17 rfl (lv_at hl 0 rfl) ?_
    refine va_get (D := D) (ci := 11) (v := .ref (aR 0)) (C := RX11) (T := TX11) (N := 8) hx hb hw inW_X11 hown hK hP 0 rfl rfl 1 (by decide) (hw _ mw_2_144) (fun _ h9 => h9) rfl dX11_marks_18 ?_
    refine gs_V21_52 (rs_VN21_40 (As := [.ref (aR 0)]) (rest := []) ⟨hx, hb, hml, hown, hw⟩ hK hN hP hD (k_X4_copyFrom l D C _ aR2 aR  rs2 ra2 rs ra  h) ⟨va_cnB 1 hw (goodN mw_3_126) rfl rfl rfl (hN.m 23 rfl) (hw _ mw_1_4) (by decide +kernel) ⟨Nat.le_of_ble_eq_true rfl, Nat.le_of_ble_eq_true rfl⟩, hw _ mw_3_125, hw _ mw_s26⟩ rfl rfl rfl hl.1 rfl (Nat.le_of_ble_eq_true rfl) dX11_marks_21 ⟨Nat.zero_le _, Nat.zero_le _⟩) hP hD hS hA (fun u H locs h hP hD hS => ?_)
    obtain ⟨rs_10, ra_11⟩ := u
    have hP : va_P D vwCl (List.flatten ([cLockRail L0 (aU 0) (aR 0) (aR2 0) h_images (aS 0) n0 y0 o0 C ] ++ (wReader aU C us ua ++ (wRail aR C rs ra ++ (wRail aR2 C rs_10 ra_11 ++ (wSlots aS C sa sl ++ (wNight n0 aN C ns na nl ++ ([cYear y0 y1 y2 C y_isThere y_taken y_took] ++ ([cOb o0 C o_of]))))))))) H := hP
    have hD : va_D A (List.flatten ([cLockRail L0 (aU 0) (aR 0) (aR2 0) h_images (aS 0) n0 y0 o0 C ] ++ (wReader aU C us ua ++ (wRail aR C rs ra ++ (wRail aR2 C rs_10 ra_11 ++ (wSlots aS C sa sl ++ (wNight n0 aN C ns na nl ++ ([cYear y0 y1 y2 C y_isThere y_taken y_took] ++ ([cOb o0 C o_of]))))))))) := hD
    refine lv_iconst (v := 0) hx hb dX11_marks_24 (by decide) ?_
    refine lv_istore_n (lv' := [(1, .int 0), (0, .ref L0)]) hx hb dX11_marks_25 rfl hl (by decide) rfl (fun ls hl => ?_)
    obtain ⟨n, h⟩ := h
    exact N26 rs_10 n 0 ra_11 ns na _ _ _ h hP hD hS (lv_sub hl [1, 0] rfl)
  · have h := h.2 c9
    refine lv_bipush (v := (-2)) hx hb dX11_marks_10 (by decide) ?_
    rw [← hQ]
    exact cRetI (v := (-2)) (rs2, ra2, ns, na) hx hb hr hlocks hS hP hD h dX11_marks_12
abbrev vsX11_lossOn : List Cond := Cond.code yX11_lossOn cX11_lossOn 3 (some .long) :: WS
abbrev rmX11_lossOn : Room := { frames := 4, cells := 0, slots := 0, locals := 105 }
set_option maxHeartbeats 4000000 in
set_option maxRecDepth 100000 in
theorem k_X11_lossOn (l : Launch) (D : va_G) (C : Nat → ClassId) (sz : Nat) (L0 : Nat) (aR0 : Nat → Nat) (n0 : Nat) (aN : Nat → Nat) (h_reader : Nat) (h_rail : Nat) (h_trial : Nat) (h_images : Nat) (h_slots : Nat) (h_triedYear : Nat) (h_ofBikes : Nat) (rs0 : Nat → Int32) (ra0 : Nat → Nat → Int32) (ns : Nat → Int32) (na : Nat → Nat → Int32) (nl : Nat → Nat → Int64) (p2 : Int32) {post : Int64 → (Nat → Int32) → (Nat → Nat → Int32) → (Nat → Nat → Int64) → Prop} (h : P_X11_lossOn rs0 ra0 ns na nl p2 post) : Met l yX11_lossOn vsX11_lossOn rmX11_lossOn (cPre D C [.ref L0, .ref (aR0 0), .int p2] sz ([cLockRail L0 h_reader h_rail h_trial h_images h_slots n0 h_triedYear h_ofBikes C ] ++ (wRail aR0 C rs0 ra0 ++ (wNight n0 aN C ns na nl)))) (cQl D (fun (r : Int64) (u : (Nat → Nat) × (Nat → Int32) × (Nat → Nat → Int32) × (Nat → Nat → Int64)) => post r u.2.1 u.2.2.1 u.2.2.2) (fun u => [cLockRail L0 h_reader h_rail h_trial h_images h_slots n0 h_triedYear h_ofBikes C ] ++ (wRail aR0 C rs0 ra0 ++ (wNight n0 u.1 C u.2.1 u.2.2.1 u.2.2.2))) (va_A (List.flatten ([cLockRail L0 h_reader h_rail h_trial h_images h_slots n0 h_triedYear h_ofBikes C ] ++ (wRail aR0 C rs0 ra0 ++ (wNight n0 aN C ns na nl)))) sz)) 0 0 (va_A (List.flatten ([cLockRail L0 h_reader h_rail h_trial h_images h_slots n0 h_triedYear h_ofBikes C ] ++ (wRail aR0 C rs0 ra0 ++ (wNight n0 aN C ns na nl)))) sz) := by
  refine cStart (QA := fun A => cQl D (fun (r : Int64) (u : (Nat → Nat) × (Nat → Int32) × (Nat → Nat → Int32) × (Nat → Nat → Int64)) => post r u.2.1 u.2.2.1 u.2.2.2) (fun u => [cLockRail L0 h_reader h_rail h_trial h_images h_slots n0 h_triedYear h_ofBikes C ] ++ (wRail aR0 C rs0 ra0 ++ (wNight n0 u.1 C u.2.1 u.2.2.1 u.2.2.2))) A) (cc := cX11_lossOn) (maxL := 3) (ret := (some .long)) (by decide) (Nat.le_of_ble_eq_true rfl) ?_
  intro p e s m args below meth c A ls hx hb hr hml hown hw hlocks hname hK hN hA hP hD hS hl
  generalize hQ : MQ below _ args s 0 0 A = Q
  have hl : lv_has ls 3 [(0, .ref L0), (1, .ref (aR0 0)), (2, .int p2)] := hl
  obtain ⟨H, hH⟩ : ∃ H, H = s.heap := ⟨_, rfl⟩
  obtain ⟨locs, hlo⟩ : ∃ z : List Loc, z = [] := ⟨_, rfl⟩
  have hP : va_P D vwCl (List.flatten ([cLockRail L0 h_reader h_rail h_trial h_images h_slots n0 h_triedYear h_ofBikes C ] ++ (wRail aR0 C rs0 ra0 ++ (wNight n0 aN C ns na nl)))) H := by rw [hH]; exact hP
  have hS : va_S A s.heap H locs := by rw [hH, hlo]; exact hS
  rw [show W p l e rmX11_lossOn s m args below meth c s.heap [] 0 0 Q (F0 m 0 ls []) = W p l e rmX11_lossOn s m args below meth c H locs 0 0 Q (F0 m 0 ls []) from by rw [hH, hlo]]
  refine lv_aload_n hx hb dX11_lossOn_0 rfl (lv_at hl 0 rfl) ?_
  refine va_get (D := D) (ci := 11) (v := .ref n0) (C := RX11) (T := TX11) (N := 8) hx hb hw inW_X11 hown hK hP 0 rfl rfl 5 (by decide) (hw _ mw_2_148) (fun _ h9 => h9) rfl dX11_lossOn_1 ?_
  refine lv_aload_n hx hb dX11_lossOn_4 rfl (lv_at hl 1 rfl) ?_
  refine gs_V10_48 (rs_VN10_38 (As := [.ref (aR0 0)]) (rest := []) ⟨hx, hb, hml, hown, hw⟩ hK hN hP hD (k_X3_play l D C _ n0 aN aR0  ns na nl rs0 ra0  h) ⟨va_cnB 1 hw (goodN mw_4_24) rfl rfl rfl (hN.m 45 rfl) (hw _ mw_1_11) (by decide +kernel) ⟨Nat.le_of_ble_eq_true rfl, Nat.le_of_ble_eq_true rfl⟩, hw _ mw_4_23, hw _ mw_s48⟩ rfl rfl rfl hl.1 rfl (Nat.le_of_ble_eq_true rfl) dX11_lossOn_5 ⟨Nat.zero_le _, Nat.zero_le _⟩) hP hD hS hA (fun u H locs h hP hD hS => ?_)
  obtain ⟨aN1, ns_2, na_3, nl_4⟩ := u
  have hP : va_P D vwCl (List.flatten ([cLockRail L0 h_reader h_rail h_trial h_images h_slots n0 h_triedYear h_ofBikes C ] ++ (wRail aR0 C rs0 ra0 ++ (wNight n0 aN1 C ns_2 na_3 nl_4)))) H := hP
  have hD : va_D A (List.flatten ([cLockRail L0 h_reader h_rail h_trial h_images h_slots n0 h_triedYear h_ofBikes C ] ++ (wRail aR0 C rs0 ra0 ++ (wNight n0 aN1 C ns_2 na_3 nl_4)))) := hD
  refine lv_aload_n hx hb dX11_lossOn_8 rfl (lv_at hl 0 rfl) ?_
  refine va_get (D := D) (ci := 11) (v := .ref n0) (C := RX11) (T := TX11) (N := 8) hx hb hw inW_X11 hown hK hP 0 rfl rfl 5 (by decide) (hw _ mw_2_148) (fun _ h9 => h9) rfl dX11_lossOn_9 ?_
  refine lv_aload_n hx hb dX11_lossOn_12 rfl (lv_at hl 1 rfl) ?_
  refine lv_iload_n hx hb dX11_lossOn_13 rfl (lv_at hl 2 rfl) ?_
  refine lv_iconst (v := 1) hx hb dX11_lossOn_14 (by decide) ?_
  refine gs_L10_49 (rs_VN10_38 (As := [.ref (aR0 0), .int p2, .int 1]) (rest := []) ⟨hx, hb, hml, hown, hw⟩ hK hN hP hD (k_X3_costOf l D C _ n0 aN1 aR0  ns_2 na_3 nl_4 rs0 ra0 p2 1 h) ⟨va_cnB 3 hw (goodN mw_4_104) rfl rfl rfl (hN.m 52 rfl) (hw _ mw_1_11) (by decide +kernel) ⟨Nat.le_of_ble_eq_true rfl, Nat.le_of_ble_eq_true rfl⟩, hw _ mw_4_103, hw _ mw_s59⟩ rfl rfl rfl hl.1 rfl (Nat.le_of_ble_eq_true rfl) dX11_lossOn_15 ⟨Nat.zero_le _, Nat.zero_le _⟩) hP hD hS hA (fun r5 u H locs h hP hD hS => ?_)
  have hP : va_P D vwCl (List.flatten ([cLockRail L0 h_reader h_rail h_trial h_images h_slots n0 h_triedYear h_ofBikes C ] ++ (wRail aR0 C rs0 ra0 ++ (wNight n0 aN1 C ns_2 na_3 nl_4)))) H := hP
  have hD : va_D A (List.flatten ([cLockRail L0 h_reader h_rail h_trial h_images h_slots n0 h_triedYear h_ofBikes C ] ++ (wRail aR0 C rs0 ra0 ++ (wNight n0 aN1 C ns_2 na_3 nl_4)))) := hD
  rw [← hQ]
  exact cRetL (v := r5) (aN1, ns_2, na_3, nl_4) hx hb hr hlocks hS hP hD h dX11_lossOn_18
abbrev vsX11_hides : List Cond := Cond.code yX11_hides cX11_hides 4 (some .long) :: WS
abbrev rmX11_hides : Room := { frames := 5, cells := 0, slots := 0, locals := 127 }
set_option maxHeartbeats 4000000 in
set_option maxRecDepth 100000 in
theorem k_X11_hides (l : Launch) (D : va_G) (C : Nat → ClassId) (sz : Nat) (L0 : Nat) (aU : Nat → Nat) (aR : Nat → Nat) (aR2 : Nat → Nat) (aS : Nat → Nat) (n0 : Nat) (aN : Nat → Nat) (y0 : Nat) (y1 : Nat) (y2 : Nat) (o0 : Nat) (h_images : Nat) (us : Nat → Int32) (ua : Nat → Nat → Int32) (rs : Nat → Int32) (ra : Nat → Nat → Int32) (rs2 : Nat → Int32) (ra2 : Nat → Nat → Int32) (sa : Nat → Nat → Int32) (sl : Nat → Nat → Int64) (ns : Nat → Int32) (na : Nat → Nat → Int32) (nl : Nat → Nat → Int64) (y_isThere : Int32) (y_taken : Nat → Int32) (y_took : Nat → Int32) (o_of : Nat → Int64) (p1 : Int32) {post : Int64 → (Nat → Int32) → (Nat → Nat → Int32) → (Nat → Int32) → (Nat → Nat → Int32) → (Nat → Nat → Int64) → Prop} (h : P_X11_hides rs ra rs2 ra2 ns na nl p1 post) : Met l yX11_hides vsX11_hides rmX11_hides (cPre D C [.ref L0, .int p1] sz ([cLockRail L0 (aU 0) (aR 0) (aR2 0) h_images (aS 0) n0 y0 o0 C ] ++ (wReader aU C us ua ++ (wRail aR C rs ra ++ (wRail aR2 C rs2 ra2 ++ (wSlots aS C sa sl ++ (wNight n0 aN C ns na nl ++ ([cYear y0 y1 y2 C y_isThere y_taken y_took] ++ ([cOb o0 C o_of]))))))))) (cQl D (fun (r : Int64) (u : (Nat → Nat) × (Nat → Int32) × (Nat → Nat → Int32) × (Nat → Int32) × (Nat → Nat → Int32) × (Nat → Nat → Int64)) => post r u.2.1 u.2.2.1 u.2.2.2.1 u.2.2.2.2.1 u.2.2.2.2.2) (fun u => [cLockRail L0 (aU 0) (aR 0) (aR2 0) h_images (aS 0) n0 y0 o0 C ] ++ (wReader aU C us ua ++ (wRail aR C rs ra ++ (wRail aR2 C u.2.1 u.2.2.1 ++ (wSlots aS C sa sl ++ (wNight n0 u.1 C u.2.2.2.1 u.2.2.2.2.1 u.2.2.2.2.2 ++ ([cYear y0 y1 y2 C y_isThere y_taken y_took] ++ ([cOb o0 C o_of])))))))) (va_A (List.flatten ([cLockRail L0 (aU 0) (aR 0) (aR2 0) h_images (aS 0) n0 y0 o0 C ] ++ (wReader aU C us ua ++ (wRail aR C rs ra ++ (wRail aR2 C rs2 ra2 ++ (wSlots aS C sa sl ++ (wNight n0 aN C ns na nl ++ ([cYear y0 y1 y2 C y_isThere y_taken y_took] ++ ([cOb o0 C o_of]))))))))) sz)) 0 0 (va_A (List.flatten ([cLockRail L0 (aU 0) (aR 0) (aR2 0) h_images (aS 0) n0 y0 o0 C ] ++ (wReader aU C us ua ++ (wRail aR C rs ra ++ (wRail aR2 C rs2 ra2 ++ (wSlots aS C sa sl ++ (wNight n0 aN C ns na nl ++ ([cYear y0 y1 y2 C y_isThere y_taken y_took] ++ ([cOb o0 C o_of]))))))))) sz) := by
  refine cStart (QA := fun A => cQl D (fun (r : Int64) (u : (Nat → Nat) × (Nat → Int32) × (Nat → Nat → Int32) × (Nat → Int32) × (Nat → Nat → Int32) × (Nat → Nat → Int64)) => post r u.2.1 u.2.2.1 u.2.2.2.1 u.2.2.2.2.1 u.2.2.2.2.2) (fun u => [cLockRail L0 (aU 0) (aR 0) (aR2 0) h_images (aS 0) n0 y0 o0 C ] ++ (wReader aU C us ua ++ (wRail aR C rs ra ++ (wRail aR2 C u.2.1 u.2.2.1 ++ (wSlots aS C sa sl ++ (wNight n0 u.1 C u.2.2.2.1 u.2.2.2.2.1 u.2.2.2.2.2 ++ ([cYear y0 y1 y2 C y_isThere y_taken y_took] ++ ([cOb o0 C o_of])))))))) A) (cc := cX11_hides) (maxL := 4) (ret := (some .long)) (by decide) (Nat.le_of_ble_eq_true rfl) ?_
  intro p e s m args below meth c A ls hx hb hr hml hown hw hlocks hname hK hN hA hP hD hS hl
  generalize hQ : MQ below _ args s 0 0 A = Q
  have hl : lv_has ls 4 [(0, .ref L0), (1, .int p1)] := hl
  have hn97 : (Cond.fieldLinkNest "LockRail" 97 "LockRail$Rail" "bikes" "LLockRail$Bikes;" "LockRail").before args s = true := hN.f 61 rfl
  obtain ⟨H, hH⟩ : ∃ H, H = s.heap := ⟨_, rfl⟩
  obtain ⟨locs, hlo⟩ : ∃ z : List Loc, z = [] := ⟨_, rfl⟩
  have hP : va_P D vwCl (List.flatten ([cLockRail L0 (aU 0) (aR 0) (aR2 0) h_images (aS 0) n0 y0 o0 C ] ++ (wReader aU C us ua ++ (wRail aR C rs ra ++ (wRail aR2 C rs2 ra2 ++ (wSlots aS C sa sl ++ (wNight n0 aN C ns na nl ++ ([cYear y0 y1 y2 C y_isThere y_taken y_took] ++ ([cOb o0 C o_of]))))))))) H := by rw [hH]; exact hP
  have hS : va_S A s.heap H locs := by rw [hH, hlo]; exact hS
  rw [show W p l e rmX11_hides s m args below meth c s.heap [] 0 0 Q (F0 m 0 ls []) = W p l e rmX11_hides s m args below meth c H locs 0 0 Q (F0 m 0 ls []) from by rw [hH, hlo]]
  refine lv_aload_n hx hb dX11_hides_0 rfl (lv_at hl 0 rfl) ?_
  refine va_get (D := D) (ci := 11) (v := .ref (aR 0)) (C := RX11) (T := TX11) (N := 8) hx hb hw inW_X11 hown hK hP 0 rfl rfl 1 (by decide) (hw _ mw_2_144) (fun _ h9 => h9) rfl dX11_hides_1 ?_
  refine lv_iload_n hx hb dX11_hides_4 rfl (lv_at hl 1 rfl) ?_
  refine gs_I21_41 (rs_VN21_34 (As := [.int p1]) (rest := []) ⟨hx, hb, hml, hown, hw⟩ hK hN hP hD (k_X4_hasBike l D C _ aR  rs ra p1 h) ⟨va_cnB 1 hw (goodN mw_3_183) rfl rfl rfl (hN.m 31 rfl) (hw _ mw_1_4) (by decide +kernel) ⟨Nat.le_of_ble_eq_true rfl, Nat.le_of_ble_eq_true rfl⟩, hw _ mw_3_182, hw _ mw_s34⟩ rfl rfl rfl hl.1 rfl (Nat.le_of_ble_eq_true rfl) dX11_hides_5 ⟨Nat.zero_le _, Nat.zero_le _⟩) hP hD hS hA (fun r1 u H locs h hP hD hS => ?_)
  have hP : va_P D vwCl (List.flatten ([cLockRail L0 (aU 0) (aR 0) (aR2 0) h_images (aS 0) n0 y0 o0 C ] ++ (wReader aU C us ua ++ (wRail aR C rs ra ++ (wRail aR2 C rs2 ra2 ++ (wSlots aS C sa sl ++ (wNight n0 aN C ns na nl ++ ([cYear y0 y1 y2 C y_isThere y_taken y_took] ++ ([cOb o0 C o_of]))))))))) H := hP
  have hD : va_D A (List.flatten ([cLockRail L0 (aU 0) (aR 0) (aR2 0) h_images (aS 0) n0 y0 o0 C ] ++ (wReader aU C us ua ++ (wRail aR C rs ra ++ (wRail aR2 C rs2 ra2 ++ (wSlots aS C sa sl ++ (wNight n0 aN C ns na nl ++ ([cYear y0 y1 y2 C y_isThere y_taken y_took] ++ ([cOb o0 C o_of]))))))))) := hD
  refine lv_if_ne (tgt := 15) hx hb dX11_hides_8 (by decide) (fun c2 => ?_) (fun c2 => ?_)
  · have h := h.1 c2
    refine lv_aload_n hx hb dX11_hides_15 rfl (lv_at hl 0 rfl) ?_
    refine va_get (D := D) (ci := 11) (v := .ref (aR2 0)) (C := RX11) (T := TX11) (N := 8) hx hb hw inW_X11 hown hK hP 0 rfl rfl 2 (by decide) (hw _ mw_2_145) (fun _ h9 => h9) rfl dX11_hides_16 ?_
    refine lv_aload_n hx hb dX11_hides_19 rfl (lv_at hl 0 rfl) ?_
    refine va_get (D := D) (ci := 11) (v := .ref (aR 0)) (C := RX11) (T := TX11) (N := 8) hx hb hw inW_X11 hown hK hP 0 rfl rfl 1 (by decide) (hw _ mw_2_144) (fun _ h9 => h9) rfl dX11_hides_20 ?_
    refine gs_V21_52 (rs_VN21_40 (As := [.ref (aR 0)]) (rest := []) ⟨hx, hb, hml, hown, hw⟩ hK hN hP hD (k_X4_copyFrom l D C _ aR2 aR  rs2 ra2 rs ra  h) ⟨va_cnB 1 hw (goodN mw_3_126) rfl rfl rfl (hN.m 23 rfl) (hw _ mw_1_4) (by decide +kernel) ⟨Nat.le_of_ble_eq_true rfl, Nat.le_of_ble_eq_true rfl⟩, hw _ mw_3_125, hw _ mw_s26⟩ rfl rfl rfl hl.1 rfl (Nat.le_of_ble_eq_true rfl) dX11_hides_23 ⟨Nat.zero_le _, Nat.zero_le _⟩) hP hD hS hA (fun u H locs h hP hD hS => ?_)
    obtain ⟨rs_3, ra_4⟩ := u
    have hP : va_P D vwCl (List.flatten ([cLockRail L0 (aU 0) (aR 0) (aR2 0) h_images (aS 0) n0 y0 o0 C ] ++ (wReader aU C us ua ++ (wRail aR C rs ra ++ (wRail aR2 C rs_3 ra_4 ++ (wSlots aS C sa sl ++ (wNight n0 aN C ns na nl ++ ([cYear y0 y1 y2 C y_isThere y_taken y_took] ++ ([cOb o0 C o_of]))))))))) H := hP
    have hD : va_D A (List.flatten ([cLockRail L0 (aU 0) (aR 0) (aR2 0) h_images (aS 0) n0 y0 o0 C ] ++ (wReader aU C us ua ++ (wRail aR C rs ra ++ (wRail aR2 C rs_3 ra_4 ++ (wSlots aS C sa sl ++ (wNight n0 aN C ns na nl ++ ([cYear y0 y1 y2 C y_isThere y_taken y_took] ++ ([cOb o0 C o_of]))))))))) := hD
    refine lv_aload_n hx hb dX11_hides_26 rfl (lv_at hl 0 rfl) ?_
    refine va_get (D := D) (ci := 11) (v := .ref (aR2 0)) (C := RX11) (T := TX11) (N := 8) hx hb hw inW_X11 hown hK hP 0 rfl rfl 2 (by decide) (hw _ mw_2_145) (fun _ h9 => h9) rfl dX11_hides_27 ?_
    refine va_getN (D := D) (ci := 4) (v := .ref (aR2 7)) (C := RX4) (T := TX4) (N := 16) hx hb hw inW_X4 hown hK hP 26 rfl rfl 5 (by decide) hn97 (fun _ h9 => h9) rfl dX11_hides_30 ?_
    refine lv_iload_n hx hb dX11_hides_33 rfl (lv_at hl 1 rfl) ?_
    refine lv_iconst (v := 0) hx hb dX11_hides_34 (by decide) ?_
    refine gs_V21_53 (rs_VN21_41 (As := [.int p1, .int 0]) (rest := []) ⟨hx, hb, hml, hown, hw⟩ hK hN hP hD (k_X0_markOthers l D C _ (aR2 7) (aR2 8) (aR2 9) (aR2 10) (aR2 11) (aR2 12)  (rs_3 13) (ra_4 4) (ra_4 5) (ra_4 6) (ra_4 7) (ra_4 8) p1 0 h) ⟨va_cnB 2 hw (goodN mw_5_60) rfl rfl rfl (hN.m 63 rfl) (hw _ mw_1_7) (by decide +kernel) ⟨Nat.le_of_ble_eq_true rfl, Nat.le_of_ble_eq_true rfl⟩, hw _ mw_5_59, hw _ mw_s79⟩ rfl rfl rfl hl.1 rfl (Nat.le_of_ble_eq_true rfl) dX11_hides_35 ⟨Nat.zero_le _, Nat.zero_le _⟩) hP hD hS hA (fun mar_5 H locs h hP hD hS => ?_)
    have hP : va_P D vwCl (List.flatten ([cLockRail L0 (aU 0) (aR 0) (aR2 0) h_images (aS 0) n0 y0 o0 C ] ++ (wReader aU C us ua ++ (wRail aR C rs ra ++ (wRail aR2 C rs_3 (va_up ra_4 8 mar_5) ++ (wSlots aS C sa sl ++ (wNight n0 aN C ns na nl ++ ([cYear y0 y1 y2 C y_isThere y_taken y_took] ++ ([cOb o0 C o_of]))))))))) H := hP
    have hD : va_D A (List.flatten ([cLockRail L0 (aU 0) (aR 0) (aR2 0) h_images (aS 0) n0 y0 o0 C ] ++ (wReader aU C us ua ++ (wRail aR C rs ra ++ (wRail aR2 C rs_3 (va_up ra_4 8 mar_5) ++ (wSlots aS C sa sl ++ (wNight n0 aN C ns na nl ++ ([cYear y0 y1 y2 C y_isThere y_taken y_took] ++ ([cOb o0 C o_of]))))))))) := hD
    refine lv_aload_n hx hb dX11_hides_38 rfl (lv_at hl 0 rfl) ?_
    refine lv_aload_n hx hb dX11_hides_39 rfl (lv_at hl 0 rfl) ?_
    refine va_get (D := D) (ci := 11) (v := .ref (aR2 0)) (C := RX11) (T := TX11) (N := 8) hx hb hw inW_X11 hown hK hP 0 rfl rfl 2 (by decide) (hw _ mw_2_145) (fun _ h9 => h9) rfl dX11_hides_40 ?_
    refine lv_iload_n hx hb dX11_hides_43 rfl (lv_at hl 1 rfl) ?_
    refine gs_L21_54 (rs_V21_42 (As := [.ref (aR2 0), .int p1]) (rest := []) ⟨hx, hb, hml, hown, hw⟩ hK hN hP hD (k_X11_lossOn l D C _ L0 aR2 n0 aN (aU 0) (aR 0) (aR2 0) h_images (aS 0) y0 o0  rs_3 (va_up ra_4 8 mar_5) ns na nl p1 h) (cwV 2 hw (goodV mw_5_61 mw_5_63 mw_s80 mw_1_1 mw_5_64) rfl rfl rfl (by decide +kernel) ⟨Nat.le_of_ble_eq_true rfl, Nat.le_of_ble_eq_true rfl⟩) rfl rfl rfl hl.1 rfl (Nat.le_of_ble_eq_true rfl) dX11_hides_44 ⟨Nat.zero_le _, Nat.zero_le _⟩) hP hD hS hA (fun r10 u H locs h hP hD hS => ?_)
    obtain ⟨aN6, ns_7, na_8, nl_9⟩ := u
    have hP : va_P D vwCl (List.flatten ([cLockRail L0 (aU 0) (aR 0) (aR2 0) h_images (aS 0) n0 y0 o0 C ] ++ (wReader aU C us ua ++ (wRail aR C rs ra ++ (wRail aR2 C rs_3 (va_up ra_4 8 mar_5) ++ (wSlots aS C sa sl ++ (wNight n0 aN6 C ns_7 na_8 nl_9 ++ ([cYear y0 y1 y2 C y_isThere y_taken y_took] ++ ([cOb o0 C o_of]))))))))) H := hP
    have hD : va_D A (List.flatten ([cLockRail L0 (aU 0) (aR 0) (aR2 0) h_images (aS 0) n0 y0 o0 C ] ++ (wReader aU C us ua ++ (wRail aR C rs ra ++ (wRail aR2 C rs_3 (va_up ra_4 8 mar_5) ++ (wSlots aS C sa sl ++ (wNight n0 aN6 C ns_7 na_8 nl_9 ++ ([cYear y0 y1 y2 C y_isThere y_taken y_took] ++ ([cOb o0 C o_of]))))))))) := hD
    refine lv_lstore_n (lv' := [(2, .long r10), (0, .ref L0), (1, .int p1)]) hx hb dX11_hides_47 rfl hl (by decide) rfl (fun ls hl => ?_)
    refine lv_aload_n hx hb dX11_hides_48 rfl (lv_at hl 1 rfl) ?_
    refine va_get (D := D) (ci := 11) (v := .ref (aR2 0)) (C := RX11) (T := TX11) (N := 8) hx hb hw inW_X11 hown hK hP 0 rfl rfl 2 (by decide) (hw _ mw_2_145) (fun _ h9 => h9) rfl dX11_hides_49 ?_
    refine va_getN (D := D) (ci := 4) (v := .ref (aR2 7)) (C := RX4) (T := TX4) (N := 16) hx hb hw inW_X4 hown hK hP 26 rfl rfl 5 (by decide) hn97 (fun _ h9 => h9) rfl dX11_hides_52 ?_
    refine lv_iload_n hx hb dX11_hides_55 rfl (lv_at hl 2 rfl) ?_
    refine lv_iconst (v := 1) hx hb dX11_hides_56 (by decide) ?_
    refine gs_V21_53 (rs_VN21_41 (As := [.int p1, .int 1]) (rest := []) ⟨hx, hb, hml, hown, hw⟩ hK hN hP hD (k_X0_markOthers l D C _ (aR2 7) (aR2 8) (aR2 9) (aR2 10) (aR2 11) (aR2 12)  (rs_3 13) (ra_4 4) (ra_4 5) (ra_4 6) (ra_4 7) mar_5 p1 1 h) ⟨va_cnB 2 hw (goodN mw_5_60) rfl rfl rfl (hN.m 63 rfl) (hw _ mw_1_7) (by decide +kernel) ⟨Nat.le_of_ble_eq_true rfl, Nat.le_of_ble_eq_true rfl⟩, hw _ mw_5_59, hw _ mw_s79⟩ rfl rfl rfl hl.1 rfl (Nat.le_of_ble_eq_true rfl) dX11_hides_57 ⟨Nat.zero_le _, Nat.zero_le _⟩) hP hD hS hA (fun mar_11 H locs h hP hD hS => ?_)
    have hP : va_P D vwCl (List.flatten ([cLockRail L0 (aU 0) (aR 0) (aR2 0) h_images (aS 0) n0 y0 o0 C ] ++ (wReader aU C us ua ++ (wRail aR C rs ra ++ (wRail aR2 C rs_3 (va_up ra_4 8 mar_11) ++ (wSlots aS C sa sl ++ (wNight n0 aN6 C ns_7 na_8 nl_9 ++ ([cYear y0 y1 y2 C y_isThere y_taken y_took] ++ ([cOb o0 C o_of]))))))))) H := hP
    have hD : va_D A (List.flatten ([cLockRail L0 (aU 0) (aR 0) (aR2 0) h_images (aS 0) n0 y0 o0 C ] ++ (wReader aU C us ua ++ (wRail aR C rs ra ++ (wRail aR2 C rs_3 (va_up ra_4 8 mar_11) ++ (wSlots aS C sa sl ++ (wNight n0 aN6 C ns_7 na_8 nl_9 ++ ([cYear y0 y1 y2 C y_isThere y_taken y_took] ++ ([cOb o0 C o_of]))))))))) := hD
    refine lv_lload_n hx hb dX11_hides_60 rfl (lv_at hl 0 rfl) ?_
    refine lv_aload_n hx hb dX11_hides_61 rfl (lv_at hl 1 rfl) ?_
    refine lv_aload_n hx hb dX11_hides_62 rfl (lv_at hl 1 rfl) ?_
    refine va_get (D := D) (ci := 11) (v := .ref (aR2 0)) (C := RX11) (T := TX11) (N := 8) hx hb hw inW_X11 hown hK hP 0 rfl rfl 2 (by decide) (hw _ mw_2_145) (fun _ h9 => h9) rfl dX11_hides_63 ?_
    refine lv_iload_n hx hb dX11_hides_66 rfl (lv_at hl 2 rfl) ?_
    refine gs_L21_54 (rs_V21_42 (As := [.ref (aR2 0), .int p1]) (rest := [.long r10]) ⟨hx, hb, hml, hown, hw⟩ hK hN hP hD (k_X11_lossOn l D C _ L0 aR2 n0 aN6 (aU 0) (aR 0) (aR2 0) h_images (aS 0) y0 o0  rs_3 (va_up ra_4 8 mar_11) ns_7 na_8 nl_9 p1 h) (cwV 2 hw (goodV mw_5_61 mw_5_63 mw_s80 mw_1_1 mw_5_64) rfl rfl rfl (by decide +kernel) ⟨Nat.le_of_ble_eq_true rfl, Nat.le_of_ble_eq_true rfl⟩) rfl rfl rfl hl.1 rfl (Nat.le_of_ble_eq_true rfl) dX11_hides_67 ⟨Nat.zero_le _, Nat.zero_le _⟩) hP hD hS hA (fun r16 u H locs h hP hD hS => ?_)
    obtain ⟨aN12, ns_13, na_14, nl_15⟩ := u
    have hP : va_P D vwCl (List.flatten ([cLockRail L0 (aU 0) (aR 0) (aR2 0) h_images (aS 0) n0 y0 o0 C ] ++ (wReader aU C us ua ++ (wRail aR C rs ra ++ (wRail aR2 C rs_3 (va_up ra_4 8 mar_11) ++ (wSlots aS C sa sl ++ (wNight n0 aN12 C ns_13 na_14 nl_15 ++ ([cYear y0 y1 y2 C y_isThere y_taken y_took] ++ ([cOb o0 C o_of]))))))))) H := hP
    have hD : va_D A (List.flatten ([cLockRail L0 (aU 0) (aR 0) (aR2 0) h_images (aS 0) n0 y0 o0 C ] ++ (wReader aU C us ua ++ (wRail aR C rs ra ++ (wRail aR2 C rs_3 (va_up ra_4 8 mar_11) ++ (wSlots aS C sa sl ++ (wNight n0 aN12 C ns_13 na_14 nl_15 ++ ([cYear y0 y1 y2 C y_isThere y_taken y_took] ++ ([cOb o0 C o_of]))))))))) := hD
    refine lv_lsub hx hb dX11_hides_70 ?_
    rw [← hQ]
    exact cRetL (v := (r10 - r16)) (aN12, rs_3, (va_up ra_4 8 mar_11), ns_13, na_14, nl_15) hx hb hr hlocks hS hP hD h dX11_hides_71
  · have h := h.2 c2
    refine lv_ldc2 (v := (-1000000000000)) hx hb hown (hw _ mw_4_222) dX11_hides_11 ?_
    rw [← hQ]
    exact cRetL (v := (-1000000000000)) (aN, rs2, ra2, ns, na, nl) hx hb hr hlocks hS hP hD h dX11_hides_14
abbrev vsX11_refusedBait : List Cond := Cond.code yX11_refusedBait cX11_refusedBait 4 (some .int) :: WS
abbrev rmX11_refusedBait : Room := { frames := 1, cells := 0, slots := 0, locals := 22 }
set_option maxHeartbeats 4000000 in
set_option maxRecDepth 100000 in
theorem k_X11_refusedBait (l : Launch) (D : va_G) (C : Nat → ClassId) (sz : Nat) (L0 : Nat) (aR : Nat → Nat) (h_reader : Nat) (h_trial : Nat) (h_images : Nat) (h_slots : Nat) (h_night : Nat) (h_triedYear : Nat) (h_ofBikes : Nat) (rs : Nat → Int32) (ra : Nat → Nat → Int32) (p1 : Int32) (p2 : Int32) (p3 : Int32) {post : Int32 → Prop} (h : P_X11_refusedBait rs ra p1 p2 p3 post) : Met l yX11_refusedBait vsX11_refusedBait rmX11_refusedBait (cPre D C [.ref L0, .int p1, .int p2, .int p3] sz ([cLockRail L0 h_reader (aR 0) h_trial h_images h_slots h_night h_triedYear h_ofBikes C ] ++ (wRail aR C rs ra))) (cQi D (fun (r : Int32) (u : Unit) => post r ) (fun u => [cLockRail L0 h_reader (aR 0) h_trial h_images h_slots h_night h_triedYear h_ofBikes C ] ++ (wRail aR C rs ra)) (va_A (List.flatten ([cLockRail L0 h_reader (aR 0) h_trial h_images h_slots h_night h_triedYear h_ofBikes C ] ++ (wRail aR C rs ra))) sz)) 0 0 (va_A (List.flatten ([cLockRail L0 h_reader (aR 0) h_trial h_images h_slots h_night h_triedYear h_ofBikes C ] ++ (wRail aR C rs ra))) sz) := by
  refine cStart (QA := fun A => cQi D (fun (r : Int32) (u : Unit) => post r ) (fun u => [cLockRail L0 h_reader (aR 0) h_trial h_images h_slots h_night h_triedYear h_ofBikes C ] ++ (wRail aR C rs ra)) A) (cc := cX11_refusedBait) (maxL := 4) (ret := (some .int)) (by decide) (Nat.le_of_ble_eq_true rfl) ?_
  intro p e s m args below meth c A ls hx hb hr hml hown hw hlocks hname hK hN hA hP hD hS hl
  generalize hQ : MQ below _ args s 0 0 A = Q
  have hl : lv_has ls 4 [(0, .ref L0), (1, .int p1), (2, .int p2), (3, .int p3)] := hl
  have hn97 : (Cond.fieldLinkNest "LockRail" 97 "LockRail$Rail" "bikes" "LLockRail$Bikes;" "LockRail").before args s = true := hN.f 61 rfl
  obtain ⟨H, hH⟩ : ∃ H, H = s.heap := ⟨_, rfl⟩
  obtain ⟨locs, hlo⟩ : ∃ z : List Loc, z = [] := ⟨_, rfl⟩
  have hP : va_P D vwCl (List.flatten ([cLockRail L0 h_reader (aR 0) h_trial h_images h_slots h_night h_triedYear h_ofBikes C ] ++ (wRail aR C rs ra))) H := by rw [hH]; exact hP
  have hS : va_S A s.heap H locs := by rw [hH, hlo]; exact hS
  rw [show W p l e rmX11_refusedBait s m args below meth c s.heap [] 0 0 Q (F0 m 0 ls []) = W p l e rmX11_refusedBait s m args below meth c H locs 0 0 Q (F0 m 0 ls []) from by rw [hH, hlo]]
  refine lv_aload_n hx hb dX11_refusedBait_0 rfl (lv_at hl 0 rfl) ?_
  refine va_get (D := D) (ci := 11) (v := .ref (aR 0)) (C := RX11) (T := TX11) (N := 8) hx hb hw inW_X11 hown hK hP 0 rfl rfl 1 (by decide) (hw _ mw_2_144) (fun _ h9 => h9) rfl dX11_refusedBait_1 ?_
  refine lv_iload_n hx hb dX11_refusedBait_4 rfl (lv_at hl 1 rfl) ?_
  refine gs_I7_61 (rs_VN7_45 (As := [.int p1]) (rest := []) ⟨hx, hb, hml, hown, hw⟩ hK hN hP hD (k_X4_hasPlace l D C _ aR  rs ra p1 h) ⟨va_cnB 1 hw (goodN mw_3_165) rfl rfl rfl (hN.m 29 rfl) (hw _ mw_1_4) (by decide +kernel) ⟨Nat.le_of_ble_eq_true rfl, Nat.le_of_ble_eq_true rfl⟩, hw _ mw_3_164, hw _ mw_s32⟩ rfl rfl rfl hl.1 rfl (Nat.le_of_ble_eq_true rfl) dX11_refusedBait_5 ⟨Nat.zero_le _, Nat.zero_le _⟩) hP hD hS hA (fun r1 u H locs h hP hD hS => ?_)
  have hP : va_P D vwCl (List.flatten ([cLockRail L0 h_reader (aR 0) h_trial h_images h_slots h_night h_triedYear h_ofBikes C ] ++ (wRail aR C rs ra))) H := hP
  have hD : va_D A (List.flatten ([cLockRail L0 h_reader (aR 0) h_trial h_images h_slots h_night h_triedYear h_ofBikes C ] ++ (wRail aR C rs ra))) := hD
  refine lv_if_eq (tgt := 32) hx hb dX11_refusedBait_8 (by decide) (fun c2 => ?_) (fun c2 => ?_)
  · have h := h.1 c2
    refine lv_bipush (v := (-2)) hx hb dX11_refusedBait_32 (by decide) ?_
    rw [← hQ]
    exact cRetI (v := (-2)) () hx hb hr hlocks hS hP hD h dX11_refusedBait_34
  · have h := h.2 c2
    refine lv_iload_n hx hb dX11_refusedBait_11 rfl (lv_at hl 2 rfl) ?_
    refine lv_if_lt (tgt := 32) hx hb dX11_refusedBait_12 (by decide) (fun c3 => ?_) (fun c3 => ?_)
    · have h := h.1 c3
      refine lv_bipush (v := (-2)) hx hb dX11_refusedBait_32 (by decide) ?_
      rw [← hQ]
      exact cRetI (v := (-2)) () hx hb hr hlocks hS hP hD h dX11_refusedBait_34
    · have h := h.2 c3
      refine lv_iload_n hx hb dX11_refusedBait_15 rfl (lv_at hl 2 rfl) ?_
      refine lv_sipush (v := 9999) hx hb dX11_refusedBait_16 (by decide) ?_
      refine lv_icmp_gt (tgt := 32) hx hb dX11_refusedBait_19 (by decide) (fun c4 => ?_) (fun c4 => ?_)
      · have h := h.1 c4
        refine lv_bipush (v := (-2)) hx hb dX11_refusedBait_32 (by decide) ?_
        rw [← hQ]
        exact cRetI (v := (-2)) () hx hb hr hlocks hS hP hD h dX11_refusedBait_34
      · have h := h.2 c4
        refine lv_iload_n hx hb dX11_refusedBait_22 rfl (lv_at hl 3 rfl) ?_
        refine lv_if_lt (tgt := 32) hx hb dX11_refusedBait_23 (by decide) (fun c5 => ?_) (fun c5 => ?_)
        · have h := h.1 c5
          refine lv_bipush (v := (-2)) hx hb dX11_refusedBait_32 (by decide) ?_
          rw [← hQ]
          exact cRetI (v := (-2)) () hx hb hr hlocks hS hP hD h dX11_refusedBait_34
        · have h := h.2 c5
          refine lv_iload_n hx hb dX11_refusedBait_26 rfl (lv_at hl 3 rfl) ?_
          refine lv_bipush (v := 100) hx hb dX11_refusedBait_27 (by decide) ?_
          refine lv_icmp_le (tgt := 35) hx hb dX11_refusedBait_29 (by decide) (fun c6 => ?_) (fun c6 => ?_)
          · have h := h.1 c6
            refine lv_aload_n hx hb dX11_refusedBait_35 rfl (lv_at hl 0 rfl) ?_
            refine va_get (D := D) (ci := 11) (v := .ref (aR 0)) (C := RX11) (T := TX11) (N := 8) hx hb hw inW_X11 hown hK hP 0 rfl rfl 1 (by decide) (hw _ mw_2_144) (fun _ h9 => h9) rfl dX11_refusedBait_36 ?_
            refine va_getN (D := D) (ci := 4) (v := .ref (aR 7)) (C := RX4) (T := TX4) (N := 16) hx hb hw inW_X4 hown hK hP 1 rfl rfl 5 (by decide) hn97 (fun _ h9 => h9) rfl dX11_refusedBait_39 ?_
            refine lv_iload_n hx hb dX11_refusedBait_42 rfl (lv_at hl 1 rfl) ?_
            refine gs_I7_79 (rs_VN7_59 (As := [.int p1]) (rest := []) ⟨hx, hb, hml, hown, hw⟩ hK hN hP hD (k_X0_standingAt l D C _ (aR 7) (aR 8) (aR 9) (aR 10) (aR 11) (aR 12)  (rs 13) (ra 4) (ra 5) (ra 6) (ra 7) (ra 8) p1 h) ⟨va_cnB 1 hw (goodN mw_3_80) rfl rfl rfl (hN.m 60 rfl) (hw _ mw_1_7) (by decide +kernel) ⟨Nat.le_of_ble_eq_true rfl, Nat.le_of_ble_eq_true rfl⟩, hw _ mw_3_79, hw _ mw_s18⟩ rfl rfl rfl hl.1 rfl (Nat.le_of_ble_eq_true rfl) dX11_refusedBait_43 ⟨Nat.zero_le _, Nat.zero_le _⟩) hP hD hS hA (fun r7 u H locs h hP hD hS => ?_)
            have hP : va_P D vwCl (List.flatten ([cLockRail L0 h_reader (aR 0) h_trial h_images h_slots h_night h_triedYear h_ofBikes C ] ++ (wRail aR C rs ra))) H := hP
            have hD : va_D A (List.flatten ([cLockRail L0 h_reader (aR 0) h_trial h_images h_slots h_night h_triedYear h_ofBikes C ] ++ (wRail aR C rs ra))) := hD
            refine lv_iconst (v := (-1)) hx hb dX11_refusedBait_46 (by decide) ?_
            refine lv_icmp_ne (tgt := 54) hx hb dX11_refusedBait_47 (by decide) (fun c8 => ?_) (fun c8 => ?_)
            · have h := h.1 c8
              refine lv_bipush (v := (-5)) hx hb dX11_refusedBait_54 (by decide) ?_
              rw [← hQ]
              exact cRetI (v := (-5)) () hx hb hr hlocks hS hP hD h dX11_refusedBait_56
            · have h := h.2 c8
              refine lv_iconst (v := 0) hx hb dX11_refusedBait_50 (by decide) ?_
              refine lv_goto (tgt := 56) hx hb dX11_refusedBait_51 (by decide) ?_
              rw [← hQ]
              exact cRetI (v := 0) () hx hb hr hlocks hS hP hD h dX11_refusedBait_56
          · have h := h.2 c6
            refine lv_bipush (v := (-2)) hx hb dX11_refusedBait_32 (by decide) ?_
            rw [← hQ]
            exact cRetI (v := (-2)) () hx hb hr hlocks hS hP hD h dX11_refusedBait_34
abbrev vsX11_bait : List Cond := Cond.code yX11_bait cX11_bait 5 (some .long) :: WS
abbrev rmX11_bait : Room := { frames := 4, cells := 0, slots := 0, locals := 108 }
set_option maxHeartbeats 4000000 in
set_option maxRecDepth 100000 in
theorem k_X11_bait (l : Launch) (D : va_G) (C : Nat → ClassId) (sz : Nat) (L0 : Nat) (aU : Nat → Nat) (aR : Nat → Nat) (aR2 : Nat → Nat) (aS : Nat → Nat) (n0 : Nat) (aN : Nat → Nat) (y0 : Nat) (y1 : Nat) (y2 : Nat) (o0 : Nat) (h_images : Nat) (us : Nat → Int32) (ua : Nat → Nat → Int32) (rs : Nat → Int32) (ra : Nat → Nat → Int32) (rs2 : Nat → Int32) (ra2 : Nat → Nat → Int32) (sa : Nat → Nat → Int32) (sl : Nat → Nat → Int64) (ns : Nat → Int32) (na : Nat → Nat → Int32) (nl : Nat → Nat → Int64) (y_isThere : Int32) (y_taken : Nat → Int32) (y_took : Nat → Int32) (o_of : Nat → Int64) (p1 : Int32) (p2 : Int32) (p3 : Int32) {post : Int64 → (Nat → Int32) → (Nat → Nat → Int32) → (Nat → Nat → Int64) → Prop} (h : P_X11_bait rs ra ns na nl p1 p2 p3 post) : Met l yX11_bait vsX11_bait rmX11_bait (cPre D C [.ref L0, .int p1, .int p2, .int p3] sz ([cLockRail L0 (aU 0) (aR 0) (aR2 0) h_images (aS 0) n0 y0 o0 C ] ++ (wReader aU C us ua ++ (wRail aR C rs ra ++ (wRail aR2 C rs2 ra2 ++ (wSlots aS C sa sl ++ (wNight n0 aN C ns na nl ++ ([cYear y0 y1 y2 C y_isThere y_taken y_took] ++ ([cOb o0 C o_of]))))))))) (cQl D (fun (r : Int64) (u : (Nat → Nat) × (Nat → Int32) × (Nat → Nat → Int32) × (Nat → Nat → Int64)) => post r u.2.1 u.2.2.1 u.2.2.2) (fun u => [cLockRail L0 (aU 0) (aR 0) (aR2 0) h_images (aS 0) n0 y0 o0 C ] ++ (wReader aU C us ua ++ (wRail aR C rs ra ++ (wRail aR2 C rs2 ra2 ++ (wSlots aS C sa sl ++ (wNight n0 u.1 C u.2.1 u.2.2.1 u.2.2.2 ++ ([cYear y0 y1 y2 C y_isThere y_taken y_took] ++ ([cOb o0 C o_of])))))))) (va_A (List.flatten ([cLockRail L0 (aU 0) (aR 0) (aR2 0) h_images (aS 0) n0 y0 o0 C ] ++ (wReader aU C us ua ++ (wRail aR C rs ra ++ (wRail aR2 C rs2 ra2 ++ (wSlots aS C sa sl ++ (wNight n0 aN C ns na nl ++ ([cYear y0 y1 y2 C y_isThere y_taken y_took] ++ ([cOb o0 C o_of]))))))))) sz)) 0 0 (va_A (List.flatten ([cLockRail L0 (aU 0) (aR 0) (aR2 0) h_images (aS 0) n0 y0 o0 C ] ++ (wReader aU C us ua ++ (wRail aR C rs ra ++ (wRail aR2 C rs2 ra2 ++ (wSlots aS C sa sl ++ (wNight n0 aN C ns na nl ++ ([cYear y0 y1 y2 C y_isThere y_taken y_took] ++ ([cOb o0 C o_of]))))))))) sz) := by
  refine cStart (QA := fun A => cQl D (fun (r : Int64) (u : (Nat → Nat) × (Nat → Int32) × (Nat → Nat → Int32) × (Nat → Nat → Int64)) => post r u.2.1 u.2.2.1 u.2.2.2) (fun u => [cLockRail L0 (aU 0) (aR 0) (aR2 0) h_images (aS 0) n0 y0 o0 C ] ++ (wReader aU C us ua ++ (wRail aR C rs ra ++ (wRail aR2 C rs2 ra2 ++ (wSlots aS C sa sl ++ (wNight n0 u.1 C u.2.1 u.2.2.1 u.2.2.2 ++ ([cYear y0 y1 y2 C y_isThere y_taken y_took] ++ ([cOb o0 C o_of])))))))) A) (cc := cX11_bait) (maxL := 5) (ret := (some .long)) (by decide) (Nat.le_of_ble_eq_true rfl) ?_
  intro p e s m args below meth c A ls hx hb hr hml hown hw hlocks hname hK hN hA hP hD hS hl
  generalize hQ : MQ below _ args s 0 0 A = Q
  have hl : lv_has ls 5 [(0, .ref L0), (1, .int p1), (2, .int p2), (3, .int p3)] := hl
  obtain ⟨H, hH⟩ : ∃ H, H = s.heap := ⟨_, rfl⟩
  obtain ⟨locs, hlo⟩ : ∃ z : List Loc, z = [] := ⟨_, rfl⟩
  have hP : va_P D vwCl (List.flatten ([cLockRail L0 (aU 0) (aR 0) (aR2 0) h_images (aS 0) n0 y0 o0 C ] ++ (wReader aU C us ua ++ (wRail aR C rs ra ++ (wRail aR2 C rs2 ra2 ++ (wSlots aS C sa sl ++ (wNight n0 aN C ns na nl ++ ([cYear y0 y1 y2 C y_isThere y_taken y_took] ++ ([cOb o0 C o_of]))))))))) H := by rw [hH]; exact hP
  have hS : va_S A s.heap H locs := by rw [hH, hlo]; exact hS
  rw [show W p l e rmX11_bait s m args below meth c s.heap [] 0 0 Q (F0 m 0 ls []) = W p l e rmX11_bait s m args below meth c H locs 0 0 Q (F0 m 0 ls []) from by rw [hH, hlo]]
  refine lv_aload_n hx hb dX11_bait_0 rfl (lv_at hl 0 rfl) ?_
  refine lv_iload_n hx hb dX11_bait_1 rfl (lv_at hl 1 rfl) ?_
  refine lv_iload_n hx hb dX11_bait_2 rfl (lv_at hl 2 rfl) ?_
  refine lv_iload_n hx hb dX11_bait_3 rfl (lv_at hl 3 rfl) ?_
  refine gs_I21_64 (rs_V21_47 (As := [.int p1, .int p2, .int p3]) (rest := []) ⟨hx, hb, hml, hown, hw⟩ hK hN hP hD (k_X11_refusedBait l D C _ L0 aR (aU 0) (aR2 0) h_images (aS 0) n0 y0 o0  rs ra p1 p2 p3 h) (cwV 3 hw (goodV mw_5_69 mw_5_71 mw_s81 mw_1_1 mw_5_72) rfl rfl rfl (by decide +kernel) ⟨Nat.le_of_ble_eq_true rfl, Nat.le_of_ble_eq_true rfl⟩) rfl rfl rfl hl.1 rfl (Nat.le_of_ble_eq_true rfl) dX11_bait_4 ⟨Nat.zero_le _, Nat.zero_le _⟩) hP hD hS hA (fun r1 u H locs h hP hD hS => ?_)
  have hP : va_P D vwCl (List.flatten ([cLockRail L0 (aU 0) (aR 0) (aR2 0) h_images (aS 0) n0 y0 o0 C ] ++ (wReader aU C us ua ++ (wRail aR C rs ra ++ (wRail aR2 C rs2 ra2 ++ (wSlots aS C sa sl ++ (wNight n0 aN C ns na nl ++ ([cYear y0 y1 y2 C y_isThere y_taken y_took] ++ ([cOb o0 C o_of]))))))))) H := hP
  have hD : va_D A (List.flatten ([cLockRail L0 (aU 0) (aR 0) (aR2 0) h_images (aS 0) n0 y0 o0 C ] ++ (wReader aU C us ua ++ (wRail aR C rs ra ++ (wRail aR2 C rs2 ra2 ++ (wSlots aS C sa sl ++ (wNight n0 aN C ns na nl ++ ([cYear y0 y1 y2 C y_isThere y_taken y_took] ++ ([cOb o0 C o_of]))))))))) := hD
  refine lv_istore (lv' := [(4, .int r1), (0, .ref L0), (1, .int p1), (2, .int p2), (3, .int p3)]) hx hb dX11_bait_7 hl (by decide) rfl (fun ls hl => ?_)
  refine lv_iload hx hb dX11_bait_9 (lv_at hl 0 rfl) ?_
  refine lv_if_eq (tgt := 18) hx hb dX11_bait_11 (by decide) (fun c2 => ?_) (fun c2 => ?_)
  · have h := h.1 c2
    refine lv_aload_n hx hb dX11_bait_18 rfl (lv_at hl 1 rfl) ?_
    refine va_get (D := D) (ci := 11) (v := .ref n0) (C := RX11) (T := TX11) (N := 8) hx hb hw inW_X11 hown hK hP 0 rfl rfl 5 (by decide) (hw _ mw_2_148) (fun _ h9 => h9) rfl dX11_bait_19 ?_
    refine lv_aload_n hx hb dX11_bait_22 rfl (lv_at hl 1 rfl) ?_
    refine va_get (D := D) (ci := 11) (v := .ref (aR 0)) (C := RX11) (T := TX11) (N := 8) hx hb hw inW_X11 hown hK hP 0 rfl rfl 1 (by decide) (hw _ mw_2_144) (fun _ h9 => h9) rfl dX11_bait_23 ?_
    refine lv_iload_n hx hb dX11_bait_26 rfl (lv_at hl 3 rfl) ?_
    refine lv_iload_n hx hb dX11_bait_27 rfl (lv_at hl 4 rfl) ?_
    refine gs_V21_43 (rs_VN21_36 (As := [.ref (aR 0), .int p2, .int p3]) (rest := []) ⟨hx, hb, hml, hown, hw⟩ hK hN hP hD (k_X3_playBaited l D C _ n0 aN aR  ns na nl rs ra p2 p3 h) ⟨va_cnB 3 hw (goodN mw_5_76) rfl rfl rfl (hN.m 64 rfl) (hw _ mw_1_11) (by decide +kernel) ⟨Nat.le_of_ble_eq_true rfl, Nat.le_of_ble_eq_true rfl⟩, hw _ mw_5_75, hw _ mw_s82⟩ rfl rfl rfl hl.1 rfl (Nat.le_of_ble_eq_true rfl) dX11_bait_28 ⟨Nat.zero_le _, Nat.zero_le _⟩) hP hD hS hA (fun u H locs h hP hD hS => ?_)
    obtain ⟨aN3, ns_4, na_5, nl_6⟩ := u
    have hP : va_P D vwCl (List.flatten ([cLockRail L0 (aU 0) (aR 0) (aR2 0) h_images (aS 0) n0 y0 o0 C ] ++ (wReader aU C us ua ++ (wRail aR C rs ra ++ (wRail aR2 C rs2 ra2 ++ (wSlots aS C sa sl ++ (wNight n0 aN3 C ns_4 na_5 nl_6 ++ ([cYear y0 y1 y2 C y_isThere y_taken y_took] ++ ([cOb o0 C o_of]))))))))) H := hP
    have hD : va_D A (List.flatten ([cLockRail L0 (aU 0) (aR 0) (aR2 0) h_images (aS 0) n0 y0 o0 C ] ++ (wReader aU C us ua ++ (wRail aR C rs ra ++ (wRail aR2 C rs2 ra2 ++ (wSlots aS C sa sl ++ (wNight n0 aN3 C ns_4 na_5 nl_6 ++ ([cYear y0 y1 y2 C y_isThere y_taken y_took] ++ ([cOb o0 C o_of]))))))))) := hD
    refine lv_aload_n hx hb dX11_bait_31 rfl (lv_at hl 1 rfl) ?_
    refine va_get (D := D) (ci := 11) (v := .ref n0) (C := RX11) (T := TX11) (N := 8) hx hb hw inW_X11 hown hK hP 0 rfl rfl 5 (by decide) (hw _ mw_2_148) (fun _ h9 => h9) rfl dX11_bait_32 ?_
    refine lv_aload_n hx hb dX11_bait_35 rfl (lv_at hl 1 rfl) ?_
    refine va_get (D := D) (ci := 11) (v := .ref (aR 0)) (C := RX11) (T := TX11) (N := 8) hx hb hw inW_X11 hown hK hP 0 rfl rfl 1 (by decide) (hw _ mw_2_144) (fun _ h9 => h9) rfl dX11_bait_36 ?_
    refine gs_L21_47 (rs_VN21_36 (As := [.ref (aR 0)]) (rest := []) ⟨hx, hb, hml, hown, hw⟩ hK hN hP hD (k_X3_baitedLoss l D C _ n0 aN3 aR  ns_4 na_5 nl_6 rs ra  h) ⟨va_cnB 1 hw (goodN mw_5_84) rfl rfl rfl (hN.m 65 rfl) (hw _ mw_1_11) (by decide +kernel) ⟨Nat.le_of_ble_eq_true rfl, Nat.le_of_ble_eq_true rfl⟩, hw _ mw_5_83, hw _ mw_s84⟩ rfl rfl rfl hl.1 rfl (Nat.le_of_ble_eq_true rfl) dX11_bait_39 ⟨Nat.zero_le _, Nat.zero_le _⟩) hP hD hS hA (fun r7 u H locs h hP hD hS => ?_)
    have hP : va_P D vwCl (List.flatten ([cLockRail L0 (aU 0) (aR 0) (aR2 0) h_images (aS 0) n0 y0 o0 C ] ++ (wReader aU C us ua ++ (wRail aR C rs ra ++ (wRail aR2 C rs2 ra2 ++ (wSlots aS C sa sl ++ (wNight n0 aN3 C ns_4 na_5 nl_6 ++ ([cYear y0 y1 y2 C y_isThere y_taken y_took] ++ ([cOb o0 C o_of]))))))))) H := hP
    have hD : va_D A (List.flatten ([cLockRail L0 (aU 0) (aR 0) (aR2 0) h_images (aS 0) n0 y0 o0 C ] ++ (wReader aU C us ua ++ (wRail aR C rs ra ++ (wRail aR2 C rs2 ra2 ++ (wSlots aS C sa sl ++ (wNight n0 aN3 C ns_4 na_5 nl_6 ++ ([cYear y0 y1 y2 C y_isThere y_taken y_took] ++ ([cOb o0 C o_of]))))))))) := hD
    rw [← hQ]
    exact cRetL (v := r7) (aN3, ns_4, na_5, nl_6) hx hb hr hlocks hS hP hD h dX11_bait_42
  · have h := h.2 c2
    refine lv_iload hx hb dX11_bait_14 (lv_at hl 0 rfl) ?_
    refine lv_i2l hx hb dX11_bait_16 rfl ?_
    rw [← hQ]
    exact cRetL (v := r1.toInt64) (aN, ns, na, nl) hx hb hr hlocks hS hP hD h dX11_bait_17
abbrev vsX11_caught : List Cond := Cond.code yX11_caught cX11_caught 6 (some .long) :: WS
abbrev rmX11_caught : Room := { frames := 4, cells := 0, slots := 0, locals := 108 }
set_option maxHeartbeats 4000000 in
set_option maxRecDepth 100000 in
theorem k_X11_caught (l : Launch) (D : va_G) (C : Nat → ClassId) (sz : Nat) (L0 : Nat) (aU : Nat → Nat) (aR : Nat → Nat) (aR2 : Nat → Nat) (aS : Nat → Nat) (n0 : Nat) (aN : Nat → Nat) (y0 : Nat) (y1 : Nat) (y2 : Nat) (o0 : Nat) (h_images : Nat) (us : Nat → Int32) (ua : Nat → Nat → Int32) (rs : Nat → Int32) (ra : Nat → Nat → Int32) (rs2 : Nat → Int32) (ra2 : Nat → Nat → Int32) (sa : Nat → Nat → Int32) (sl : Nat → Nat → Int64) (ns : Nat → Int32) (na : Nat → Nat → Int32) (nl : Nat → Nat → Int64) (y_isThere : Int32) (y_taken : Nat → Int32) (y_took : Nat → Int32) (o_of : Nat → Int64) (p1 : Int32) (p2 : Int32) (p3 : Int32) (p4 : Int32) {post : Int64 → (Nat → Int32) → (Nat → Nat → Int32) → (Nat → Nat → Int64) → Prop} (h : P_X11_caught rs ra ns na nl p1 p2 p3 p4 post) : Met l yX11_caught vsX11_caught rmX11_caught (cPre D C [.ref L0, .int p1, .int p2, .int p3, .int p4] sz ([cLockRail L0 (aU 0) (aR 0) (aR2 0) h_images (aS 0) n0 y0 o0 C ] ++ (wReader aU C us ua ++ (wRail aR C rs ra ++ (wRail aR2 C rs2 ra2 ++ (wSlots aS C sa sl ++ (wNight n0 aN C ns na nl ++ ([cYear y0 y1 y2 C y_isThere y_taken y_took] ++ ([cOb o0 C o_of]))))))))) (cQl D (fun (r : Int64) (u : (Nat → Nat) × (Nat → Int32) × (Nat → Nat → Int32) × (Nat → Nat → Int64)) => post r u.2.1 u.2.2.1 u.2.2.2) (fun u => [cLockRail L0 (aU 0) (aR 0) (aR2 0) h_images (aS 0) n0 y0 o0 C ] ++ (wReader aU C us ua ++ (wRail aR C rs ra ++ (wRail aR2 C rs2 ra2 ++ (wSlots aS C sa sl ++ (wNight n0 u.1 C u.2.1 u.2.2.1 u.2.2.2 ++ ([cYear y0 y1 y2 C y_isThere y_taken y_took] ++ ([cOb o0 C o_of])))))))) (va_A (List.flatten ([cLockRail L0 (aU 0) (aR 0) (aR2 0) h_images (aS 0) n0 y0 o0 C ] ++ (wReader aU C us ua ++ (wRail aR C rs ra ++ (wRail aR2 C rs2 ra2 ++ (wSlots aS C sa sl ++ (wNight n0 aN C ns na nl ++ ([cYear y0 y1 y2 C y_isThere y_taken y_took] ++ ([cOb o0 C o_of]))))))))) sz)) 0 0 (va_A (List.flatten ([cLockRail L0 (aU 0) (aR 0) (aR2 0) h_images (aS 0) n0 y0 o0 C ] ++ (wReader aU C us ua ++ (wRail aR C rs ra ++ (wRail aR2 C rs2 ra2 ++ (wSlots aS C sa sl ++ (wNight n0 aN C ns na nl ++ ([cYear y0 y1 y2 C y_isThere y_taken y_took] ++ ([cOb o0 C o_of]))))))))) sz) := by
  refine cStart (QA := fun A => cQl D (fun (r : Int64) (u : (Nat → Nat) × (Nat → Int32) × (Nat → Nat → Int32) × (Nat → Nat → Int64)) => post r u.2.1 u.2.2.1 u.2.2.2) (fun u => [cLockRail L0 (aU 0) (aR 0) (aR2 0) h_images (aS 0) n0 y0 o0 C ] ++ (wReader aU C us ua ++ (wRail aR C rs ra ++ (wRail aR2 C rs2 ra2 ++ (wSlots aS C sa sl ++ (wNight n0 u.1 C u.2.1 u.2.2.1 u.2.2.2 ++ ([cYear y0 y1 y2 C y_isThere y_taken y_took] ++ ([cOb o0 C o_of])))))))) A) (cc := cX11_caught) (maxL := 6) (ret := (some .long)) (by decide) (Nat.le_of_ble_eq_true rfl) ?_
  intro p e s m args below meth c A ls hx hb hr hml hown hw hlocks hname hK hN hA hP hD hS hl
  generalize hQ : MQ below _ args s 0 0 A = Q
  have hl : lv_has ls 6 [(0, .ref L0), (1, .int p1), (2, .int p2), (3, .int p3), (4, .int p4)] := hl
  obtain ⟨H, hH⟩ : ∃ H, H = s.heap := ⟨_, rfl⟩
  obtain ⟨locs, hlo⟩ : ∃ z : List Loc, z = [] := ⟨_, rfl⟩
  have hP : va_P D vwCl (List.flatten ([cLockRail L0 (aU 0) (aR 0) (aR2 0) h_images (aS 0) n0 y0 o0 C ] ++ (wReader aU C us ua ++ (wRail aR C rs ra ++ (wRail aR2 C rs2 ra2 ++ (wSlots aS C sa sl ++ (wNight n0 aN C ns na nl ++ ([cYear y0 y1 y2 C y_isThere y_taken y_took] ++ ([cOb o0 C o_of]))))))))) H := by rw [hH]; exact hP
  have hS : va_S A s.heap H locs := by rw [hH, hlo]; exact hS
  rw [show W p l e rmX11_caught s m args below meth c s.heap [] 0 0 Q (F0 m 0 ls []) = W p l e rmX11_caught s m args below meth c H locs 0 0 Q (F0 m 0 ls []) from by rw [hH, hlo]]
  have N24 : ∀ (k0_ : Int32) (ns : Nat → Int32) (na : Nat → Nat → Int32) (nl : Nat → Nat → Int64) (aN : Nat → Nat) (H : Heap) (locs : List Loc) (ls : Array Slot), P_X11_caught_24 rs ra p1 p2 p3 p4 post  k0_ ns na nl → va_P D vwCl (List.flatten ([cLockRail L0 (aU 0) (aR 0) (aR2 0) h_images (aS 0) n0 y0 o0 C ] ++ (wReader aU C us ua ++ (wRail aR C rs ra ++ (wRail aR2 C rs2 ra2 ++ (wSlots aS C sa sl ++ (wNight n0 aN C ns na nl ++ ([cYear y0 y1 y2 C y_isThere y_taken y_took] ++ ([cOb o0 C o_of]))))))))) H → va_D A (List.flatten ([cLockRail L0 (aU 0) (aR 0) (aR2 0) h_images (aS 0) n0 y0 o0 C ] ++ (wReader aU C us ua ++ (wRail aR C rs ra ++ (wRail aR2 C rs2 ra2 ++ (wSlots aS C sa sl ++ (wNight n0 aN C ns na nl ++ ([cYear y0 y1 y2 C y_isThere y_taken y_took] ++ ([cOb o0 C o_of]))))))))) → va_S A s.heap H locs → lv_has ls 6 [(0, .ref L0), (1, .int p1), (3, .int p3), (4, .int p4)] → W p l e rmX11_caught s m args below meth c H locs 0 0 Q (F0 m 24 ls [.int k0_]) := by
    intro k0_ ns na nl aN H locs ls h hP hD hS hl
    refine lv_istore (lv' := [(5, .int k0_), (0, .ref L0), (1, .int p1), (3, .int p3), (4, .int p4)]) hx hb dX11_caught_24 hl (by decide) rfl (fun ls hl => ?_)
    refine lv_iload hx hb dX11_caught_26 (lv_at hl 0 rfl) ?_
    refine lv_if_eq (tgt := 35) hx hb dX11_caught_28 (by decide) (fun c1 => ?_) (fun c1 => ?_)
    · have h := h.1 c1
      refine lv_aload_n hx hb dX11_caught_35 rfl (lv_at hl 1 rfl) ?_
      refine va_get (D := D) (ci := 11) (v := .ref n0) (C := RX11) (T := TX11) (N := 8) hx hb hw inW_X11 hown hK hP 0 rfl rfl 5 (by decide) (hw _ mw_2_148) (fun _ h9 => h9) rfl dX11_caught_36 ?_
      refine lv_aload_n hx hb dX11_caught_39 rfl (lv_at hl 1 rfl) ?_
      refine va_get (D := D) (ci := 11) (v := .ref (aR 0)) (C := RX11) (T := TX11) (N := 8) hx hb hw inW_X11 hown hK hP 0 rfl rfl 1 (by decide) (hw _ mw_2_144) (fun _ h9 => h9) rfl dX11_caught_40 ?_
      refine lv_iload_n hx hb dX11_caught_43 rfl (lv_at hl 3 rfl) ?_
      refine lv_iload hx hb dX11_caught_44 (lv_at hl 4 rfl) ?_
      refine gs_V21_43 (rs_VN21_36 (As := [.ref (aR 0), .int p3, .int p4]) (rest := []) ⟨hx, hb, hml, hown, hw⟩ hK hN hP hD (k_X3_playBaited l D C _ n0 aN aR  ns na nl rs ra p3 p4 h) ⟨va_cnB 3 hw (goodN mw_5_76) rfl rfl rfl (hN.m 64 rfl) (hw _ mw_1_11) (by decide +kernel) ⟨Nat.le_of_ble_eq_true rfl, Nat.le_of_ble_eq_true rfl⟩, hw _ mw_5_75, hw _ mw_s82⟩ rfl rfl rfl hl.1 rfl (Nat.le_of_ble_eq_true rfl) dX11_caught_46 ⟨Nat.zero_le _, Nat.zero_le _⟩) hP hD hS hA (fun u H locs h hP hD hS => ?_)
      obtain ⟨aN2, ns_3, na_4, nl_5⟩ := u
      have hP : va_P D vwCl (List.flatten ([cLockRail L0 (aU 0) (aR 0) (aR2 0) h_images (aS 0) n0 y0 o0 C ] ++ (wReader aU C us ua ++ (wRail aR C rs ra ++ (wRail aR2 C rs2 ra2 ++ (wSlots aS C sa sl ++ (wNight n0 aN2 C ns_3 na_4 nl_5 ++ ([cYear y0 y1 y2 C y_isThere y_taken y_took] ++ ([cOb o0 C o_of]))))))))) H := hP
      have hD : va_D A (List.flatten ([cLockRail L0 (aU 0) (aR 0) (aR2 0) h_images (aS 0) n0 y0 o0 C ] ++ (wReader aU C us ua ++ (wRail aR C rs ra ++ (wRail aR2 C rs2 ra2 ++ (wSlots aS C sa sl ++ (wNight n0 aN2 C ns_3 na_4 nl_5 ++ ([cYear y0 y1 y2 C y_isThere y_taken y_took] ++ ([cOb o0 C o_of]))))))))) := hD
      refine lv_aload_n hx hb dX11_caught_49 rfl (lv_at hl 1 rfl) ?_
      refine va_get (D := D) (ci := 11) (v := .ref n0) (C := RX11) (T := TX11) (N := 8) hx hb hw inW_X11 hown hK hP 0 rfl rfl 5 (by decide) (hw _ mw_2_148) (fun _ h9 => h9) rfl dX11_caught_50 ?_
      refine lv_iload_n hx hb dX11_caught_53 rfl (lv_at hl 2 rfl) ?_
      refine gs_L21_46 (rs_VN21_37 (As := [.int p1]) (rest := []) ⟨hx, hb, hml, hown, hw⟩ hK hN hP hD (k_X3_partsCaught l D C _ n0 aN2  ns_3 na_4 nl_5 p1 h) ⟨va_cnB 1 hw (goodN mw_5_92) rfl rfl rfl (hN.m 66 rfl) (hw _ mw_1_11) (by decide +kernel) ⟨Nat.le_of_ble_eq_true rfl, Nat.le_of_ble_eq_true rfl⟩, hw _ mw_5_91, hw _ mw_s85⟩ rfl rfl rfl hl.1 rfl (Nat.le_of_ble_eq_true rfl) dX11_caught_54 ⟨Nat.zero_le _, Nat.zero_le _⟩) hP hD hS hA (fun r6 u H locs h hP hD hS => ?_)
      have hP : va_P D vwCl (List.flatten ([cLockRail L0 (aU 0) (aR 0) (aR2 0) h_images (aS 0) n0 y0 o0 C ] ++ (wReader aU C us ua ++ (wRail aR C rs ra ++ (wRail aR2 C rs2 ra2 ++ (wSlots aS C sa sl ++ (wNight n0 aN2 C ns_3 na_4 nl_5 ++ ([cYear y0 y1 y2 C y_isThere y_taken y_took] ++ ([cOb o0 C o_of]))))))))) H := hP
      have hD : va_D A (List.flatten ([cLockRail L0 (aU 0) (aR 0) (aR2 0) h_images (aS 0) n0 y0 o0 C ] ++ (wReader aU C us ua ++ (wRail aR C rs ra ++ (wRail aR2 C rs2 ra2 ++ (wSlots aS C sa sl ++ (wNight n0 aN2 C ns_3 na_4 nl_5 ++ ([cYear y0 y1 y2 C y_isThere y_taken y_took] ++ ([cOb o0 C o_of]))))))))) := hD
      rw [← hQ]
      exact cRetL (v := r6) (aN2, ns_3, na_4, nl_5) hx hb hr hlocks hS hP hD h dX11_caught_57
    · have h := h.2 c1
      refine lv_iload hx hb dX11_caught_31 (lv_at hl 0 rfl) ?_
      refine lv_i2l hx hb dX11_caught_33 rfl ?_
      rw [← hQ]
      exact cRetL (v := k0_.toInt64) (aN, ns, na, nl) hx hb hr hlocks hS hP hD h dX11_caught_34
  refine lv_aload_n hx hb dX11_caught_0 rfl (lv_at hl 0 rfl) ?_
  refine va_get (D := D) (ci := 11) (v := .ref (aR 0)) (C := RX11) (T := TX11) (N := 8) hx hb hw inW_X11 hown hK hP 0 rfl rfl 1 (by decide) (hw _ mw_2_144) (fun _ h9 => h9) rfl dX11_caught_1 ?_
  refine lv_iload_n hx hb dX11_caught_4 rfl (lv_at hl 1 rfl) ?_
  refine gs_I21_41 (rs_VN21_34 (As := [.int p1]) (rest := []) ⟨hx, hb, hml, hown, hw⟩ hK hN hP hD (k_X4_hasThief l D C _ aR  rs ra p1 h) ⟨va_cnB 1 hw (goodN mw_3_191) rfl rfl rfl (hN.m 32 rfl) (hw _ mw_1_4) (by decide +kernel) ⟨Nat.le_of_ble_eq_true rfl, Nat.le_of_ble_eq_true rfl⟩, hw _ mw_3_190, hw _ mw_s35⟩ rfl rfl rfl hl.1 rfl (Nat.le_of_ble_eq_true rfl) dX11_caught_5 ⟨Nat.zero_le _, Nat.zero_le _⟩) hP hD hS hA (fun r7 u H locs h hP hD hS => ?_)
  have hP : va_P D vwCl (List.flatten ([cLockRail L0 (aU 0) (aR 0) (aR2 0) h_images (aS 0) n0 y0 o0 C ] ++ (wReader aU C us ua ++ (wRail aR C rs ra ++ (wRail aR2 C rs2 ra2 ++ (wSlots aS C sa sl ++ (wNight n0 aN C ns na nl ++ ([cYear y0 y1 y2 C y_isThere y_taken y_took] ++ ([cOb o0 C o_of]))))))))) H := hP
  have hD : va_D A (List.flatten ([cLockRail L0 (aU 0) (aR 0) (aR2 0) h_images (aS 0) n0 y0 o0 C ] ++ (wReader aU C us ua ++ (wRail aR C rs ra ++ (wRail aR2 C rs2 ra2 ++ (wSlots aS C sa sl ++ (wNight n0 aN C ns na nl ++ ([cYear y0 y1 y2 C y_isThere y_taken y_took] ++ ([cOb o0 C o_of]))))))))) := hD
  refine lv_if_eq (tgt := 22) hx hb dX11_caught_8 (by decide) (fun c8 => ?_) (fun c8 => ?_)
  · have h := h.1 c8
    refine lv_bipush (v := (-2)) hx hb dX11_caught_22 (by decide) ?_
    exact N24 (-2) ns na nl aN _ _ _ h hP hD hS (lv_sub hl [0, 1, 3, 4] rfl)
  · have h := h.2 c8
    refine lv_aload_n hx hb dX11_caught_11 rfl (lv_at hl 0 rfl) ?_
    refine lv_iload_n hx hb dX11_caught_12 rfl (lv_at hl 2 rfl) ?_
    refine lv_iload_n hx hb dX11_caught_13 rfl (lv_at hl 3 rfl) ?_
    refine lv_iload hx hb dX11_caught_14 (lv_at hl 4 rfl) ?_
    refine gs_I21_64 (rs_V21_47 (As := [.int p2, .int p3, .int p4]) (rest := []) ⟨hx, hb, hml, hown, hw⟩ hK hN hP hD (k_X11_refusedBait l D C _ L0 aR (aU 0) (aR2 0) h_images (aS 0) n0 y0 o0  rs ra p2 p3 p4 h) (cwV 3 hw (goodV mw_5_69 mw_5_71 mw_s81 mw_1_1 mw_5_72) rfl rfl rfl (by decide +kernel) ⟨Nat.le_of_ble_eq_true rfl, Nat.le_of_ble_eq_true rfl⟩) rfl rfl rfl hl.1 rfl (Nat.le_of_ble_eq_true rfl) dX11_caught_16 ⟨Nat.zero_le _, Nat.zero_le _⟩) hP hD hS hA (fun r9 u H locs h hP hD hS => ?_)
    have hP : va_P D vwCl (List.flatten ([cLockRail L0 (aU 0) (aR 0) (aR2 0) h_images (aS 0) n0 y0 o0 C ] ++ (wReader aU C us ua ++ (wRail aR C rs ra ++ (wRail aR2 C rs2 ra2 ++ (wSlots aS C sa sl ++ (wNight n0 aN C ns na nl ++ ([cYear y0 y1 y2 C y_isThere y_taken y_took] ++ ([cOb o0 C o_of]))))))))) H := hP
    have hD : va_D A (List.flatten ([cLockRail L0 (aU 0) (aR 0) (aR2 0) h_images (aS 0) n0 y0 o0 C ] ++ (wReader aU C us ua ++ (wRail aR C rs ra ++ (wRail aR2 C rs2 ra2 ++ (wSlots aS C sa sl ++ (wNight n0 aN C ns na nl ++ ([cYear y0 y1 y2 C y_isThere y_taken y_took] ++ ([cOb o0 C o_of]))))))))) := hD
    refine lv_goto (tgt := 24) hx hb dX11_caught_19 (by decide) ?_
    exact N24 r9 ns na nl aN _ _ _ h hP hD hS (lv_sub hl [0, 1, 3, 4] rfl)
abbrev vsX11_lures : List Cond := Cond.code yX11_lures cX11_lures 5 (some .int) :: WS
abbrev rmX11_lures : Room := { frames := 4, cells := 0, slots := 0, locals := 98 }
set_option maxHeartbeats 4000000 in
set_option maxRecDepth 100000 in
theorem k_X11_lures (l : Launch) (D : va_G) (C : Nat → ClassId) (sz : Nat) (L0 : Nat) (aU : Nat → Nat) (aR : Nat → Nat) (aR2 : Nat → Nat) (aS : Nat → Nat) (n0 : Nat) (aN : Nat → Nat) (y0 : Nat) (y1 : Nat) (y2 : Nat) (o0 : Nat) (h_images : Nat) (us : Nat → Int32) (ua : Nat → Nat → Int32) (rs : Nat → Int32) (ra : Nat → Nat → Int32) (rs2 : Nat → Int32) (ra2 : Nat → Nat → Int32) (sa : Nat → Nat → Int32) (sl : Nat → Nat → Int64) (ns : Nat → Int32) (na : Nat → Nat → Int32) (nl : Nat → Nat → Int64) (y_isThere : Int32) (y_taken : Nat → Int32) (y_took : Nat → Int32) (o_of : Nat → Int64) (p1 : Int32) {post : Int32 → (Nat → Int32) → (Nat → Nat → Int32) → Prop} (h : P_X11_lures rs ra ns na p1 post) : Met l yX11_lures vsX11_lures rmX11_lures (cPre D C [.ref L0, .int p1] sz ([cLockRail L0 (aU 0) (aR 0) (aR2 0) h_images (aS 0) n0 y0 o0 C ] ++ (wReader aU C us ua ++ (wRail aR C rs ra ++ (wRail aR2 C rs2 ra2 ++ (wSlots aS C sa sl ++ (wNight n0 aN C ns na nl ++ ([cYear y0 y1 y2 C y_isThere y_taken y_took] ++ ([cOb o0 C o_of]))))))))) (cQi D (fun (r : Int32) (u : (Nat → Int32) × (Nat → Nat → Int32)) => post r u.1 u.2) (fun u => [cLockRail L0 (aU 0) (aR 0) (aR2 0) h_images (aS 0) n0 y0 o0 C ] ++ (wReader aU C us ua ++ (wRail aR C rs ra ++ (wRail aR2 C rs2 ra2 ++ (wSlots aS C sa sl ++ (wNight n0 aN C u.1 u.2 nl ++ ([cYear y0 y1 y2 C y_isThere y_taken y_took] ++ ([cOb o0 C o_of])))))))) (va_A (List.flatten ([cLockRail L0 (aU 0) (aR 0) (aR2 0) h_images (aS 0) n0 y0 o0 C ] ++ (wReader aU C us ua ++ (wRail aR C rs ra ++ (wRail aR2 C rs2 ra2 ++ (wSlots aS C sa sl ++ (wNight n0 aN C ns na nl ++ ([cYear y0 y1 y2 C y_isThere y_taken y_took] ++ ([cOb o0 C o_of]))))))))) sz)) 0 0 (va_A (List.flatten ([cLockRail L0 (aU 0) (aR 0) (aR2 0) h_images (aS 0) n0 y0 o0 C ] ++ (wReader aU C us ua ++ (wRail aR C rs ra ++ (wRail aR2 C rs2 ra2 ++ (wSlots aS C sa sl ++ (wNight n0 aN C ns na nl ++ ([cYear y0 y1 y2 C y_isThere y_taken y_took] ++ ([cOb o0 C o_of]))))))))) sz) := by
  refine cStart (QA := fun A => cQi D (fun (r : Int32) (u : (Nat → Int32) × (Nat → Nat → Int32)) => post r u.1 u.2) (fun u => [cLockRail L0 (aU 0) (aR 0) (aR2 0) h_images (aS 0) n0 y0 o0 C ] ++ (wReader aU C us ua ++ (wRail aR C rs ra ++ (wRail aR2 C rs2 ra2 ++ (wSlots aS C sa sl ++ (wNight n0 aN C u.1 u.2 nl ++ ([cYear y0 y1 y2 C y_isThere y_taken y_took] ++ ([cOb o0 C o_of])))))))) A) (cc := cX11_lures) (maxL := 5) (ret := (some .int)) (by decide) (Nat.le_of_ble_eq_true rfl) ?_
  intro p e s m args below meth c A ls hx hb hr hml hown hw hlocks hname hK hN hA hP hD hS hl
  generalize hQ : MQ below _ args s 0 0 A = Q
  have hl : lv_has ls 5 [(0, .ref L0), (1, .int p1)] := hl
  have hn279 : (Cond.fieldLinkNest "LockRail" 279 "LockRail$Rail" "thieves" "LLockRail$Thieves;" "LockRail").before args s = true := hN.f 64 rfl
  have hn283 : (Cond.fieldLinkNest "LockRail" 283 "LockRail$Thieves" "count" "I" "LockRail").before args s = true := hN.f 35 rfl
  obtain ⟨H, hH⟩ : ∃ H, H = s.heap := ⟨_, rfl⟩
  obtain ⟨locs, hlo⟩ : ∃ z : List Loc, z = [] := ⟨_, rfl⟩
  have hP : va_P D vwCl (List.flatten ([cLockRail L0 (aU 0) (aR 0) (aR2 0) h_images (aS 0) n0 y0 o0 C ] ++ (wReader aU C us ua ++ (wRail aR C rs ra ++ (wRail aR2 C rs2 ra2 ++ (wSlots aS C sa sl ++ (wNight n0 aN C ns na nl ++ ([cYear y0 y1 y2 C y_isThere y_taken y_took] ++ ([cOb o0 C o_of]))))))))) H := by rw [hH]; exact hP
  have hS : va_S A s.heap H locs := by rw [hH, hlo]; exact hS
  rw [show W p l e rmX11_lures s m args below meth c s.heap [] 0 0 Q (F0 m 0 ls []) = W p l e rmX11_lures s m args below meth c H locs 0 0 Q (F0 m 0 ls []) from by rw [hH, hlo]]
  have N71 : ∀ (x3_ : Int32) (ns : Nat → Int32) (na : Nat → Nat → Int32) (H : Heap) (locs : List Loc) (ls : Array Slot), P_X11_lures_71 rs ra p1 post  x3_ ns na → va_P D vwCl (List.flatten ([cLockRail L0 (aU 0) (aR 0) (aR2 0) h_images (aS 0) n0 y0 o0 C ] ++ (wReader aU C us ua ++ (wRail aR C rs ra ++ (wRail aR2 C rs2 ra2 ++ (wSlots aS C sa sl ++ (wNight n0 aN C ns na nl ++ ([cYear y0 y1 y2 C y_isThere y_taken y_took] ++ ([cOb o0 C o_of]))))))))) H → va_D A (List.flatten ([cLockRail L0 (aU 0) (aR 0) (aR2 0) h_images (aS 0) n0 y0 o0 C ] ++ (wReader aU C us ua ++ (wRail aR C rs ra ++ (wRail aR2 C rs2 ra2 ++ (wSlots aS C sa sl ++ (wNight n0 aN C ns na nl ++ ([cYear y0 y1 y2 C y_isThere y_taken y_took] ++ ([cOb o0 C o_of]))))))))) → va_S A s.heap H locs → lv_has ls 5 [(3, .int x3_)] → W p l e rmX11_lures s m args below meth c H locs 0 0 Q (F0 m 71 ls []) := by
    intro x3_ ns na H locs ls h hP hD hS hl
    refine lv_iload_n hx hb dX11_lures_71 rfl (lv_at hl 0 rfl) ?_
    refine lv_sipush (v := 9999) hx hb dX11_lures_72 (by decide) ?_
    refine lv_icmp_le (tgt := 82) hx hb dX11_lures_75 (by decide) (fun c1 => ?_) (fun c1 => ?_)
    · have h := h.1 c1
      refine lv_iload_n hx hb dX11_lures_82 rfl (lv_at hl 0 rfl) ?_
      rw [← hQ]
      exact cRetI (v := x3_) (ns, na) hx hb hr hlocks hS hP hD h dX11_lures_83
    · have h := h.2 c1
      refine lv_iconst (v := (-1)) hx hb dX11_lures_78 (by decide) ?_
      refine lv_goto (tgt := 83) hx hb dX11_lures_79 (by decide) ?_
      rw [← hQ]
      exact cRetI (v := (-1)) (ns, na) hx hb hr hlocks hS hP hD h dX11_lures_83
  have N32 : ∀ (ns : Nat → Int32) (na : Nat → Nat → Int32) (n32 : Nat) (x3_ : Int32) (x4_ : Int32) (H : Heap) (locs : List Loc) (ls : Array Slot), P_X11_lures_32 rs ra p1 post (fun (x3_ : Int32) (ns : Nat → Int32) (na : Nat → Nat → Int32) => P_X11_lures_71 rs ra p1 post  x3_ ns na) ns na n32 x3_ x4_ → va_P D vwCl (List.flatten ([cLockRail L0 (aU 0) (aR 0) (aR2 0) h_images (aS 0) n0 y0 o0 C ] ++ (wReader aU C us ua ++ (wRail aR C rs ra ++ (wRail aR2 C rs2 ra2 ++ (wSlots aS C sa sl ++ (wNight n0 aN C ns na nl ++ ([cYear y0 y1 y2 C y_isThere y_taken y_took] ++ ([cOb o0 C o_of]))))))))) H → va_D A (List.flatten ([cLockRail L0 (aU 0) (aR 0) (aR2 0) h_images (aS 0) n0 y0 o0 C ] ++ (wReader aU C us ua ++ (wRail aR C rs ra ++ (wRail aR2 C rs2 ra2 ++ (wSlots aS C sa sl ++ (wNight n0 aN C ns na nl ++ ([cYear y0 y1 y2 C y_isThere y_taken y_took] ++ ([cOb o0 C o_of]))))))))) → va_S A s.heap H locs → lv_has ls 5 [(0, .ref L0), (3, .int x3_), (4, .int x4_)] → W p l e rmX11_lures s m args below meth c H locs 0 0 Q (F0 m 32 ls []) := by
    intro ns na
    intro n32
    induction n32 with
    | zero => intro x3_ x4_ H locs ls h hP hD hS hl; exact False.elim h
    | succ n32 ih32 =>
      intro x3_ x4_ H locs ls h hP hD hS hl
      refine lv_iload hx hb dX11_lures_32 (lv_at hl 2 rfl) ?_
      refine lv_aload_n hx hb dX11_lures_34 rfl (lv_at hl 0 rfl) ?_
      refine va_get (D := D) (ci := 11) (v := .ref (aR 0)) (C := RX11) (T := TX11) (N := 8) hx hb hw inW_X11 hown hK hP 0 rfl rfl 1 (by decide) (hw _ mw_2_144) (fun _ h9 => h9) rfl dX11_lures_35 ?_
      refine va_getN (D := D) (ci := 4) (v := .ref (aR 13)) (C := RX4) (T := TX4) (N := 16) hx hb hw inW_X4 hown hK hP 4 rfl rfl 6 (by decide) hn279 (fun _ h9 => h9) rfl dX11_lures_38 ?_
      refine va_getN (D := D) (ci := 9) (v := .int (rs 14)) (C := RX9) (T := TX9) (N := 6) hx hb hw inW_X9 hown hK hP 17 rfl rfl 0 (by decide) hn283 (fun _ h9 => h9) rfl dX11_lures_41 ?_
      refine lv_icmp_ge (tgt := 71) hx hb dX11_lures_44 (by decide) (fun c2 => ?_) (fun c2 => ?_)
      · have h := h.1 c2
        exact N71 x3_ ns na _ _ _ h hP hD hS (lv_sub hl [1] rfl)
      · have h := h.2 c2
        refine lv_iload_n hx hb dX11_lures_47 rfl (lv_at hl 1 rfl) ?_
        refine lv_aload_n hx hb dX11_lures_48 rfl (lv_at hl 0 rfl) ?_
        refine va_get (D := D) (ci := 11) (v := .ref n0) (C := RX11) (T := TX11) (N := 8) hx hb hw inW_X11 hown hK hP 0 rfl rfl 5 (by decide) (hw _ mw_2_148) (fun _ h9 => h9) rfl dX11_lures_49 ?_
        refine lv_aload_n hx hb dX11_lures_52 rfl (lv_at hl 0 rfl) ?_
        refine va_get (D := D) (ci := 11) (v := .ref (aR 0)) (C := RX11) (T := TX11) (N := 8) hx hb hw inW_X11 hown hK hP 0 rfl rfl 1 (by decide) (hw _ mw_2_144) (fun _ h9 => h9) rfl dX11_lures_53 ?_
        refine lv_iload hx hb dX11_lures_56 (lv_at hl 2 rfl) ?_
        refine gs_I21_45 (rs_VN21_36 (As := [.ref (aR 0), .int x4_]) (rest := [.int x3_]) ⟨hx, hb, hml, hown, hw⟩ hK hN hP hD (k_X3_leastLure l D C _ n0 aN aR  ns na nl rs ra x4_ h) ⟨va_cnB 2 hw (goodN mw_5_100) rfl rfl rfl (hN.m 67 rfl) (hw _ mw_1_11) (by decide +kernel) ⟨Nat.le_of_ble_eq_true rfl, Nat.le_of_ble_eq_true rfl⟩, hw _ mw_5_99, hw _ mw_s86⟩ rfl rfl rfl hl.1 rfl (Nat.le_of_ble_eq_true rfl) dX11_lures_58 ⟨Nat.zero_le _, Nat.zero_le _⟩) hP hD hS hA (fun r3 u H locs h hP hD hS => ?_)
        have hP : va_P D vwCl (List.flatten ([cLockRail L0 (aU 0) (aR 0) (aR2 0) h_images (aS 0) n0 y0 o0 C ] ++ (wReader aU C us ua ++ (wRail aR C rs ra ++ (wRail aR2 C rs2 ra2 ++ (wSlots aS C sa sl ++ (wNight n0 aN C ns na nl ++ ([cYear y0 y1 y2 C y_isThere y_taken y_took] ++ ([cOb o0 C o_of]))))))))) H := hP
        have hD : va_D A (List.flatten ([cLockRail L0 (aU 0) (aR 0) (aR2 0) h_images (aS 0) n0 y0 o0 C ] ++ (wReader aU C us ua ++ (wRail aR C rs ra ++ (wRail aR2 C rs2 ra2 ++ (wSlots aS C sa sl ++ (wNight n0 aN C ns na nl ++ ([cYear y0 y1 y2 C y_isThere y_taken y_took] ++ ([cOb o0 C o_of]))))))))) := hD
        refine va_mmin hx hb (hml.trans hl.1.symm) hown (hw _ mw_4_184) (hw _ mw_2_206) (hw _ mw_1_14) (hw _ mw_2_207) (Nat.le_of_ble_eq_true rfl) (Nat.le_of_ble_eq_true rfl) (Nat.zero_le _) (Nat.zero_le _) dX11_lures_61 ?_
        refine lv_topi (fun x4 ex4 => ?_)
        have h := h x4 ex4
        refine lv_istore_n (lv' := [(3, .int x4), (0, .ref L0), (4, .int x4_)]) hx hb dX11_lures_64 rfl hl (by decide) rfl (fun ls hl => ?_)
        refine lv_iinc (v := (x4_ + 1)) (lv' := [(4, .int (x4_ + 1)), (3, .int x4), (0, .ref L0)]) hx hb dX11_lures_65 hl (k := 2) rfl rfl (by decide) rfl (fun ls hl => ?_)
        refine lv_goto (tgt := 32) hx hb dX11_lures_68 (by decide) ?_
        exact ih32 x4 (x4_ + 1) _ _ _ h hP hD hS (lv_sub hl [2, 1, 0] rfl)
  refine lv_aload_n hx hb dX11_lures_0 rfl (lv_at hl 0 rfl) ?_
  refine lv_iload_n hx hb dX11_lures_1 rfl (lv_at hl 1 rfl) ?_
  refine lv_iconst (v := 0) hx hb dX11_lures_2 (by decide) ?_
  refine lv_iconst (v := 0) hx hb dX11_lures_3 (by decide) ?_
  refine gs_I21_64 (rs_V21_47 (As := [.int p1, .int 0, .int 0]) (rest := []) ⟨hx, hb, hml, hown, hw⟩ hK hN hP hD (k_X11_refusedBait l D C _ L0 aR (aU 0) (aR2 0) h_images (aS 0) n0 y0 o0  rs ra p1 0 0 h) (cwV 3 hw (goodV mw_5_69 mw_5_71 mw_s81 mw_1_1 mw_5_72) rfl rfl rfl (by decide +kernel) ⟨Nat.le_of_ble_eq_true rfl, Nat.le_of_ble_eq_true rfl⟩) rfl rfl rfl hl.1 rfl (Nat.le_of_ble_eq_true rfl) dX11_lures_4 ⟨Nat.zero_le _, Nat.zero_le _⟩) hP hD hS hA (fun r5 u H locs h hP hD hS => ?_)
  have hP : va_P D vwCl (List.flatten ([cLockRail L0 (aU 0) (aR 0) (aR2 0) h_images (aS 0) n0 y0 o0 C ] ++ (wReader aU C us ua ++ (wRail aR C rs ra ++ (wRail aR2 C rs2 ra2 ++ (wSlots aS C sa sl ++ (wNight n0 aN C ns na nl ++ ([cYear y0 y1 y2 C y_isThere y_taken y_took] ++ ([cOb o0 C o_of]))))))))) H := hP
  have hD : va_D A (List.flatten ([cLockRail L0 (aU 0) (aR 0) (aR2 0) h_images (aS 0) n0 y0 o0 C ] ++ (wReader aU C us ua ++ (wRail aR C rs ra ++ (wRail aR2 C rs2 ra2 ++ (wSlots aS C sa sl ++ (wNight n0 aN C ns na nl ++ ([cYear y0 y1 y2 C y_isThere y_taken y_took] ++ ([cOb o0 C o_of]))))))))) := hD
  refine lv_istore_n (lv' := [(2, .int r5), (0, .ref L0), (1, .int p1)]) hx hb dX11_lures_7 rfl hl (by decide) rfl (fun ls hl => ?_)
  refine lv_iload_n hx hb dX11_lures_8 rfl (lv_at hl 0 rfl) ?_
  refine lv_if_eq (tgt := 14) hx hb dX11_lures_9 (by decide) (fun c6 => ?_) (fun c6 => ?_)
  · have h := h.1 c6
    refine lv_aload_n hx hb dX11_lures_14 rfl (lv_at hl 1 rfl) ?_
    refine va_get (D := D) (ci := 11) (v := .ref n0) (C := RX11) (T := TX11) (N := 8) hx hb hw inW_X11 hown hK hP 0 rfl rfl 5 (by decide) (hw _ mw_2_148) (fun _ h9 => h9) rfl dX11_lures_15 ?_
    refine lv_aload_n hx hb dX11_lures_18 rfl (lv_at hl 1 rfl) ?_
    refine va_get (D := D) (ci := 11) (v := .ref (aR 0)) (C := RX11) (T := TX11) (N := 8) hx hb hw inW_X11 hown hK hP 0 rfl rfl 1 (by decide) (hw _ mw_2_144) (fun _ h9 => h9) rfl dX11_lures_19 ?_
    refine gs_V21_43 (rs_VN21_36 (As := [.ref (aR 0)]) (rest := []) ⟨hx, hb, hml, hown, hw⟩ hK hN hP hD (k_X3_lookAt l D C _ n0 aN aR  ns na nl rs ra  h) ⟨va_cnB 1 hw (goodN mw_3_219) rfl rfl rfl (hN.m 37 rfl) (hw _ mw_1_11) (by decide +kernel) ⟨Nat.le_of_ble_eq_true rfl, Nat.le_of_ble_eq_true rfl⟩, hw _ mw_3_218, hw _ mw_s40⟩ rfl rfl rfl hl.1 rfl (Nat.le_of_ble_eq_true rfl) dX11_lures_22 ⟨Nat.zero_le _, Nat.zero_le _⟩) hP hD hS hA (fun u H locs h hP hD hS => ?_)
    obtain ⟨ns_7, na_8⟩ := u
    have hP : va_P D vwCl (List.flatten ([cLockRail L0 (aU 0) (aR 0) (aR2 0) h_images (aS 0) n0 y0 o0 C ] ++ (wReader aU C us ua ++ (wRail aR C rs ra ++ (wRail aR2 C rs2 ra2 ++ (wSlots aS C sa sl ++ (wNight n0 aN C ns_7 na_8 nl ++ ([cYear y0 y1 y2 C y_isThere y_taken y_took] ++ ([cOb o0 C o_of]))))))))) H := hP
    have hD : va_D A (List.flatten ([cLockRail L0 (aU 0) (aR 0) (aR2 0) h_images (aS 0) n0 y0 o0 C ] ++ (wReader aU C us ua ++ (wRail aR C rs ra ++ (wRail aR2 C rs2 ra2 ++ (wSlots aS C sa sl ++ (wNight n0 aN C ns_7 na_8 nl ++ ([cYear y0 y1 y2 C y_isThere y_taken y_took] ++ ([cOb o0 C o_of]))))))))) := hD
    refine lv_sipush (v := 10000) hx hb dX11_lures_25 (by decide) ?_
    refine lv_istore_n (lv' := [(3, .int 10000), (2, .int r5), (0, .ref L0), (1, .int p1)]) hx hb dX11_lures_28 rfl hl (by decide) rfl (fun ls hl => ?_)
    refine lv_iconst (v := 0) hx hb dX11_lures_29 (by decide) ?_
    refine lv_istore (lv' := [(4, .int 0), (3, .int 10000), (2, .int r5), (0, .ref L0), (1, .int p1)]) hx hb dX11_lures_30 hl (by decide) rfl (fun ls hl => ?_)
    obtain ⟨n, h⟩ := h
    exact N32 ns_7 na_8 n 10000 0 _ _ _ h hP hD hS (lv_sub hl [3, 1, 0] rfl)
  · have h := h.2 c6
    refine lv_iload_n hx hb dX11_lures_12 rfl (lv_at hl 0 rfl) ?_
    rw [← hQ]
    exact cRetI (v := r5) (ns, na) hx hb hr hlocks hS hP hD h dX11_lures_13
abbrev vsX11_isCover : List Cond := Cond.code yX11_isCover cX11_isCover 4 (some .boolean) :: WS
abbrev rmX11_isCover : Room := { frames := 1, cells := 0, slots := 0, locals := 21 }
set_option maxHeartbeats 4000000 in
set_option maxRecDepth 100000 in
theorem k_X11_isCover (l : Launch) (D : va_G) (C : Nat → ClassId) (sz : Nat) (L0 : Nat) (aR : Nat → Nat) (h_reader : Nat) (h_trial : Nat) (h_images : Nat) (h_slots : Nat) (h_night : Nat) (h_triedYear : Nat) (h_ofBikes : Nat) (rs : Nat → Int32) (ra : Nat → Nat → Int32) (p1 : Int32) (p2 : Int32) (p3 : Int32) {post : Int32 → Prop} (h : P_X11_isCover rs p1 p2 p3 post) : Met l yX11_isCover vsX11_isCover rmX11_isCover (cPre D C [.ref L0, .int p1, .int p2, .int p3] sz ([cLockRail L0 h_reader (aR 0) h_trial h_images h_slots h_night h_triedYear h_ofBikes C ] ++ (wRail aR C rs ra))) (cQi D (fun (r : Int32) (u : Unit) => post r ) (fun u => [cLockRail L0 h_reader (aR 0) h_trial h_images h_slots h_night h_triedYear h_ofBikes C ] ++ (wRail aR C rs ra)) (va_A (List.flatten ([cLockRail L0 h_reader (aR 0) h_trial h_images h_slots h_night h_triedYear h_ofBikes C ] ++ (wRail aR C rs ra))) sz)) 0 0 (va_A (List.flatten ([cLockRail L0 h_reader (aR 0) h_trial h_images h_slots h_night h_triedYear h_ofBikes C ] ++ (wRail aR C rs ra))) sz) := by
  refine cStart (QA := fun A => cQi D (fun (r : Int32) (u : Unit) => post r ) (fun u => [cLockRail L0 h_reader (aR 0) h_trial h_images h_slots h_night h_triedYear h_ofBikes C ] ++ (wRail aR C rs ra)) A) (cc := cX11_isCover) (maxL := 4) (ret := (some .boolean)) (by decide) (Nat.le_of_ble_eq_true rfl) ?_
  intro p e s m args below meth c A ls hx hb hr hml hown hw hlocks hname hK hN hA hP hD hS hl
  generalize hQ : MQ below _ args s 0 0 A = Q
  have hl : lv_has ls 4 [(0, .ref L0), (1, .int p1), (2, .int p2), (3, .int p3)] := hl
  obtain ⟨H, hH⟩ : ∃ H, H = s.heap := ⟨_, rfl⟩
  obtain ⟨locs, hlo⟩ : ∃ z : List Loc, z = [] := ⟨_, rfl⟩
  have hP : va_P D vwCl (List.flatten ([cLockRail L0 h_reader (aR 0) h_trial h_images h_slots h_night h_triedYear h_ofBikes C ] ++ (wRail aR C rs ra))) H := by rw [hH]; exact hP
  have hS : va_S A s.heap H locs := by rw [hH, hlo]; exact hS
  rw [show W p l e rmX11_isCover s m args below meth c s.heap [] 0 0 Q (F0 m 0 ls []) = W p l e rmX11_isCover s m args below meth c H locs 0 0 Q (F0 m 0 ls []) from by rw [hH, hlo]]
  refine lv_aload_n hx hb dX11_isCover_0 rfl (lv_at hl 0 rfl) ?_
  refine va_get (D := D) (ci := 11) (v := .ref (aR 0)) (C := RX11) (T := TX11) (N := 8) hx hb hw inW_X11 hown hK hP 0 rfl rfl 1 (by decide) (hw _ mw_2_144) (fun _ h9 => h9) rfl dX11_isCover_1 ?_
  refine lv_iload_n hx hb dX11_isCover_4 rfl (lv_at hl 1 rfl) ?_
  refine gs_I7_61 (rs_VN7_45 (As := [.int p1]) (rest := []) ⟨hx, hb, hml, hown, hw⟩ hK hN hP hD (k_X4_hasBike l D C _ aR  rs ra p1 h) ⟨va_cnB 1 hw (goodN mw_3_183) rfl rfl rfl (hN.m 31 rfl) (hw _ mw_1_4) (by decide +kernel) ⟨Nat.le_of_ble_eq_true rfl, Nat.le_of_ble_eq_true rfl⟩, hw _ mw_3_182, hw _ mw_s34⟩ rfl rfl rfl hl.1 rfl (Nat.le_of_ble_eq_true rfl) dX11_isCover_5 ⟨Nat.zero_le _, Nat.zero_le _⟩) hP hD hS hA (fun r1 u H locs h hP hD hS => ?_)
  have hP : va_P D vwCl (List.flatten ([cLockRail L0 h_reader (aR 0) h_trial h_images h_slots h_night h_triedYear h_ofBikes C ] ++ (wRail aR C rs ra))) H := hP
  have hD : va_D A (List.flatten ([cLockRail L0 h_reader (aR 0) h_trial h_images h_slots h_night h_triedYear h_ofBikes C ] ++ (wRail aR C rs ra))) := hD
  refine lv_if_eq (tgt := 36) hx hb dX11_isCover_8 (by decide) (fun c2 => ?_) (fun c2 => ?_)
  · have h := h.1 c2
    refine lv_iconst (v := 0) hx hb dX11_isCover_36 (by decide) ?_
    rw [← hQ]
    exact cRetZ (v := 0) () hx hb hr hlocks hS hP hD (Or.inl rfl) h dX11_isCover_37
  · have h := h.2 c2
    refine lv_iload_n hx hb dX11_isCover_11 rfl (lv_at hl 2 rfl) ?_
    refine lv_if_lt (tgt := 36) hx hb dX11_isCover_12 (by decide) (fun c3 => ?_) (fun c3 => ?_)
    · have h := h.1 c3
      refine lv_iconst (v := 0) hx hb dX11_isCover_36 (by decide) ?_
      rw [← hQ]
      exact cRetZ (v := 0) () hx hb hr hlocks hS hP hD (Or.inl rfl) h dX11_isCover_37
    · have h := h.2 c3
      refine lv_iload_n hx hb dX11_isCover_15 rfl (lv_at hl 2 rfl) ?_
      refine lv_sipush (v := 9999) hx hb dX11_isCover_16 (by decide) ?_
      refine lv_icmp_gt (tgt := 36) hx hb dX11_isCover_19 (by decide) (fun c4 => ?_) (fun c4 => ?_)
      · have h := h.1 c4
        refine lv_iconst (v := 0) hx hb dX11_isCover_36 (by decide) ?_
        rw [← hQ]
        exact cRetZ (v := 0) () hx hb hr hlocks hS hP hD (Or.inl rfl) h dX11_isCover_37
      · have h := h.2 c4
        refine lv_iload_n hx hb dX11_isCover_22 rfl (lv_at hl 3 rfl) ?_
        refine lv_if_lt (tgt := 36) hx hb dX11_isCover_23 (by decide) (fun c5 => ?_) (fun c5 => ?_)
        · have h := h.1 c5
          refine lv_iconst (v := 0) hx hb dX11_isCover_36 (by decide) ?_
          rw [← hQ]
          exact cRetZ (v := 0) () hx hb hr hlocks hS hP hD (Or.inl rfl) h dX11_isCover_37
        · have h := h.2 c5
          refine lv_iload_n hx hb dX11_isCover_26 rfl (lv_at hl 3 rfl) ?_
          refine lv_bipush (v := 100) hx hb dX11_isCover_27 (by decide) ?_
          refine lv_icmp_gt (tgt := 36) hx hb dX11_isCover_29 (by decide) (fun c6 => ?_) (fun c6 => ?_)
          · have h := h.1 c6
            refine lv_iconst (v := 0) hx hb dX11_isCover_36 (by decide) ?_
            rw [← hQ]
            exact cRetZ (v := 0) () hx hb hr hlocks hS hP hD (Or.inl rfl) h dX11_isCover_37
          · have h := h.2 c6
            refine lv_iconst (v := 1) hx hb dX11_isCover_32 (by decide) ?_
            refine lv_goto (tgt := 37) hx hb dX11_isCover_33 (by decide) ?_
            rw [← hQ]
            exact cRetZ (v := 1) () hx hb hr hlocks hS hP hD (Or.inr rfl) h dX11_isCover_37
abbrev vsX11_coveredOn : List Cond := Cond.code yX11_coveredOn cX11_coveredOn 7 (some .long) :: WS
abbrev rmX11_coveredOn : Room := { frames := 4, cells := 0, slots := 0, locals := 105 }
set_option maxHeartbeats 4000000 in
set_option maxRecDepth 100000 in
theorem k_X11_coveredOn (l : Launch) (D : va_G) (C : Nat → ClassId) (sz : Nat) (L0 : Nat) (aR0 : Nat → Nat) (n0 : Nat) (aN : Nat → Nat) (h_reader : Nat) (h_rail : Nat) (h_trial : Nat) (h_images : Nat) (h_slots : Nat) (h_triedYear : Nat) (h_ofBikes : Nat) (rs0 : Nat → Int32) (ra0 : Nat → Nat → Int32) (ns : Nat → Int32) (na : Nat → Nat → Int32) (nl : Nat → Nat → Int64) (p2 : Int32) (p3 : Int32) (p4 : Int32) {post : Int64 → (Nat → Int32) → (Nat → Nat → Int32) → (Nat → Nat → Int64) → Prop} (h : P_X11_coveredOn rs0 ra0 ns na nl p2 p3 p4 post) : Met l yX11_coveredOn vsX11_coveredOn rmX11_coveredOn (cPre D C [.ref L0, .ref (aR0 0), .int p2, .int p3, .int p4] sz ([cLockRail L0 h_reader h_rail h_trial h_images h_slots n0 h_triedYear h_ofBikes C ] ++ (wRail aR0 C rs0 ra0 ++ (wNight n0 aN C ns na nl)))) (cQl D (fun (r : Int64) (u : (Nat → Nat) × (Nat → Int32) × (Nat → Nat → Int32) × (Nat → Nat → Int64)) => post r u.2.1 u.2.2.1 u.2.2.2) (fun u => [cLockRail L0 h_reader h_rail h_trial h_images h_slots n0 h_triedYear h_ofBikes C ] ++ (wRail aR0 C rs0 ra0 ++ (wNight n0 u.1 C u.2.1 u.2.2.1 u.2.2.2))) (va_A (List.flatten ([cLockRail L0 h_reader h_rail h_trial h_images h_slots n0 h_triedYear h_ofBikes C ] ++ (wRail aR0 C rs0 ra0 ++ (wNight n0 aN C ns na nl)))) sz)) 0 0 (va_A (List.flatten ([cLockRail L0 h_reader h_rail h_trial h_images h_slots n0 h_triedYear h_ofBikes C ] ++ (wRail aR0 C rs0 ra0 ++ (wNight n0 aN C ns na nl)))) sz) := by
  refine cStart (QA := fun A => cQl D (fun (r : Int64) (u : (Nat → Nat) × (Nat → Int32) × (Nat → Nat → Int32) × (Nat → Nat → Int64)) => post r u.2.1 u.2.2.1 u.2.2.2) (fun u => [cLockRail L0 h_reader h_rail h_trial h_images h_slots n0 h_triedYear h_ofBikes C ] ++ (wRail aR0 C rs0 ra0 ++ (wNight n0 u.1 C u.2.1 u.2.2.1 u.2.2.2))) A) (cc := cX11_coveredOn) (maxL := 7) (ret := (some .long)) (by decide) (Nat.le_of_ble_eq_true rfl) ?_
  intro p e s m args below meth c A ls hx hb hr hml hown hw hlocks hname hK hN hA hP hD hS hl
  generalize hQ : MQ below _ args s 0 0 A = Q
  have hl : lv_has ls 7 [(0, .ref L0), (1, .ref (aR0 0)), (2, .int p2), (3, .int p3), (4, .int p4)] := hl
  obtain ⟨H, hH⟩ : ∃ H, H = s.heap := ⟨_, rfl⟩
  obtain ⟨locs, hlo⟩ : ∃ z : List Loc, z = [] := ⟨_, rfl⟩
  have hP : va_P D vwCl (List.flatten ([cLockRail L0 h_reader h_rail h_trial h_images h_slots n0 h_triedYear h_ofBikes C ] ++ (wRail aR0 C rs0 ra0 ++ (wNight n0 aN C ns na nl)))) H := by rw [hH]; exact hP
  have hS : va_S A s.heap H locs := by rw [hH, hlo]; exact hS
  rw [show W p l e rmX11_coveredOn s m args below meth c s.heap [] 0 0 Q (F0 m 0 ls []) = W p l e rmX11_coveredOn s m args below meth c H locs 0 0 Q (F0 m 0 ls []) from by rw [hH, hlo]]
  refine lv_aload_n hx hb dX11_coveredOn_0 rfl (lv_at hl 0 rfl) ?_
  refine va_get (D := D) (ci := 11) (v := .ref n0) (C := RX11) (T := TX11) (N := 8) hx hb hw inW_X11 hown hK hP 0 rfl rfl 5 (by decide) (hw _ mw_2_148) (fun _ h9 => h9) rfl dX11_coveredOn_1 ?_
  refine lv_aload_n hx hb dX11_coveredOn_4 rfl (lv_at hl 1 rfl) ?_
  refine gs_V10_48 (rs_VN10_38 (As := [.ref (aR0 0)]) (rest := []) ⟨hx, hb, hml, hown, hw⟩ hK hN hP hD (k_X3_play l D C _ n0 aN aR0  ns na nl rs0 ra0  h) ⟨va_cnB 1 hw (goodN mw_4_24) rfl rfl rfl (hN.m 45 rfl) (hw _ mw_1_11) (by decide +kernel) ⟨Nat.le_of_ble_eq_true rfl, Nat.le_of_ble_eq_true rfl⟩, hw _ mw_4_23, hw _ mw_s48⟩ rfl rfl rfl hl.1 rfl (Nat.le_of_ble_eq_true rfl) dX11_coveredOn_5 ⟨Nat.zero_le _, Nat.zero_le _⟩) hP hD hS hA (fun u H locs h hP hD hS => ?_)
  obtain ⟨aN1, ns_2, na_3, nl_4⟩ := u
  have hP : va_P D vwCl (List.flatten ([cLockRail L0 h_reader h_rail h_trial h_images h_slots n0 h_triedYear h_ofBikes C ] ++ (wRail aR0 C rs0 ra0 ++ (wNight n0 aN1 C ns_2 na_3 nl_4)))) H := hP
  have hD : va_D A (List.flatten ([cLockRail L0 h_reader h_rail h_trial h_images h_slots n0 h_triedYear h_ofBikes C ] ++ (wRail aR0 C rs0 ra0 ++ (wNight n0 aN1 C ns_2 na_3 nl_4)))) := hD
  refine lv_aload_n hx hb dX11_coveredOn_8 rfl (lv_at hl 0 rfl) ?_
  refine va_get (D := D) (ci := 11) (v := .ref n0) (C := RX11) (T := TX11) (N := 8) hx hb hw inW_X11 hown hK hP 0 rfl rfl 5 (by decide) (hw _ mw_2_148) (fun _ h9 => h9) rfl dX11_coveredOn_9 ?_
  refine lv_aload_n hx hb dX11_coveredOn_12 rfl (lv_at hl 1 rfl) ?_
  refine lv_iload_n hx hb dX11_coveredOn_13 rfl (lv_at hl 2 rfl) ?_
  refine lv_iconst (v := 1) hx hb dX11_coveredOn_14 (by decide) ?_
  refine gs_L10_49 (rs_VN10_38 (As := [.ref (aR0 0), .int p2, .int 1]) (rest := []) ⟨hx, hb, hml, hown, hw⟩ hK hN hP hD (k_X3_costOf l D C _ n0 aN1 aR0  ns_2 na_3 nl_4 rs0 ra0 p2 1 h) ⟨va_cnB 3 hw (goodN mw_4_104) rfl rfl rfl (hN.m 52 rfl) (hw _ mw_1_11) (by decide +kernel) ⟨Nat.le_of_ble_eq_true rfl, Nat.le_of_ble_eq_true rfl⟩, hw _ mw_4_103, hw _ mw_s59⟩ rfl rfl rfl hl.1 rfl (Nat.le_of_ble_eq_true rfl) dX11_coveredOn_15 ⟨Nat.zero_le _, Nat.zero_le _⟩) hP hD hS hA (fun r5 u H locs h hP hD hS => ?_)
  have hP : va_P D vwCl (List.flatten ([cLockRail L0 h_reader h_rail h_trial h_images h_slots n0 h_triedYear h_ofBikes C ] ++ (wRail aR0 C rs0 ra0 ++ (wNight n0 aN1 C ns_2 na_3 nl_4)))) H := hP
  have hD : va_D A (List.flatten ([cLockRail L0 h_reader h_rail h_trial h_images h_slots n0 h_triedYear h_ofBikes C ] ++ (wRail aR0 C rs0 ra0 ++ (wNight n0 aN1 C ns_2 na_3 nl_4)))) := hD
  refine lv_lstore (lv' := [(5, .long r5), (0, .ref L0), (1, .ref (aR0 0)), (2, .int p2), (3, .int p3), (4, .int p4)]) hx hb dX11_coveredOn_18 hl (by decide) rfl (fun ls hl => ?_)
  refine lv_ldc2 (v := 1000) hx hb hown (hw _ mw_5_117) dX11_coveredOn_20 ?_
  refine lv_iload_n hx hb dX11_coveredOn_23 rfl (lv_at hl 4 rfl) ?_
  refine lv_i2l hx hb dX11_coveredOn_24 rfl ?_
  refine lv_lmul hx hb dX11_coveredOn_25 ?_
  refine lv_aload_n hx hb dX11_coveredOn_26 rfl (lv_at hl 1 rfl) ?_
  refine va_get (D := D) (ci := 11) (v := .ref n0) (C := RX11) (T := TX11) (N := 8) hx hb hw inW_X11 hown hK hP 0 rfl rfl 5 (by decide) (hw _ mw_2_148) (fun _ h9 => h9) rfl dX11_coveredOn_27 ?_
  refine lv_aload_n hx hb dX11_coveredOn_30 rfl (lv_at hl 2 rfl) ?_
  refine lv_iload_n hx hb dX11_coveredOn_31 rfl (lv_at hl 3 rfl) ?_
  refine lv_iconst (v := 0) hx hb dX11_coveredOn_32 (by decide) ?_
  refine gs_L10_49 (rs_VN10_38 (As := [.ref (aR0 0), .int p2, .int 0]) (rest := [.long (1000 * p3.toInt64)]) ⟨hx, hb, hml, hown, hw⟩ hK hN hP hD (k_X3_costOf l D C _ n0 aN1 aR0  ns_2 na_3 nl_4 rs0 ra0 p2 0 h) ⟨va_cnB 3 hw (goodN mw_4_104) rfl rfl rfl (hN.m 52 rfl) (hw _ mw_1_11) (by decide +kernel) ⟨Nat.le_of_ble_eq_true rfl, Nat.le_of_ble_eq_true rfl⟩, hw _ mw_4_103, hw _ mw_s59⟩ rfl rfl rfl hl.1 rfl (Nat.le_of_ble_eq_true rfl) dX11_coveredOn_33 ⟨Nat.zero_le _, Nat.zero_le _⟩) hP hD hS hA (fun r6 u H locs h hP hD hS => ?_)
  have hP : va_P D vwCl (List.flatten ([cLockRail L0 h_reader h_rail h_trial h_images h_slots n0 h_triedYear h_ofBikes C ] ++ (wRail aR0 C rs0 ra0 ++ (wNight n0 aN1 C ns_2 na_3 nl_4)))) H := hP
  have hD : va_D A (List.flatten ([cLockRail L0 h_reader h_rail h_trial h_images h_slots n0 h_triedYear h_ofBikes C ] ++ (wRail aR0 C rs0 ra0 ++ (wNight n0 aN1 C ns_2 na_3 nl_4)))) := hD
  refine lv_ladd hx hb dX11_coveredOn_36 ?_
  refine lv_bipush (v := 100) hx hb dX11_coveredOn_37 (by decide) ?_
  refine lv_iload hx hb dX11_coveredOn_39 (lv_at hl 5 rfl) ?_
  refine lv_isub hx hb dX11_coveredOn_41 ?_
  refine lv_i2l hx hb dX11_coveredOn_42 rfl ?_
  refine lv_lload hx hb dX11_coveredOn_43 (lv_at hl 0 rfl) ?_
  refine lv_lmul hx hb dX11_coveredOn_45 ?_
  refine lv_ldc2 (v := 100) hx hb hown (hw _ mw_5_118) dX11_coveredOn_46 ?_
  refine lv_ldiv hx hb dX11_coveredOn_49 (by decide) ?_
  refine lv_ladd hx hb dX11_coveredOn_50 ?_
  rw [← hQ]
  exact cRetL (v := (((1000 * p3.toInt64) + r6) + (((100 - p4).toInt64 * r5) / 100))) (aN1, ns_2, na_3, nl_4) hx hb hr hlocks hS hP hD h dX11_coveredOn_51
abbrev vsX11_carelessOption : List Cond := Cond.code yX11_carelessOption cX11_carelessOption 10 (some .int) :: WS
abbrev rmX11_carelessOption : Room := { frames := 5, cells := 0, slots := 0, locals := 131 }
set_option maxHeartbeats 4000000 in
set_option maxRecDepth 100000 in
theorem k_X11_carelessOption (l : Launch) (D : va_G) (C : Nat → ClassId) (sz : Nat) (L0 : Nat) (aR : Nat → Nat) (aR2 : Nat → Nat) (n0 : Nat) (aN : Nat → Nat) (h_reader : Nat) (h_images : Nat) (h_slots : Nat) (h_triedYear : Nat) (h_ofBikes : Nat) (rs : Nat → Int32) (ra : Nat → Nat → Int32) (rs2 : Nat → Int32) (ra2 : Nat → Nat → Int32) (ns : Nat → Int32) (na : Nat → Nat → Int32) (nl : Nat → Nat → Int64) (p1 : Int32) (p2 : Int32) (p3 : Int32) {post : Int32 → (Nat → Int32) → (Nat → Nat → Int32) → (Nat → Int32) → (Nat → Nat → Int32) → (Nat → Nat → Int64) → Prop} (h : P_X11_carelessOption rs ra rs2 ra2 ns na nl p1 p2 p3 post) : Met l yX11_carelessOption vsX11_carelessOption rmX11_carelessOption (cPre D C [.ref L0, .int p1, .int p2, .int p3] sz ([cLockRail L0 h_reader (aR 0) (aR2 0) h_images h_slots n0 h_triedYear h_ofBikes C ] ++ (wRail aR C rs ra ++ (wRail aR2 C rs2 ra2 ++ (wNight n0 aN C ns na nl))))) (cQi D (fun (r : Int32) (u : (Nat → Nat) × (Nat → Int32) × (Nat → Nat → Int32) × (Nat → Int32) × (Nat → Nat → Int32) × (Nat → Nat → Int64)) => post r u.2.1 u.2.2.1 u.2.2.2.1 u.2.2.2.2.1 u.2.2.2.2.2) (fun u => [cLockRail L0 h_reader (aR 0) (aR2 0) h_images h_slots n0 h_triedYear h_ofBikes C ] ++ (wRail aR C rs ra ++ (wRail aR2 C u.2.1 u.2.2.1 ++ (wNight n0 u.1 C u.2.2.2.1 u.2.2.2.2.1 u.2.2.2.2.2)))) (va_A (List.flatten ([cLockRail L0 h_reader (aR 0) (aR2 0) h_images h_slots n0 h_triedYear h_ofBikes C ] ++ (wRail aR C rs ra ++ (wRail aR2 C rs2 ra2 ++ (wNight n0 aN C ns na nl))))) sz)) 0 0 (va_A (List.flatten ([cLockRail L0 h_reader (aR 0) (aR2 0) h_images h_slots n0 h_triedYear h_ofBikes C ] ++ (wRail aR C rs ra ++ (wRail aR2 C rs2 ra2 ++ (wNight n0 aN C ns na nl))))) sz) := by
  refine cStart (QA := fun A => cQi D (fun (r : Int32) (u : (Nat → Nat) × (Nat → Int32) × (Nat → Nat → Int32) × (Nat → Int32) × (Nat → Nat → Int32) × (Nat → Nat → Int64)) => post r u.2.1 u.2.2.1 u.2.2.2.1 u.2.2.2.2.1 u.2.2.2.2.2) (fun u => [cLockRail L0 h_reader (aR 0) (aR2 0) h_images h_slots n0 h_triedYear h_ofBikes C ] ++ (wRail aR C rs ra ++ (wRail aR2 C u.2.1 u.2.2.1 ++ (wNight n0 u.1 C u.2.2.2.1 u.2.2.2.2.1 u.2.2.2.2.2)))) A) (cc := cX11_carelessOption) (maxL := 10) (ret := (some .int)) (by decide) (Nat.le_of_ble_eq_true rfl) ?_
  intro p e s m args below meth c A ls hx hb hr hml hown hw hlocks hname hK hN hA hP hD hS hl
  generalize hQ : MQ below _ args s 0 0 A = Q
  have hl : lv_has ls 10 [(0, .ref L0), (1, .int p1), (2, .int p2), (3, .int p3)] := hl
  have hn97 : (Cond.fieldLinkNest "LockRail" 97 "LockRail$Rail" "bikes" "LLockRail$Bikes;" "LockRail").before args s = true := hN.f 61 rfl
  obtain ⟨H, hH⟩ : ∃ H, H = s.heap := ⟨_, rfl⟩
  obtain ⟨locs, hlo⟩ : ∃ z : List Loc, z = [] := ⟨_, rfl⟩
  have hP : va_P D vwCl (List.flatten ([cLockRail L0 h_reader (aR 0) (aR2 0) h_images h_slots n0 h_triedYear h_ofBikes C ] ++ (wRail aR C rs ra ++ (wRail aR2 C rs2 ra2 ++ (wNight n0 aN C ns na nl))))) H := by rw [hH]; exact hP
  have hS : va_S A s.heap H locs := by rw [hH, hlo]; exact hS
  rw [show W p l e rmX11_carelessOption s m args below meth c s.heap [] 0 0 Q (F0 m 0 ls []) = W p l e rmX11_carelessOption s m args below meth c H locs 0 0 Q (F0 m 0 ls []) from by rw [hH, hlo]]
  have N22 : ∀ (rs2 : Nat → Int32) (n22 : Nat) (x4_ : Int32) (x5_ : Int64) (x7_ : Int32) (ra2 : Nat → Nat → Int32) (ns : Nat → Int32) (na : Nat → Nat → Int32) (nl : Nat → Nat → Int64) (aN : Nat → Nat) (H : Heap) (locs : List Loc) (ls : Array Slot), P_X11_carelessOption_22 rs ra p1 p2 p3 post  rs2 n22 x4_ x5_ x7_ ra2 ns na nl → va_P D vwCl (List.flatten ([cLockRail L0 h_reader (aR 0) (aR2 0) h_images h_slots n0 h_triedYear h_ofBikes C ] ++ (wRail aR C rs ra ++ (wRail aR2 C rs2 ra2 ++ (wNight n0 aN C ns na nl))))) H → va_D A (List.flatten ([cLockRail L0 h_reader (aR 0) (aR2 0) h_images h_slots n0 h_triedYear h_ofBikes C ] ++ (wRail aR C rs ra ++ (wRail aR2 C rs2 ra2 ++ (wNight n0 aN C ns na nl))))) → va_S A s.heap H locs → lv_has ls 10 [(0, .ref L0), (1, .int p1), (2, .int p2), (3, .int p3), (4, .int x4_), (5, .long x5_), (7, .int x7_)] → W p l e rmX11_carelessOption s m args below meth c H locs 0 0 Q (F0 m 22 ls []) := by
    intro rs2
    intro n22
    induction n22 with
    | zero => intro x4_ x5_ x7_ ra2 ns na nl aN H locs ls h hP hD hS hl; exact False.elim h
    | succ n22 ih22 =>
      intro x4_ x5_ x7_ ra2 ns na nl aN H locs ls h hP hD hS hl
      have h : P_X11_carelessOption_22_b rs ra p1 p2 p3 post  rs2 (P_X11_carelessOption_22 rs ra p1 p2 p3 post  rs2 n22) x4_ x5_ x7_ ra2 ns na nl := h
      unfold P_X11_carelessOption_22_b at h
      refine lv_iload hx hb dX11_carelessOption_22 (lv_at hl 6 rfl) ?_
      refine lv_aload_n hx hb dX11_carelessOption_24 rfl (lv_at hl 0 rfl) ?_
      refine va_get (D := D) (ci := 11) (v := .ref (aR2 0)) (C := RX11) (T := TX11) (N := 8) hx hb hw inW_X11 hown hK hP 0 rfl rfl 2 (by decide) (hw _ mw_2_145) (fun _ h9 => h9) rfl dX11_carelessOption_25 ?_
      refine gs_I16_80 (rs_VN16_60 (As := []) (rest := [.int x7_]) ⟨hx, hb, hml, hown, hw⟩ hK hN hP hD (k_X4_options l D C _ aR2  rs2 ra2  h) ⟨va_cnB 0 hw (goodN mw_4_144) rfl rfl rfl (hN.m 59 rfl) (hw _ mw_1_4) (by decide +kernel) ⟨Nat.le_of_ble_eq_true rfl, Nat.le_of_ble_eq_true rfl⟩, hw _ mw_4_143, hw _ mw_s66⟩ rfl rfl rfl hl.1 rfl (Nat.le_of_ble_eq_true rfl) dX11_carelessOption_28 ⟨Nat.zero_le _, Nat.zero_le _⟩) hP hD hS hA (fun r1 u H locs h hP hD hS => ?_)
      have hP : va_P D vwCl (List.flatten ([cLockRail L0 h_reader (aR 0) (aR2 0) h_images h_slots n0 h_triedYear h_ofBikes C ] ++ (wRail aR C rs ra ++ (wRail aR2 C rs2 ra2 ++ (wNight n0 aN C ns na nl))))) H := hP
      have hD : va_D A (List.flatten ([cLockRail L0 h_reader (aR 0) (aR2 0) h_images h_slots n0 h_triedYear h_ofBikes C ] ++ (wRail aR C rs ra ++ (wRail aR2 C rs2 ra2 ++ (wNight n0 aN C ns na nl))))) := hD
      refine lv_icmp_ge (tgt := 82) hx hb dX11_carelessOption_31 (by decide) (fun c2 => ?_) (fun c2 => ?_)
      · have h := h.1 c2
        refine lv_iload hx hb dX11_carelessOption_82 (lv_at hl 4 rfl) ?_
        rw [← hQ]
        exact cRetI (v := x4_) (aN, rs2, ra2, ns, na, nl) hx hb hr hlocks hS hP hD h dX11_carelessOption_84
      · have h := h.2 c2
        refine lv_aload_n hx hb dX11_carelessOption_34 rfl (lv_at hl 0 rfl) ?_
        refine va_get (D := D) (ci := 11) (v := .ref (aR2 0)) (C := RX11) (T := TX11) (N := 8) hx hb hw inW_X11 hown hK hP 0 rfl rfl 2 (by decide) (hw _ mw_2_145) (fun _ h9 => h9) rfl dX11_carelessOption_35 ?_
        refine va_getN (D := D) (ci := 4) (v := .ref (aR2 7)) (C := RX4) (T := TX4) (N := 16) hx hb hw inW_X4 hown hK hP 23 rfl rfl 5 (by decide) hn97 (fun _ h9 => h9) rfl dX11_carelessOption_38 ?_
        refine lv_iload_n hx hb dX11_carelessOption_41 rfl (lv_at hl 1 rfl) ?_
        refine lv_iload hx hb dX11_carelessOption_42 (lv_at hl 6 rfl) ?_
        refine gs_V16_81 (rs_VN16_61 (As := [.int p1, .int x7_]) (rest := []) ⟨hx, hb, hml, hown, hw⟩ hK hN hP hD (k_X0_setOption l D C _ (aR2 7) (aR2 8) (aR2 9) (aR2 10) (aR2 11) (aR2 12)  (rs2 13) (ra2 4) (ra2 5) (ra2 6) (ra2 7) (ra2 8) p1 x7_ h) ⟨va_cnB 2 hw (goodN mw_4_153) rfl rfl rfl (hN.m 58 rfl) (hw _ mw_1_7) (by decide +kernel) ⟨Nat.le_of_ble_eq_true rfl, Nat.le_of_ble_eq_true rfl⟩, hw _ mw_4_152, hw _ mw_s68⟩ rfl rfl rfl hl.1 rfl (Nat.le_of_ble_eq_true rfl) dX11_carelessOption_44 ⟨Nat.zero_le _, Nat.zero_le _⟩) hP hD hS hA (fun u H locs h hP hD hS => ?_)
        obtain ⟨loc_3, mar_4⟩ := u
        have hP : va_P D vwCl (List.flatten ([cLockRail L0 h_reader (aR 0) (aR2 0) h_images h_slots n0 h_triedYear h_ofBikes C ] ++ (wRail aR C rs ra ++ (wRail aR2 C rs2 (va_up (va_up ra2 7 loc_3) 8 mar_4) ++ (wNight n0 aN C ns na nl))))) H := hP
        have hD : va_D A (List.flatten ([cLockRail L0 h_reader (aR 0) (aR2 0) h_images h_slots n0 h_triedYear h_ofBikes C ] ++ (wRail aR C rs ra ++ (wRail aR2 C rs2 (va_up (va_up ra2 7 loc_3) 8 mar_4) ++ (wNight n0 aN C ns na nl))))) := hD
        refine lv_aload_n hx hb dX11_carelessOption_47 rfl (lv_at hl 0 rfl) ?_
        refine lv_aload_n hx hb dX11_carelessOption_48 rfl (lv_at hl 0 rfl) ?_
        refine va_get (D := D) (ci := 11) (v := .ref (aR2 0)) (C := RX11) (T := TX11) (N := 8) hx hb hw inW_X11 hown hK hP 0 rfl rfl 2 (by decide) (hw _ mw_2_145) (fun _ h9 => h9) rfl dX11_carelessOption_49 ?_
        refine lv_iload_n hx hb dX11_carelessOption_52 rfl (lv_at hl 1 rfl) ?_
        refine lv_iload_n hx hb dX11_carelessOption_53 rfl (lv_at hl 2 rfl) ?_
        refine lv_iload_n hx hb dX11_carelessOption_54 rfl (lv_at hl 3 rfl) ?_
        refine gs_L16_74 (rs_V16_57 (As := [.ref (aR2 0), .int p1, .int p2, .int p3]) (rest := []) ⟨hx, hb, hml, hown, hw⟩ hK hN hP hD (k_X11_coveredOn l D C _ L0 aR2 n0 aN h_reader (aR 0) (aR2 0) h_images h_slots h_triedYear h_ofBikes  rs2 (va_up (va_up ra2 7 loc_3) 8 mar_4) ns na nl p1 p2 p3 h) (cwV 4 hw (goodV mw_5_113 mw_5_115 mw_s89 mw_1_1 mw_5_116) rfl rfl rfl (by decide +kernel) ⟨Nat.le_of_ble_eq_true rfl, Nat.le_of_ble_eq_true rfl⟩) rfl rfl rfl hl.1 rfl (Nat.le_of_ble_eq_true rfl) dX11_carelessOption_55 ⟨Nat.zero_le _, Nat.zero_le _⟩) hP hD hS hA (fun r9 u H locs h hP hD hS => ?_)
        obtain ⟨aN5, ns_6, na_7, nl_8⟩ := u
        have hP : va_P D vwCl (List.flatten ([cLockRail L0 h_reader (aR 0) (aR2 0) h_images h_slots n0 h_triedYear h_ofBikes C ] ++ (wRail aR C rs ra ++ (wRail aR2 C rs2 (va_up (va_up ra2 7 loc_3) 8 mar_4) ++ (wNight n0 aN5 C ns_6 na_7 nl_8))))) H := hP
        have hD : va_D A (List.flatten ([cLockRail L0 h_reader (aR 0) (aR2 0) h_images h_slots n0 h_triedYear h_ofBikes C ] ++ (wRail aR C rs ra ++ (wRail aR2 C rs2 (va_up (va_up ra2 7 loc_3) 8 mar_4) ++ (wNight n0 aN5 C ns_6 na_7 nl_8))))) := hD
        refine lv_lstore (lv' := [(8, .long r9), (0, .ref L0), (1, .int p1), (2, .int p2), (3, .int p3), (4, .int x4_), (5, .long x5_), (7, .int x7_)]) hx hb dX11_carelessOption_58 hl (by decide) rfl (fun ls hl => ?_)
        refine lv_lload hx hb dX11_carelessOption_60 (lv_at hl 0 rfl) ?_
        refine lv_lload hx hb dX11_carelessOption_62 (lv_at hl 6 rfl) ?_
        refine W.lcmp hx hb dX11_carelessOption_64 ?_
        refine lv_if_ge (tgt := 76) hx hb dX11_carelessOption_65 (by decide) (fun c10 => ?_) (fun c10 => ?_)
        · have c10 : x5_ ≤ r9 := (lg_cmp_ge _ _).mp c10
          have h := h.1 c10
          refine lv_iinc (v := (x7_ + 1)) (lv' := [(7, .int (x7_ + 1)), (8, .long r9), (0, .ref L0), (1, .int p1), (2, .int p2), (3, .int p3), (4, .int x4_), (5, .long x5_)]) hx hb dX11_carelessOption_76 hl (k := 7) rfl rfl (by decide) rfl (fun ls hl => ?_)
          refine lv_goto (tgt := 22) hx hb dX11_carelessOption_79 (by decide) ?_
          exact ih22 x4_ x5_ (x7_ + 1) (va_up (va_up ra2 7 loc_3) 8 mar_4) ns_6 na_7 nl_8 aN5 _ _ _ h hP hD hS (lv_sub hl [2, 3, 4, 5, 6, 7, 0] rfl)
        · have c10 : ¬ x5_ ≤ r9 := fun q => c10 ((lg_cmp_ge _ _).mpr q)
          have h := h.2 c10
          refine lv_lload hx hb dX11_carelessOption_68 (lv_at hl 0 rfl) ?_
          refine lv_lstore (lv' := [(5, .long r9), (8, .long r9), (0, .ref L0), (1, .int p1), (2, .int p2), (3, .int p3), (4, .int x4_), (7, .int x7_)]) hx hb dX11_carelessOption_70 hl (by decide) rfl (fun ls hl => ?_)
          refine lv_iload hx hb dX11_carelessOption_72 (lv_at hl 7 rfl) ?_
          refine lv_istore (lv' := [(4, .int x7_), (5, .long r9), (8, .long r9), (0, .ref L0), (1, .int p1), (2, .int p2), (3, .int p3), (7, .int x7_)]) hx hb dX11_carelessOption_74 hl (by decide) rfl (fun ls hl => ?_)
          refine lv_iinc (v := (x7_ + 1)) (lv' := [(7, .int (x7_ + 1)), (4, .int x7_), (5, .long r9), (8, .long r9), (0, .ref L0), (1, .int p1), (2, .int p2), (3, .int p3)]) hx hb dX11_carelessOption_76 hl (k := 7) rfl rfl (by decide) rfl (fun ls hl => ?_)
          refine lv_goto (tgt := 22) hx hb dX11_carelessOption_79 (by decide) ?_
          exact ih22 x7_ r9 (x7_ + 1) (va_up (va_up ra2 7 loc_3) 8 mar_4) ns_6 na_7 nl_8 aN5 _ _ _ h hP hD hS (lv_sub hl [4, 5, 6, 7, 1, 2, 0] rfl)
  refine lv_aload_n hx hb dX11_carelessOption_0 rfl (lv_at hl 0 rfl) ?_
  refine va_get (D := D) (ci := 11) (v := .ref (aR2 0)) (C := RX11) (T := TX11) (N := 8) hx hb hw inW_X11 hown hK hP 0 rfl rfl 2 (by decide) (hw _ mw_2_145) (fun _ h9 => h9) rfl dX11_carelessOption_1 ?_
  refine lv_aload_n hx hb dX11_carelessOption_4 rfl (lv_at hl 0 rfl) ?_
  refine va_get (D := D) (ci := 11) (v := .ref (aR 0)) (C := RX11) (T := TX11) (N := 8) hx hb hw inW_X11 hown hK hP 0 rfl rfl 1 (by decide) (hw _ mw_2_144) (fun _ h9 => h9) rfl dX11_carelessOption_5 ?_
  refine gs_V16_72 (rs_VN16_55 (As := [.ref (aR 0)]) (rest := []) ⟨hx, hb, hml, hown, hw⟩ hK hN hP hD (k_X4_copyFrom l D C _ aR2 aR  rs2 ra2 rs ra  h) ⟨va_cnB 1 hw (goodN mw_3_126) rfl rfl rfl (hN.m 23 rfl) (hw _ mw_1_4) (by decide +kernel) ⟨Nat.le_of_ble_eq_true rfl, Nat.le_of_ble_eq_true rfl⟩, hw _ mw_3_125, hw _ mw_s26⟩ rfl rfl rfl hl.1 rfl (Nat.le_of_ble_eq_true rfl) dX11_carelessOption_8 ⟨Nat.zero_le _, Nat.zero_le _⟩) hP hD hS hA (fun u H locs h hP hD hS => ?_)
  obtain ⟨rs_11, ra_12⟩ := u
  have hP : va_P D vwCl (List.flatten ([cLockRail L0 h_reader (aR 0) (aR2 0) h_images h_slots n0 h_triedYear h_ofBikes C ] ++ (wRail aR C rs ra ++ (wRail aR2 C rs_11 ra_12 ++ (wNight n0 aN C ns na nl))))) H := hP
  have hD : va_D A (List.flatten ([cLockRail L0 h_reader (aR 0) (aR2 0) h_images h_slots n0 h_triedYear h_ofBikes C ] ++ (wRail aR C rs ra ++ (wRail aR2 C rs_11 ra_12 ++ (wNight n0 aN C ns na nl))))) := hD
  refine lv_iconst (v := 0) hx hb dX11_carelessOption_11 (by decide) ?_
  refine lv_istore (lv' := [(4, .int 0), (0, .ref L0), (1, .int p1), (2, .int p2), (3, .int p3)]) hx hb dX11_carelessOption_12 hl (by decide) rfl (fun ls hl => ?_)
  refine lv_ldc2 (v := 9223372036854775807) hx hb hown (hw _ mw_4_170) dX11_carelessOption_14 ?_
  refine lv_lstore (lv' := [(5, .long 9223372036854775807), (4, .int 0), (0, .ref L0), (1, .int p1), (2, .int p2), (3, .int p3)]) hx hb dX11_carelessOption_17 hl (by decide) rfl (fun ls hl => ?_)
  refine lv_iconst (v := 0) hx hb dX11_carelessOption_19 (by decide) ?_
  refine lv_istore (lv' := [(7, .int 0), (5, .long 9223372036854775807), (4, .int 0), (0, .ref L0), (1, .int p1), (2, .int p2), (3, .int p3)]) hx hb dX11_carelessOption_20 hl (by decide) rfl (fun ls hl => ?_)
  obtain ⟨n, h⟩ := h
  exact N22 rs_11 n 0 9223372036854775807 0 ra_12 ns na nl aN _ _ _ h hP hD hS (lv_sub hl [3, 4, 5, 6, 2, 1, 0] rfl)
