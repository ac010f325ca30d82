abbrev vsX11_marks : List Cond := Cond.code yX11_marks cX11_marks 3 (some .int) :: WS
abbrev rmX11_marks : Room := { frames := 5, cells := 0, slots := 0, locals := 120 }
set_option maxHeartbeats 4000000 in
set_option maxRecDepth 100000 in
theorem k_X11_marks (l : Launch) (D : va_G) (C : Nat → ClassId) (sz : Nat) (L0 : Nat) (aU : Nat → Nat) (aR : Nat → Nat) (aR2 : Nat → Nat) (aS : Nat → Nat) (n0 : Nat) (aN : Nat → Nat) (y0 : Nat) (y1 : Nat) (y2 : Nat) (o0 : Nat) (h_images : Nat) (us : Nat → Int32) (ua : Nat → Nat → Int32) (rs : Nat → Int32) (ra : Nat → Nat → Int32) (rs2 : Nat → Int32) (ra2 : Nat → Nat → Int32) (sa : Nat → Nat → Int32) (sl : Nat → Nat → Int64) (ns : Nat → Int32) (na : Nat → Nat → Int32) (nl : Nat → Nat → Int64) (y_isThere : Int32) (y_taken : Nat → Int32) (y_took : Nat → Int32) (o_of : Nat → Int64)  {post : Int32 → (Nat → Int32) → (Nat → Nat → Int32) → (Nat → Int32) → (Nat → Nat → Int32) → Prop} (h : P_X11_marks rs ra rs2 ra2 ns na post) : Met l yX11_marks vsX11_marks rmX11_marks (cPre D C [.ref L0] sz ([cLockRail L0 (aU 0) (aR 0) (aR2 0) h_images (aS 0) n0 y0 o0 C ] ++ (wReader aU C us ua ++ (wRail aR C rs ra ++ (wRail aR2 C rs2 ra2 ++ (wSlots aS C sa sl ++ (wNight n0 aN C ns na nl ++ ([cYear y0 y1 y2 C y_isThere y_taken y_took] ++ ([cOb o0 C o_of]))))))))) (cQi D (fun (r : Int32) (u : (Nat → Int32) × (Nat → Nat → Int32) × (Nat → Int32) × (Nat → Nat → Int32)) => post r u.1 u.2.1 u.2.2.1 u.2.2.2) (fun u => [cLockRail L0 (aU 0) (aR 0) (aR2 0) h_images (aS 0) n0 y0 o0 C ] ++ (wReader aU C us ua ++ (wRail aR C rs ra ++ (wRail aR2 C u.1 u.2.1 ++ (wSlots aS C sa sl ++ (wNight n0 aN C u.2.2.1 u.2.2.2 nl ++ ([cYear y0 y1 y2 C y_isThere y_taken y_took] ++ ([cOb o0 C o_of])))))))) (va_A (List.flatten ([cLockRail L0 (aU 0) (aR 0) (aR2 0) h_images (aS 0) n0 y0 o0 C ] ++ (wReader aU C us ua ++ (wRail aR C rs ra ++ (wRail aR2 C rs2 ra2 ++ (wSlots aS C sa sl ++ (wNight n0 aN C ns na nl ++ ([cYear y0 y1 y2 C y_isThere y_taken y_took] ++ ([cOb o0 C o_of]))))))))) sz)) 0 0 (va_A (List.flatten ([cLockRail L0 (aU 0) (aR 0) (aR2 0) h_images (aS 0) n0 y0 o0 C ] ++ (wReader aU C us ua ++ (wRail aR C rs ra ++ (wRail aR2 C rs2 ra2 ++ (wSlots aS C sa sl ++ (wNight n0 aN C ns na nl ++ ([cYear y0 y1 y2 C y_isThere y_taken y_took] ++ ([cOb o0 C o_of]))))))))) sz) := by
  refine cStart (QA := fun A => cQi D (fun (r : Int32) (u : (Nat → Int32) × (Nat → Nat → Int32) × (Nat → Int32) × (Nat → Nat → Int32)) => post r u.1 u.2.1 u.2.2.1 u.2.2.2) (fun u => [cLockRail L0 (aU 0) (aR 0) (aR2 0) h_images (aS 0) n0 y0 o0 C ] ++ (wReader aU C us ua ++ (wRail aR C rs ra ++ (wRail aR2 C u.1 u.2.1 ++ (wSlots aS C sa sl ++ (wNight n0 aN C u.2.2.1 u.2.2.2 nl ++ ([cYear y0 y1 y2 C y_isThere y_taken y_took] ++ ([cOb o0 C o_of])))))))) A) (cc := cX11_marks) (maxL := 3) (ret := (some .int)) (by decide) (Nat.le_of_ble_eq_true rfl) ?_
  intro p e s m args below meth c A ls hx hb hr hml hown hw hlocks hname hK hN hA hP hD hS hl
  generalize hQ : MQ below _ args s 0 0 A = Q
  have hl : lv_has ls 3 [(0, .ref L0)] := hl
  have hn97 : (Cond.fieldLinkNest "LockRail" 97 "LockRail$Rail" "bikes" "LLockRail$Bikes;" "LockRail").before args s = true := hN.f 61 rfl
  have hn161 : (Cond.fieldLinkNest "LockRail" 161 "LockRail$Bikes" "count" "I" "LockRail").before args s = true := hN.f 20 rfl
  have hn116 : (Cond.fieldLinkNest "LockRail" 116 "LockRail$Bikes" "marked" "[Z" "LockRail").before args s = true := hN.f 30 rfl
  obtain ⟨H, hH⟩ : ∃ H, H = s.heap := ⟨_, rfl⟩
  obtain ⟨locs, hlo⟩ : ∃ z : List Loc, z = [] := ⟨_, rfl⟩
  have hP : va_P D vwCl (List.flatten ([cLockRail L0 (aU 0) (aR 0) (aR2 0) h_images (aS 0) n0 y0 o0 C ] ++ (wReader aU C us ua ++ (wRail aR C rs ra ++ (wRail aR2 C rs2 ra2 ++ (wSlots aS C sa sl ++ (wNight n0 aN C ns na nl ++ ([cYear y0 y1 y2 C y_isThere y_taken y_took] ++ ([cOb o0 C o_of]))))))))) H := by rw [hH]; exact hP
  have hS : va_S A s.heap H locs := by rw [hH, hlo]; exact hS
  rw [show W p l e rmX11_marks s m args below meth c s.heap [] 0 0 Q (F0 m 0 ls []) = W p l e rmX11_marks s m args below meth c H locs 0 0 Q (F0 m 0 ls []) from by rw [hH, hlo]]
  have N26 : ∀ (rs2 : Nat → Int32) (n26 : Nat) (x1_ : Int32) (ra2 : Nat → Nat → Int32) (ns : Nat → Int32) (na : Nat → Nat → Int32) (H : Heap) (locs : List Loc) (ls : Array Slot), P_X11_marks_26 rs ra post  rs2 n26 x1_ ra2 ns na → va_P D vwCl (List.flatten ([cLockRail L0 (aU 0) (aR 0) (aR2 0) h_images (aS 0) n0 y0 o0 C ] ++ (wReader aU C us ua ++ (wRail aR C rs ra ++ (wRail aR2 C rs2 ra2 ++ (wSlots aS C sa sl ++ (wNight n0 aN C ns na nl ++ ([cYear y0 y1 y2 C y_isThere y_taken y_took] ++ ([cOb o0 C o_of]))))))))) H → va_D A (List.flatten ([cLockRail L0 (aU 0) (aR 0) (aR2 0) h_images (aS 0) n0 y0 o0 C ] ++ (wReader aU C us ua ++ (wRail aR C rs ra ++ (wRail aR2 C rs2 ra2 ++ (wSlots aS C sa sl ++ (wNight n0 aN C ns na nl ++ ([cYear y0 y1 y2 C y_isThere y_taken y_took] ++ ([cOb o0 C o_of]))))))))) → va_S A s.heap H locs → lv_has ls 3 [(0, .ref L0), (1, .int x1_)] → W p l e rmX11_marks s m args below meth c H locs 0 0 Q (F0 m 26 ls []) := by
    intro rs2
    intro n26
    induction n26 with
    | zero => intro x1_ ra2 ns na H locs ls h hP hD hS hl; exact False.elim h
    | succ n26 ih26 =>
      have N84 : ∀ (x1_ : Int32) (ra2 : Nat → Nat → Int32) (ns : Nat → Int32) (na : Nat → Nat → Int32) (H : Heap) (locs : List Loc) (ls : Array Slot), P_X11_marks_84 rs ra rs2 post (P_X11_marks_26 rs ra post  rs2 n26) x1_ ra2 ns na → va_P D vwCl (List.flatten ([cLockRail L0 (aU 0) (aR 0) (aR2 0) h_images (aS 0) n0 y0 o0 C ] ++ (wReader aU C us ua ++ (wRail aR C rs ra ++ (wRail aR2 C rs2 ra2 ++ (wSlots aS C sa sl ++ (wNight n0 aN C ns na nl ++ ([cYear y0 y1 y2 C y_isThere y_taken y_took] ++ ([cOb o0 C o_of]))))))))) H → va_D A (List.flatten ([cLockRail L0 (aU 0) (aR 0) (aR2 0) h_images (aS 0) n0 y0 o0 C ] ++ (wReader aU C us ua ++ (wRail aR C rs ra ++ (wRail aR2 C rs2 ra2 ++ (wSlots aS C sa sl ++ (wNight n0 aN C ns na nl ++ ([cYear y0 y1 y2 C y_isThere y_taken y_took] ++ ([cOb o0 C o_of]))))))))) → va_S A s.heap H locs → lv_has ls 3 [(0, .ref L0), (1, .int x1_)] → W p l e rmX11_marks s m args below meth c H locs 0 0 Q (F0 m 84 ls []) := by
        intro x1_ ra2 ns na H locs ls h hP hD hS hl
        refine lv_aload_n hx hb dX11_marks_84 rfl (lv_at hl 0 rfl) ?_
        refine lv_aload_n hx hb dX11_marks_85 rfl (lv_at hl 0 rfl) ?_
        refine va_get (D := D) (ci := 11) (v := .ref (aR2 0)) (C := RX11) (T := TX11) (N := 8) hx hb hw inW_X11 hown hK hP 0 rfl rfl 2 (by decide) (hw _ mw_2_145) (fun _ h9 => h9) rfl dX11_marks_86 ?_
        refine cGoI (wo := fun u => [cLockRail L0 (aU 0) (aR 0) (aR2 0) h_images (aS 0) n0 y0 o0 C ] ++ (wReader aU C us ua ++ (wRail aR C rs ra ++ (wRail aR2 C rs2 ra2 ++ (wSlots aS C sa sl ++ (wNight n0 aN C u.1 u.2 nl ++ ([cYear y0 y1 y2 C y_isThere y_taken y_took] ++ ([cOb o0 C o_of])))))))) (cRunV (As := [.ref (aR2 0)]) (rest := []) ⟨hx, hb, hml, hown, hw⟩ hK hN hP hD [0, 9, 10, 11, 12, 13, 14, 16, 17, 18] rfl rfl (k_X11_anyWanted l D C _ L0 aR2 n0 aN (aU 0) (aR 0) (aR2 0) h_images (aS 0) y0 o0  rs2 ra2 ns na nl  h) (cwV 1 hw (goodV mw_5_49 mw_5_51 mw_s78 mw_1_1 mw_5_52) rfl rfl rfl (by decide +kernel) ⟨Nat.le_of_ble_eq_true rfl, Nat.le_of_ble_eq_true rfl⟩) rfl rfl rfl hl.1 rfl (Nat.le_of_ble_eq_true rfl) dX11_marks_89 ⟨Nat.zero_le _, Nat.zero_le _⟩) hP hD hS hA [0, 9, 10, 11, 12, 13, 14, 16, 17, 18] [1, 2, 3, 4, 5, 6, 7, 8, 15, 19, 20] [11, 0, 1, 2, 3, 4, 5, 6, 7, 12, 13, 14, 15, 16, 17, 8, 18, 19, 20, 9, 10] rfl rfl rfl (by decide) rfl (fun _ => rfl) (fun r3 u H locs h hP hD hS => ?_)
        obtain ⟨ns_1, na_2⟩ := u
        have hP : va_P D vwCl (List.flatten ([cLockRail L0 (aU 0) (aR 0) (aR2 0) h_images (aS 0) n0 y0 o0 C ] ++ (wReader aU C us ua ++ (wRail aR C rs ra ++ (wRail aR2 C rs2 ra2 ++ (wSlots aS C sa sl ++ (wNight n0 aN C ns_1 na_2 nl ++ ([cYear y0 y1 y2 C y_isThere y_taken y_took] ++ ([cOb o0 C o_of]))))))))) H := hP
        have hD : va_D A (List.flatten ([cLockRail L0 (aU 0) (aR 0) (aR2 0) h_images (aS 0) n0 y0 o0 C ] ++ (wReader aU C us ua ++ (wRail aR C rs ra ++ (wRail aR2 C rs2 ra2 ++ (wSlots aS C sa sl ++ (wNight n0 aN C ns_1 na_2 nl ++ ([cYear y0 y1 y2 C y_isThere y_taken y_took] ++ ([cOb o0 C o_of]))))))))) := hD
        refine lv_if_ne (tgt := 97) hx hb dX11_marks_92 (by decide) (fun c4 => ?_) (fun c4 => ?_)
        · have h := h.1 c4
          refine lv_iinc (v := (x1_ + 1)) (lv' := [(1, .int (x1_ + 1)), (0, .ref L0)]) hx hb dX11_marks_97 hl (k := 1) rfl rfl (by decide) rfl (fun ls hl => ?_)
          refine lv_goto (tgt := 26) hx hb dX11_marks_100 (by decide) ?_
          exact ih26 (x1_ + 1) ra2 ns_1 na_2 _ _ _ h hP hD hS (lv_sub hl [1, 0] rfl)
        · have h := h.2 c4
          refine lv_iload_n hx hb dX11_marks_95 rfl (lv_at hl 1 rfl) ?_
          rw [← hQ]
          exact cRetI (v := x1_) (rs2, ra2, ns_1, na_2) hx hb hr hlocks hS hP hD h dX11_marks_96
      have N42 : ∀ (x1_ : Int32) (ns : Nat → Int32) (na : Nat → Nat → Int32) (n42 : Nat) (x2_ : Int32) (ra2 : Nat → Nat → Int32) (H : Heap) (locs : List Loc) (ls : Array Slot), P_X11_marks_42 rs ra rs2 post (fun (x1_ : Int32) (ra2 : Nat → Nat → Int32) (ns : Nat → Int32) (na : Nat → Nat → Int32) => P_X11_marks_84 rs ra rs2 post (P_X11_marks_26 rs ra post  rs2 n26) x1_ ra2 ns na) x1_ ns na n42 x2_ ra2 → va_P D vwCl (List.flatten ([cLockRail L0 (aU 0) (aR 0) (aR2 0) h_images (aS 0) n0 y0 o0 C ] ++ (wReader aU C us ua ++ (wRail aR C rs ra ++ (wRail aR2 C rs2 ra2 ++ (wSlots aS C sa sl ++ (wNight n0 aN C ns na nl ++ ([cYear y0 y1 y2 C y_isThere y_taken y_took] ++ ([cOb o0 C o_of]))))))))) H → va_D A (List.flatten ([cLockRail L0 (aU 0) (aR 0) (aR2 0) h_images (aS 0) n0 y0 o0 C ] ++ (wReader aU C us ua ++ (wRail aR C rs ra ++ (wRail aR2 C rs2 ra2 ++ (wSlots aS C sa sl ++ (wNight n0 aN C ns na nl ++ ([cYear y0 y1 y2 C y_isThere y_taken y_took] ++ ([cOb o0 C o_of]))))))))) → va_S A s.heap H locs → lv_has ls 3 [(0, .ref L0), (1, .int x1_), (2, .int x2_)] → W p l e rmX11_marks s m args below meth c H locs 0 0 Q (F0 m 42 ls []) := by
        intro x1_ ns na
        intro n42
        induction n42 with
        | zero => intro x2_ ra2 H locs ls h hP hD hS hl; exact False.elim h
        | succ n42 ih42 =>
          intro x2_ ra2 H locs ls h hP hD hS hl
          refine lv_iload_n hx hb dX11_marks_42 rfl (lv_at hl 2 rfl) ?_
          refine lv_aload_n hx hb dX11_marks_43 rfl (lv_at hl 0 rfl) ?_
          refine va_get (D := D) (ci := 11) (v := .ref (aR2 0)) (C := RX11) (T := TX11) (N := 8) hx hb hw inW_X11 hown hK hP 0 rfl rfl 2 (by decide) (hw _ mw_2_145) (fun _ h9 => h9) rfl dX11_marks_44 ?_
          refine va_getN (D := D) (ci := 4) (v := .ref (aR2 7)) (C := RX4) (T := TX4) (N := 16) hx hb hw inW_X4 hown hK hP 26 rfl rfl 5 (by decide) hn97 (fun _ h9 => h9) rfl dX11_marks_47 ?_
          refine va_getN (D := D) (ci := 0) (v := .int (rs2 13)) (C := RX0) (T := TX0) (N := 6) hx hb hw inW_X0 hown hK hP 33 rfl rfl 0 (by decide) hn161 (fun _ h9 => h9) rfl dX11_marks_50 ?_
          refine lv_icmp_ge (tgt := 84) hx hb dX11_marks_53 (by decide) (fun c5 => ?_) (fun c5 => ?_)
          · have h := h.1 c5
            exact N84 x1_ ra2 ns na _ _ _ h hP hD hS (lv_sub hl [0, 1] rfl)
          · have h := h.2 c5
            refine lv_aload_n hx hb dX11_marks_56 rfl (lv_at hl 0 rfl) ?_
            refine va_get (D := D) (ci := 11) (v := .ref (aR2 0)) (C := RX11) (T := TX11) (N := 8) hx hb hw inW_X11 hown hK hP 0 rfl rfl 2 (by decide) (hw _ mw_2_145) (fun _ h9 => h9) rfl dX11_marks_57 ?_
            refine va_getN (D := D) (ci := 4) (v := .ref (aR2 7)) (C := RX4) (T := TX4) (N := 16) hx hb hw inW_X4 hown hK hP 26 rfl rfl 5 (by decide) hn97 (fun _ h9 => h9) rfl dX11_marks_60 ?_
            refine va_getN (D := D) (ci := 0) (v := .ref (aR2 12)) (C := RX0) (T := TX0) (N := 6) hx hb hw inW_X0 hown hK hP 33 rfl rfl 5 (by decide) hn116 (fun _ h9 => h9) rfl dX11_marks_63 ?_
            refine lv_iload_n hx hb dX11_marks_66 rfl (lv_at hl 2 rfl) ?_
            refine lv_iload_n hx hb dX11_marks_67 rfl (lv_at hl 2 rfl) ?_
            refine lv_iload_n hx hb dX11_marks_68 rfl (lv_at hl 1 rfl) ?_
            refine lv_icmp_ge (tgt := 76) hx hb dX11_marks_69 (by decide) (fun c6 => ?_) (fun c6 => ?_)
            · have h := h.1 c6
              refine lv_iconst (v := 0) hx hb dX11_marks_76 (by decide) ?_
              refine cZast hx hb hK hP hD hS 38 3 rfl rfl x2_.toNatClampNeg rfl h.1 (Or.inl rfl) dX11_marks_77 (fun H locs hP hD hS => ?_)
              have h := h.2
              refine lv_iinc (v := (x2_ + 1)) (lv' := [(2, .int (x2_ + 1)), (0, .ref L0), (1, .int x1_)]) hx hb dX11_marks_78 hl (k := 2) rfl rfl (by decide) rfl (fun ls hl => ?_)
              refine lv_goto (tgt := 42) hx hb dX11_marks_81 (by decide) ?_
              have hP : va_P D vwCl (List.flatten ([cLockRail L0 (aU 0) (aR 0) (aR2 0) h_images (aS 0) n0 y0 o0 C ] ++ (wReader aU C us ua ++ (wRail aR C rs ra ++ (wRail aR2 C rs2 (va_up ra2 8 (upd (ra2 8) x2_.toNatClampNeg 0)) ++ (wSlots aS C sa sl ++ (wNight n0 aN C ns na nl ++ ([cYear y0 y1 y2 C y_isThere y_taken y_took] ++ ([cOb o0 C o_of]))))))))) H := hP
              have hD : va_D A (List.flatten ([cLockRail L0 (aU 0) (aR 0) (aR2 0) h_images (aS 0) n0 y0 o0 C ] ++ (wReader aU C us ua ++ (wRail aR C rs ra ++ (wRail aR2 C rs2 (va_up ra2 8 (upd (ra2 8) x2_.toNatClampNeg 0)) ++ (wSlots aS C sa sl ++ (wNight n0 aN C ns na nl ++ ([cYear y0 y1 y2 C y_isThere y_taken y_took] ++ ([cOb o0 C o_of]))))))))) := hD
              exact ih42 (x2_ + 1) (va_up ra2 8 (upd (ra2 8) x2_.toNatClampNeg 0)) _ _ _ h hP hD hS (lv_sub hl [1, 2, 0] rfl)
            · have h := h.2 c6
              refine lv_iconst (v := 1) hx hb dX11_marks_72 (by decide) ?_
              refine lv_goto (tgt := 77) hx hb dX11_marks_73 (by decide) ?_
              refine cZast hx hb hK hP hD hS 38 3 rfl rfl x2_.toNatClampNeg rfl h.1 (Or.inr rfl) dX11_marks_77 (fun H locs hP hD hS => ?_)
              have h := h.2
              refine lv_iinc (v := (x2_ + 1)) (lv' := [(2, .int (x2_ + 1)), (0, .ref L0), (1, .int x1_)]) hx hb dX11_marks_78 hl (k := 2) rfl rfl (by decide) rfl (fun ls hl => ?_)
              refine lv_goto (tgt := 42) hx hb dX11_marks_81 (by decide) ?_
              have hP : va_P D vwCl (List.flatten ([cLockRail L0 (aU 0) (aR 0) (aR2 0) h_images (aS 0) n0 y0 o0 C ] ++ (wReader aU C us ua ++ (wRail aR C rs ra ++ (wRail aR2 C rs2 (va_up ra2 8 (upd (ra2 8) x2_.toNatClampNeg 1)) ++ (wSlots aS C sa sl ++ (wNight n0 aN C ns na nl ++ ([cYear y0 y1 y2 C y_isThere y_taken y_took] ++ ([cOb o0 C o_of]))))))))) H := hP
              have hD : va_D A (List.flatten ([cLockRail L0 (aU 0) (aR 0) (aR2 0) h_images (aS 0) n0 y0 o0 C ] ++ (wReader aU C us ua ++ (wRail aR C rs ra ++ (wRail aR2 C rs2 (va_up ra2 8 (upd (ra2 8) x2_.toNatClampNeg 1)) ++ (wSlots aS C sa sl ++ (wNight n0 aN C ns na nl ++ ([cYear y0 y1 y2 C y_isThere y_taken y_took] ++ ([cOb o0 C o_of]))))))))) := hD
              exact ih42 (x2_ + 1) (va_up ra2 8 (upd (ra2 8) x2_.toNatClampNeg 1)) _ _ _ h hP hD hS (lv_sub hl [1, 2, 0] rfl)
      intro x1_ ra2 ns na H locs ls h hP hD hS hl
      refine lv_iload_n hx hb dX11_marks_26 rfl (lv_at hl 1 rfl) ?_
      refine lv_aload_n hx hb dX11_marks_27 rfl (lv_at hl 0 rfl) ?_
      refine va_get (D := D) (ci := 11) (v := .ref (aR2 0)) (C := RX11) (T := TX11) (N := 8) hx hb hw inW_X11 hown hK hP 0 rfl rfl 2 (by decide) (hw _ mw_2_145) (fun _ h9 => h9) rfl dX11_marks_28 ?_
      refine va_getN (D := D) (ci := 4) (v := .ref (aR2 7)) (C := RX4) (T := TX4) (N := 16) hx hb hw inW_X4 hown hK hP 26 rfl rfl 5 (by decide) hn97 (fun _ h9 => h9) rfl dX11_marks_31 ?_
      refine va_getN (D := D) (ci := 0) (v := .int (rs2 13)) (C := RX0) (T := TX0) (N := 6) hx hb hw inW_X0 hown hK hP 33 rfl rfl 0 (by decide) hn161 (fun _ h9 => h9) rfl dX11_marks_34 ?_
      refine lv_icmp_gt (tgt := 103) hx hb dX11_marks_37 (by decide) (fun c7 => ?_) (fun c7 => ?_)
      · have h := h.1 c7
        refine lv_iconst (v := (-1)) hx hb dX11_marks_103 (by decide) ?_
        rw [← hQ]
        exact cRetI (v := (-1)) (rs2, ra2, ns, na) hx hb hr hlocks hS hP hD h dX11_marks_104
      · have h := h.2 c7
        refine lv_iconst (v := 0) hx hb dX11_marks_40 (by decide) ?_
        refine lv_istore_n (lv' := [(2, .int 0), (0, .ref L0), (1, .int x1_)]) hx hb dX11_marks_41 rfl hl (by decide) rfl (fun ls hl => ?_)
        obtain ⟨n, h⟩ := h
        exact N42 x1_ ns na n 0 ra2 _ _ _ h hP hD hS (lv_sub hl [1, 2, 0] rfl)
  refine lv_aload_n hx hb dX11_marks_0 rfl (lv_at hl 0 rfl) ?_
  refine va_get (D := D) (ci := 11) (v := .ref (aR 0)) (C := RX11) (T := TX11) (N := 8) hx hb hw inW_X11 hown hK hP 0 rfl rfl 1 (by decide) (hw _ mw_2_144) (fun _ h9 => h9) rfl dX11_marks_1 ?_
  refine cGoI (wo := fun u => [cLockRail L0 (aU 0) (aR 0) (aR2 0) h_images (aS 0) n0 y0 o0 C ] ++ (wReader aU C us ua ++ (wRail aR C rs ra ++ (wRail aR2 C rs2 ra2 ++ (wSlots aS C sa sl ++ (wNight n0 aN C ns na nl ++ ([cYear y0 y1 y2 C y_isThere y_taken y_took] ++ ([cOb o0 C o_of])))))))) (cRunVN (As := []) (rest := []) ⟨hx, hb, hml, hown, hw⟩ hK hN hP hD [3, 4, 5, 6, 7, 8] rfl rfl (k_X4_isTold l D C _ aR  rs ra  h) ⟨va_cnB 0 hw (goodN mw_4_19) rfl rfl rfl (hN.m 44 rfl) (hw _ mw_1_4) (by decide +kernel) ⟨Nat.le_of_ble_eq_true rfl, Nat.le_of_ble_eq_true rfl⟩, hw _ mw_4_18, hw _ mw_s47⟩ rfl rfl rfl hl.1 rfl (Nat.le_of_ble_eq_true rfl) dX11_marks_4 ⟨Nat.zero_le _, Nat.zero_le _⟩) hP hD hS hA [3, 4, 5, 6, 7, 8] [0, 1, 2, 9, 10, 11, 12, 13, 14, 15, 16, 17, 18, 19, 20] [0, 1, 2, 15, 16, 17, 18, 19, 20, 3, 4, 5, 6, 7, 8, 9, 10, 11, 12, 13, 14] rfl rfl rfl (by decide) rfl (fun _ => rfl) (fun r8 u H locs h hP hD hS => ?_)
  have hP : va_P D vwCl (List.flatten ([cLockRail L0 (aU 0) (aR 0) (aR2 0) h_images (aS 0) n0 y0 o0 C ] ++ (wReader aU C us ua ++ (wRail aR C rs ra ++ (wRail aR2 C rs2 ra2 ++ (wSlots aS C sa sl ++ (wNight n0 aN C ns na nl ++ ([cYear y0 y1 y2 C y_isThere y_taken y_took] ++ ([cOb o0 C o_of]))))))))) H := hP
  have hD : va_D A (List.flatten ([cLockRail L0 (aU 0) (aR 0) (aR2 0) h_images (aS 0) n0 y0 o0 C ] ++ (wReader aU C us ua ++ (wRail aR C rs ra ++ (wRail aR2 C rs2 ra2 ++ (wSlots aS C sa sl ++ (wNight n0 aN C ns na nl ++ ([cYear y0 y1 y2 C y_isThere y_taken y_took] ++ ([cOb o0 C o_of]))))))))) := hD
  refine lv_if_ne (tgt := 13) hx hb dX11_marks_7 (by decide) (fun c9 => ?_) (fun c9 => ?_)
  · have h := h.1 c9
    refine lv_aload_n hx hb dX11_marks_13 rfl (lv_at hl 0 rfl) ?_
    refine va_get (D := D) (ci := 11) (v := .ref (aR2 0)) (C := RX11) (T := TX11) (N := 8) hx hb hw inW_X11 hown hK hP 0 rfl rfl 2 (by decide) (hw _ mw_2_145) (fun _ h9 => h9) rfl dX11_marks_14 ?_
    refine lv_aload_n hx hb dX11_marks_17 rfl (lv_at hl 0 rfl) ?_
    refine va_get (D := D) (ci := 11) (v := .ref (aR 0)) (C := RX11) (T := TX11) (N := 8) hx hb hw inW_X11 hown hK hP 0 rfl rfl 1 (by decide) (hw _ mw_2_144) (fun _ h9 => h9) rfl dX11_marks_18 ?_
    refine cGoV (wo := fun u => [cLockRail L0 (aU 0) (aR 0) (aR2 0) h_images (aS 0) n0 y0 o0 C ] ++ (wReader aU C us ua ++ (wRail aR C rs ra ++ (wRail aR2 C u.1 u.2 ++ (wSlots aS C sa sl ++ (wNight n0 aN C ns na nl ++ ([cYear y0 y1 y2 C y_isThere y_taken y_took] ++ ([cOb o0 C o_of])))))))) (cRunVN (As := [.ref (aR 0)]) (rest := []) ⟨hx, hb, hml, hown, hw⟩ hK hN hP hD [9, 10, 11, 12, 13, 14, 3, 4, 5, 6, 7, 8] rfl rfl (k_X4_copyFrom l D C _ aR2 aR  rs2 ra2 rs ra  h) ⟨va_cnB 1 hw (goodN mw_3_126) rfl rfl rfl (hN.m 23 rfl) (hw _ mw_1_4) (by decide +kernel) ⟨Nat.le_of_ble_eq_true rfl, Nat.le_of_ble_eq_true rfl⟩, hw _ mw_3_125, hw _ mw_s26⟩ rfl rfl rfl hl.1 rfl (Nat.le_of_ble_eq_true rfl) dX11_marks_21 ⟨Nat.zero_le _, Nat.zero_le _⟩) hP hD hS hA [9, 10, 11, 12, 13, 14, 3, 4, 5, 6, 7, 8] [0, 1, 2, 15, 16, 17, 18, 19, 20] [0, 1, 2, 15, 16, 17, 18, 19, 20, 9, 10, 11, 12, 13, 14, 3, 4, 5, 6, 7, 8] rfl rfl rfl (by decide) rfl (fun _ => rfl) (fun u H locs h hP hD hS => ?_)
    obtain ⟨rs_10, ra_11⟩ := u
    have hP : va_P D vwCl (List.flatten ([cLockRail L0 (aU 0) (aR 0) (aR2 0) h_images (aS 0) n0 y0 o0 C ] ++ (wReader aU C us ua ++ (wRail aR C rs ra ++ (wRail aR2 C rs_10 ra_11 ++ (wSlots aS C sa sl ++ (wNight n0 aN C ns na nl ++ ([cYear y0 y1 y2 C y_isThere y_taken y_took] ++ ([cOb o0 C o_of]))))))))) H := hP
    have hD : va_D A (List.flatten ([cLockRail L0 (aU 0) (aR 0) (aR2 0) h_images (aS 0) n0 y0 o0 C ] ++ (wReader aU C us ua ++ (wRail aR C rs ra ++ (wRail aR2 C rs_10 ra_11 ++ (wSlots aS C sa sl ++ (wNight n0 aN C ns na nl ++ ([cYear y0 y1 y2 C y_isThere y_taken y_took] ++ ([cOb o0 C o_of]))))))))) := hD
    refine lv_iconst (v := 0) hx hb dX11_marks_24 (by decide) ?_
    refine lv_istore_n (lv' := [(1, .int 0), (0, .ref L0)]) hx hb dX11_marks_25 rfl hl (by decide) rfl (fun ls hl => ?_)
    obtain ⟨n, h⟩ := h
    exact N26 rs_10 n 0 ra_11 ns na _ _ _ h hP hD hS (lv_sub hl [1, 0] rfl)
  · have h := h.2 c9
    refine lv_bipush (v := (-2)) hx hb dX11_marks_10 (by decide) ?_
    rw [← hQ]
    exact cRetI (v := (-2)) (rs2, ra2, ns, na) hx hb hr hlocks hS hP hD h dX11_marks_12
abbrev vsX11_lossOn : List Cond := Cond.code yX11_lossOn cX11_lossOn 3 (some .long) :: WS
abbrev rmX11_lossOn : Room := { frames := 4, cells := 0, slots := 0, locals := 105 }
set_option maxHeartbeats 4000000 in
set_option maxRecDepth 100000 in
theorem k_X11_lossOn (l : Launch) (D : va_G) (C : Nat → ClassId) (sz : Nat) (L0 : Nat) (aR0 : Nat → Nat) (n0 : Nat) (aN : Nat → Nat) (h_reader : Nat) (h_rail : Nat) (h_trial : Nat) (h_images : Nat) (h_slots : Nat) (h_triedYear : Nat) (h_ofBikes : Nat) (rs0 : Nat → Int32) (ra0 : Nat → Nat → Int32) (ns : Nat → Int32) (na : Nat → Nat → Int32) (nl : Nat → Nat → Int64) (p2 : Int32) {post : Int64 → (Nat → Int32) → (Nat → Nat → Int32) → (Nat → Nat → Int64) → Prop} (h : P_X11_lossOn rs0 ra0 ns na nl p2 post) : Met l yX11_lossOn vsX11_lossOn rmX11_lossOn (cPre D C [.ref L0, .ref (aR0 0), .int p2] sz ([cLockRail L0 h_reader h_rail h_trial h_images h_slots n0 h_triedYear h_ofBikes C ] ++ (wRail aR0 C rs0 ra0 ++ (wNight n0 aN C ns na nl)))) (cQl D (fun (r : Int64) (u : (Nat → Nat) × (Nat → Int32) × (Nat → Nat → Int32) × (Nat → Nat → Int64)) => post r u.2.1 u.2.2.1 u.2.2.2) (fun u => [cLockRail L0 h_reader h_rail h_trial h_images h_slots n0 h_triedYear h_ofBikes C ] ++ (wRail aR0 C rs0 ra0 ++ (wNight n0 u.1 C u.2.1 u.2.2.1 u.2.2.2))) (va_A (List.flatten ([cLockRail L0 h_reader h_rail h_trial h_images h_slots n0 h_triedYear h_ofBikes C ] ++ (wRail aR0 C rs0 ra0 ++ (wNight n0 aN C ns na nl)))) sz)) 0 0 (va_A (List.flatten ([cLockRail L0 h_reader h_rail h_trial h_images h_slots n0 h_triedYear h_ofBikes C ] ++ (wRail aR0 C rs0 ra0 ++ (wNight n0 aN C ns na nl)))) sz) := by
  refine cStart (QA := fun A => cQl D (fun (r : Int64) (u : (Nat → Nat) × (Nat → Int32) × (Nat → Nat → Int32) × (Nat → Nat → Int64)) => post r u.2.1 u.2.2.1 u.2.2.2) (fun u => [cLockRail L0 h_reader h_rail h_trial h_images h_slots n0 h_triedYear h_ofBikes C ] ++ (wRail aR0 C rs0 ra0 ++ (wNight n0 u.1 C u.2.1 u.2.2.1 u.2.2.2))) A) (cc := cX11_lossOn) (maxL := 3) (ret := (some .long)) (by decide) (Nat.le_of_ble_eq_true rfl) ?_
  intro p e s m args below meth c A ls hx hb hr hml hown hw hlocks hname hK hN hA hP hD hS hl
  generalize hQ : MQ below _ args s 0 0 A = Q
  have hl : lv_has ls 3 [(0, .ref L0), (1, .ref (aR0 0)), (2, .int p2)] := hl
  obtain ⟨H, hH⟩ : ∃ H, H = s.heap := ⟨_, rfl⟩
  obtain ⟨locs, hlo⟩ : ∃ z : List Loc, z = [] := ⟨_, rfl⟩
  have hP : va_P D vwCl (List.flatten ([cLockRail L0 h_reader h_rail h_trial h_images h_slots n0 h_triedYear h_ofBikes C ] ++ (wRail aR0 C rs0 ra0 ++ (wNight n0 aN C ns na nl)))) H := by rw [hH]; exact hP
  have hS : va_S A s.heap H locs := by rw [hH, hlo]; exact hS
  rw [show W p l e rmX11_lossOn s m args below meth c s.heap [] 0 0 Q (F0 m 0 ls []) = W p l e rmX11_lossOn s m args below meth c H locs 0 0 Q (F0 m 0 ls []) from by rw [hH, hlo]]
  refine lv_aload_n hx hb dX11_lossOn_0 rfl (lv_at hl 0 rfl) ?_
  refine va_get (D := D) (ci := 11) (v := .ref n0) (C := RX11) (T := TX11) (N := 8) hx hb hw inW_X11 hown hK hP 0 rfl rfl 5 (by decide) (hw _ mw_2_148) (fun _ h9 => h9) rfl dX11_lossOn_1 ?_
  refine lv_aload_n hx hb dX11_lossOn_4 rfl (lv_at hl 1 rfl) ?_
  refine cGoV (wo := fun u => [cLockRail L0 h_reader h_rail h_trial h_images h_slots n0 h_triedYear h_ofBikes C ] ++ (wRail aR0 C rs0 ra0 ++ (wNight n0 u.1 C u.2.1 u.2.2.1 u.2.2.2))) (cRunVN (As := [.ref (aR0 0)]) (rest := []) ⟨hx, hb, hml, hown, hw⟩ hK hN hP hD [7, 8, 9, 1, 2, 3, 4, 5, 6] rfl rfl (k_X3_play l D C _ n0 aN aR0  ns na nl rs0 ra0  h) ⟨va_cnB 1 hw (goodN mw_4_24) rfl rfl rfl (hN.m 45 rfl) (hw _ mw_1_11) (by decide +kernel) ⟨Nat.le_of_ble_eq_true rfl, Nat.le_of_ble_eq_true rfl⟩, hw _ mw_4_23, hw _ mw_s48⟩ rfl rfl rfl hl.1 rfl (Nat.le_of_ble_eq_true rfl) dX11_lossOn_5 ⟨Nat.zero_le _, Nat.zero_le _⟩) hP hD hS hA [7, 8, 9, 1, 2, 3, 4, 5, 6] [0] [0, 4, 5, 6, 7, 8, 9, 1, 2, 3] rfl rfl rfl (by decide) rfl (fun _ => rfl) (fun u H locs h hP hD hS => ?_)
  obtain ⟨aN1, ns_2, na_3, nl_4⟩ := u
  have hP : va_P D vwCl (List.flatten ([cLockRail L0 h_reader h_rail h_trial h_images h_slots n0 h_triedYear h_ofBikes C ] ++ (wRail aR0 C rs0 ra0 ++ (wNight n0 aN1 C ns_2 na_3 nl_4)))) H := hP
  have hD : va_D A (List.flatten ([cLockRail L0 h_reader h_rail h_trial h_images h_slots n0 h_triedYear h_ofBikes C ] ++ (wRail aR0 C rs0 ra0 ++ (wNight n0 aN1 C ns_2 na_3 nl_4)))) := hD
  refine lv_aload_n hx hb dX11_lossOn_8 rfl (lv_at hl 0 rfl) ?_
  refine va_get (D := D) (ci := 11) (v := .ref n0) (C := RX11) (T := TX11) (N := 8) hx hb hw inW_X11 hown hK hP 0 rfl rfl 5 (by decide) (hw _ mw_2_148) (fun _ h9 => h9) rfl dX11_lossOn_9 ?_
  refine lv_aload_n hx hb dX11_lossOn_12 rfl (lv_at hl 1 rfl) ?_
  refine lv_iload_n hx hb dX11_lossOn_13 rfl (lv_at hl 2 rfl) ?_
  refine lv_iconst (v := 1) hx hb dX11_lossOn_14 (by decide) ?_
  refine cGoL (wo := fun u => [cLockRail L0 h_reader h_rail h_trial h_images h_slots n0 h_triedYear h_ofBikes C ] ++ (wRail aR0 C rs0 ra0 ++ (wNight n0 aN1 C ns_2 na_3 nl_4))) (cRunVN (As := [.ref (aR0 0), .int p2, .int 1]) (rest := []) ⟨hx, hb, hml, hown, hw⟩ hK hN hP hD [7, 8, 9, 1, 2, 3, 4, 5, 6] rfl rfl (k_X3_costOf l D C _ n0 aN1 aR0  ns_2 na_3 nl_4 rs0 ra0 p2 1 h) ⟨va_cnB 3 hw (goodN mw_4_104) rfl rfl rfl (hN.m 52 rfl) (hw _ mw_1_11) (by decide +kernel) ⟨Nat.le_of_ble_eq_true rfl, Nat.le_of_ble_eq_true rfl⟩, hw _ mw_4_103, hw _ mw_s59⟩ rfl rfl rfl hl.1 rfl (Nat.le_of_ble_eq_true rfl) dX11_lossOn_15 ⟨Nat.zero_le _, Nat.zero_le _⟩) hP hD hS hA [7, 8, 9, 1, 2, 3, 4, 5, 6] [0] [0, 4, 5, 6, 7, 8, 9, 1, 2, 3] rfl rfl rfl (by decide) rfl (fun _ => rfl) (fun r5 u H locs h hP hD hS => ?_)
  have hP : va_P D vwCl (List.flatten ([cLockRail L0 h_reader h_rail h_trial h_images h_slots n0 h_triedYear h_ofBikes C ] ++ (wRail aR0 C rs0 ra0 ++ (wNight n0 aN1 C ns_2 na_3 nl_4)))) H := hP
  have hD : va_D A (List.flatten ([cLockRail L0 h_reader h_rail h_trial h_images h_slots n0 h_triedYear h_ofBikes C ] ++ (wRail aR0 C rs0 ra0 ++ (wNight n0 aN1 C ns_2 na_3 nl_4)))) := hD
  rw [← hQ]
  exact cRetL (v := r5) (aN1, ns_2, na_3, nl_4) hx hb hr hlocks hS hP hD h dX11_lossOn_18
abbrev vsX11_hides : List Cond := Cond.code yX11_hides cX11_hides 4 (some .long) :: WS
abbrev rmX11_hides : Room := { frames := 5, cells := 0, slots := 0, locals := 127 }
set_option maxHeartbeats 4000000 in
set_option maxRecDepth 100000 in
theorem k_X11_hides (l : Launch) (D : va_G) (C : Nat → ClassId) (sz : Nat) (L0 : Nat) (aU : Nat → Nat) (aR : Nat → Nat) (aR2 : Nat → Nat) (aS : Nat → Nat) (n0 : Nat) (aN : Nat → Nat) (y0 : Nat) (y1 : Nat) (y2 : Nat) (o0 : Nat) (h_images : Nat) (us : Nat → Int32) (ua : Nat → Nat → Int32) (rs : Nat → Int32) (ra : Nat → Nat → Int32) (rs2 : Nat → Int32) (ra2 : Nat → Nat → Int32) (sa : Nat → Nat → Int32) (sl : Nat → Nat → Int64) (ns : Nat → Int32) (na : Nat → Nat → Int32) (nl : Nat → Nat → Int64) (y_isThere : Int32) (y_taken : Nat → Int32) (y_took : Nat → Int32) (o_of : Nat → Int64) (p1 : Int32) {post : Int64 → (Nat → Int32) → (Nat → Nat → Int32) → (Nat → Int32) → (Nat → Nat → Int32) → (Nat → Nat → Int64) → Prop} (h : P_X11_hides rs ra rs2 ra2 ns na nl p1 post) : Met l yX11_hides vsX11_hides rmX11_hides (cPre D C [.ref L0, .int p1] sz ([cLockRail L0 (aU 0) (aR 0) (aR2 0) h_images (aS 0) n0 y0 o0 C ] ++ (wReader aU C us ua ++ (wRail aR C rs ra ++ (wRail aR2 C rs2 ra2 ++ (wSlots aS C sa sl ++ (wNight n0 aN C ns na nl ++ ([cYear y0 y1 y2 C y_isThere y_taken y_took] ++ ([cOb o0 C o_of]))))))))) (cQl D (fun (r : Int64) (u : (Nat → Nat) × (Nat → Int32) × (Nat → Nat → Int32) × (Nat → Int32) × (Nat → Nat → Int32) × (Nat → Nat → Int64)) => post r u.2.1 u.2.2.1 u.2.2.2.1 u.2.2.2.2.1 u.2.2.2.2.2) (fun u => [cLockRail L0 (aU 0) (aR 0) (aR2 0) h_images (aS 0) n0 y0 o0 C ] ++ (wReader aU C us ua ++ (wRail aR C rs ra ++ (wRail aR2 C u.2.1 u.2.2.1 ++ (wSlots aS C sa sl ++ (wNight n0 u.1 C u.2.2.2.1 u.2.2.2.2.1 u.2.2.2.2.2 ++ ([cYear y0 y1 y2 C y_isThere y_taken y_took] ++ ([cOb o0 C o_of])))))))) (va_A (List.flatten ([cLockRail L0 (aU 0) (aR 0) (aR2 0) h_images (aS 0) n0 y0 o0 C ] ++ (wReader aU C us ua ++ (wRail aR C rs ra ++ (wRail aR2 C rs2 ra2 ++ (wSlots aS C sa sl ++ (wNight n0 aN C ns na nl ++ ([cYear y0 y1 y2 C y_isThere y_taken y_took] ++ ([cOb o0 C o_of]))))))))) sz)) 0 0 (va_A (List.flatten ([cLockRail L0 (aU 0) (aR 0) (aR2 0) h_images (aS 0) n0 y0 o0 C ] ++ (wReader aU C us ua ++ (wRail aR C rs ra ++ (wRail aR2 C rs2 ra2 ++ (wSlots aS C sa sl ++ (wNight n0 aN C ns na nl ++ ([cYear y0 y1 y2 C y_isThere y_taken y_took] ++ ([cOb o0 C o_of]))))))))) sz) := by
  refine cStart (QA := fun A => cQl D (fun (r : Int64) (u : (Nat → Nat) × (Nat → Int32) × (Nat → Nat → Int32) × (Nat → Int32) × (Nat → Nat → Int32) × (Nat → Nat → Int64)) => post r u.2.1 u.2.2.1 u.2.2.2.1 u.2.2.2.2.1 u.2.2.2.2.2) (fun u => [cLockRail L0 (aU 0) (aR 0) (aR2 0) h_images (aS 0) n0 y0 o0 C ] ++ (wReader aU C us ua ++ (wRail aR C rs ra ++ (wRail aR2 C u.2.1 u.2.2.1 ++ (wSlots aS C sa sl ++ (wNight n0 u.1 C u.2.2.2.1 u.2.2.2.2.1 u.2.2.2.2.2 ++ ([cYear y0 y1 y2 C y_isThere y_taken y_took] ++ ([cOb o0 C o_of])))))))) A) (cc := cX11_hides) (maxL := 4) (ret := (some .long)) (by decide) (Nat.le_of_ble_eq_true rfl) ?_
  intro p e s m args below meth c A ls hx hb hr hml hown hw hlocks hname hK hN hA hP hD hS hl
  generalize hQ : MQ below _ args s 0 0 A = Q
  have hl : lv_has ls 4 [(0, .ref L0), (1, .int p1)] := hl
  have hn97 : (Cond.fieldLinkNest "LockRail" 97 "LockRail$Rail" "bikes" "LLockRail$Bikes;" "LockRail").before args s = true := hN.f 61 rfl
  obtain ⟨H, hH⟩ : ∃ H, H = s.heap := ⟨_, rfl⟩
  obtain ⟨locs, hlo⟩ : ∃ z : List Loc, z = [] := ⟨_, rfl⟩
  have hP : va_P D vwCl (List.flatten ([cLockRail L0 (aU 0) (aR 0) (aR2 0) h_images (aS 0) n0 y0 o0 C ] ++ (wReader aU C us ua ++ (wRail aR C rs ra ++ (wRail aR2 C rs2 ra2 ++ (wSlots aS C sa sl ++ (wNight n0 aN C ns na nl ++ ([cYear y0 y1 y2 C y_isThere y_taken y_took] ++ ([cOb o0 C o_of]))))))))) H := by rw [hH]; exact hP
  have hS : va_S A s.heap H locs := by rw [hH, hlo]; exact hS
  rw [show W p l e rmX11_hides s m args below meth c s.heap [] 0 0 Q (F0 m 0 ls []) = W p l e rmX11_hides s m args below meth c H locs 0 0 Q (F0 m 0 ls []) from by rw [hH, hlo]]
  refine lv_aload_n hx hb dX11_hides_0 rfl (lv_at hl 0 rfl) ?_
  refine va_get (D := D) (ci := 11) (v := .ref (aR 0)) (C := RX11) (T := TX11) (N := 8) hx hb hw inW_X11 hown hK hP 0 rfl rfl 1 (by decide) (hw _ mw_2_144) (fun _ h9 => h9) rfl dX11_hides_1 ?_
  refine lv_iload_n hx hb dX11_hides_4 rfl (lv_at hl 1 rfl) ?_
  refine cGoI (wo := fun u => [cLockRail L0 (aU 0) (aR 0) (aR2 0) h_images (aS 0) n0 y0 o0 C ] ++ (wReader aU C us ua ++ (wRail aR C rs ra ++ (wRail aR2 C rs2 ra2 ++ (wSlots aS C sa sl ++ (wNight n0 aN C ns na nl ++ ([cYear y0 y1 y2 C y_isThere y_taken y_took] ++ ([cOb o0 C o_of])))))))) (cRunVN (As := [.int p1]) (rest := []) ⟨hx, hb, hml, hown, hw⟩ hK hN hP hD [3, 4, 5, 6, 7, 8] rfl rfl (k_X4_hasBike l D C _ aR  rs ra p1 h) ⟨va_cnB 1 hw (goodN mw_3_183) rfl rfl rfl (hN.m 31 rfl) (hw _ mw_1_4) (by decide +kernel) ⟨Nat.le_of_ble_eq_true rfl, Nat.le_of_ble_eq_true rfl⟩, hw _ mw_3_182, hw _ mw_s34⟩ rfl rfl rfl hl.1 rfl (Nat.le_of_ble_eq_true rfl) dX11_hides_5 ⟨Nat.zero_le _, Nat.zero_le _⟩) hP hD hS hA [3, 4, 5, 6, 7, 8] [0, 1, 2, 9, 10, 11, 12, 13, 14, 15, 16, 17, 18, 19, 20] [0, 1, 2, 15, 16, 17, 18, 19, 20, 3, 4, 5, 6, 7, 8, 9, 10, 11, 12, 13, 14] rfl rfl rfl (by decide) rfl (fun _ => rfl) (fun r1 u H locs h hP hD hS => ?_)
  have hP : va_P D vwCl (List.flatten ([cLockRail L0 (aU 0) (aR 0) (aR2 0) h_images (aS 0) n0 y0 o0 C ] ++ (wReader aU C us ua ++ (wRail aR C rs ra ++ (wRail aR2 C rs2 ra2 ++ (wSlots aS C sa sl ++ (wNight n0 aN C ns na nl ++ ([cYear y0 y1 y2 C y_isThere y_taken y_took] ++ ([cOb o0 C o_of]))))))))) H := hP
  have hD : va_D A (List.flatten ([cLockRail L0 (aU 0) (aR 0) (aR2 0) h_images (aS 0) n0 y0 o0 C ] ++ (wReader aU C us ua ++ (wRail aR C rs ra ++ (wRail aR2 C rs2 ra2 ++ (wSlots aS C sa sl ++ (wNight n0 aN C ns na nl ++ ([cYear y0 y1 y2 C y_isThere y_taken y_took] ++ ([cOb o0 C o_of]))))))))) := hD
  refine lv_if_ne (tgt := 15) hx hb dX11_hides_8 (by decide) (fun c2 => ?_) (fun c2 => ?_)
  · have h := h.1 c2
    refine lv_aload_n hx hb dX11_hides_15 rfl (lv_at hl 0 rfl) ?_
    refine va_get (D := D) (ci := 11) (v := .ref (aR2 0)) (C := RX11) (T := TX11) (N := 8) hx hb hw inW_X11 hown hK hP 0 rfl rfl 2 (by decide) (hw _ mw_2_145) (fun _ h9 => h9) rfl dX11_hides_16 ?_
    refine lv_aload_n hx hb dX11_hides_19 rfl (lv_at hl 0 rfl) ?_
    refine va_get (D := D) (ci := 11) (v := .ref (aR 0)) (C := RX11) (T := TX11) (N := 8) hx hb hw inW_X11 hown hK hP 0 rfl rfl 1 (by decide) (hw _ mw_2_144) (fun _ h9 => h9) rfl dX11_hides_20 ?_
    refine cGoV (wo := fun u => [cLockRail L0 (aU 0) (aR 0) (aR2 0) h_images (aS 0) n0 y0 o0 C ] ++ (wReader aU C us ua ++ (wRail aR C rs ra ++ (wRail aR2 C u.1 u.2 ++ (wSlots aS C sa sl ++ (wNight n0 aN C ns na nl ++ ([cYear y0 y1 y2 C y_isThere y_taken y_took] ++ ([cOb o0 C o_of])))))))) (cRunVN (As := [.ref (aR 0)]) (rest := []) ⟨hx, hb, hml, hown, hw⟩ hK hN hP hD [9, 10, 11, 12, 13, 14, 3, 4, 5, 6, 7, 8] rfl rfl (k_X4_copyFrom l D C _ aR2 aR  rs2 ra2 rs ra  h) ⟨va_cnB 1 hw (goodN mw_3_126) rfl rfl rfl (hN.m 23 rfl) (hw _ mw_1_4) (by decide +kernel) ⟨Nat.le_of_ble_eq_true rfl, Nat.le_of_ble_eq_true rfl⟩, hw _ mw_3_125, hw _ mw_s26⟩ rfl rfl rfl hl.1 rfl (Nat.le_of_ble_eq_true rfl) dX11_hides_23 ⟨Nat.zero_le _, Nat.zero_le _⟩) hP hD hS hA [9, 10, 11, 12, 13, 14, 3, 4, 5, 6, 7, 8] [0, 1, 2, 15, 16, 17, 18, 19, 20] [0, 1, 2, 15, 16, 17, 18, 19, 20, 9, 10, 11, 12, 13, 14, 3, 4, 5, 6, 7, 8] rfl rfl rfl (by decide) rfl (fun _ => rfl) (fun u H locs h hP hD hS => ?_)
    obtain ⟨rs_3, ra_4⟩ := u
    have hP : va_P D vwCl (List.flatten ([cLockRail L0 (aU 0) (aR 0) (aR2 0) h_images (aS 0) n0 y0 o0 C ] ++ (wReader aU C us ua ++ (wRail aR C rs ra ++ (wRail aR2 C rs_3 ra_4 ++ (wSlots aS C sa sl ++ (wNight n0 aN C ns na nl ++ ([cYear y0 y1 y2 C y_isThere y_taken y_took] ++ ([cOb o0 C o_of]))))))))) H := hP
    have hD : va_D A (List.flatten ([cLockRail L0 (aU 0) (aR 0) (aR2 0) h_images (aS 0) n0 y0 o0 C ] ++ (wReader aU C us ua ++ (wRail aR C rs ra ++ (wRail aR2 C rs_3 ra_4 ++ (wSlots aS C sa sl ++ (wNight n0 aN C ns na nl ++ ([cYear y0 y1 y2 C y_isThere y_taken y_took] ++ ([cOb o0 C o_of]))))))))) := hD
    refine lv_aload_n hx hb dX11_hides_26 rfl (lv_at hl 0 rfl) ?_
    refine va_get (D := D) (ci := 11) (v := .ref (aR2 0)) (C := RX11) (T := TX11) (N := 8) hx hb hw inW_X11 hown hK hP 0 rfl rfl 2 (by decide) (hw _ mw_2_145) (fun _ h9 => h9) rfl dX11_hides_27 ?_
    refine va_getN (D := D) (ci := 4) (v := .ref (aR2 7)) (C := RX4) (T := TX4) (N := 16) hx hb hw inW_X4 hown hK hP 26 rfl rfl 5 (by decide) hn97 (fun _ h9 => h9) rfl dX11_hides_30 ?_
    refine lv_iload_n hx hb dX11_hides_33 rfl (lv_at hl 1 rfl) ?_
    refine lv_iconst (v := 0) hx hb dX11_hides_34 (by decide) ?_
    refine cGoV (wo := fun u => [cLockRail L0 (aU 0) (aR 0) (aR2 0) h_images (aS 0) n0 y0 o0 C ] ++ (wReader aU C us ua ++ (wRail aR C rs ra ++ (wRail aR2 C rs_3 (va_up ra_4 8 u) ++ (wSlots aS C sa sl ++ (wNight n0 aN C ns na nl ++ ([cYear y0 y1 y2 C y_isThere y_taken y_took] ++ ([cOb o0 C o_of])))))))) (cRunVN (As := [.int p1, .int 0]) (rest := []) ⟨hx, hb, hml, hown, hw⟩ hK hN hP hD [12] rfl rfl (k_X0_markOthers l D C _ (aR2 7) (aR2 8) (aR2 9) (aR2 10) (aR2 11) (aR2 12)  (rs_3 13) (ra_4 4) (ra_4 5) (ra_4 6) (ra_4 7) (ra_4 8) p1 0 h) ⟨va_cnB 2 hw (goodN mw_5_60) rfl rfl rfl (hN.m 63 rfl) (hw _ mw_1_7) (by decide +kernel) ⟨Nat.le_of_ble_eq_true rfl, Nat.le_of_ble_eq_true rfl⟩, hw _ mw_5_59, hw _ mw_s79⟩ rfl rfl rfl hl.1 rfl (Nat.le_of_ble_eq_true rfl) dX11_hides_35 ⟨Nat.zero_le _, Nat.zero_le _⟩) hP hD hS hA [12] [0, 1, 2, 3, 4, 5, 6, 7, 8, 9, 10, 11, 13, 14, 15, 16, 17, 18, 19, 20] [0, 1, 2, 3, 4, 5, 6, 7, 8, 9, 10, 11, 20, 12, 13, 14, 15, 16, 17, 18, 19] rfl rfl rfl (by decide) rfl (fun _ => rfl) (fun mar_5 H locs h hP hD hS => ?_)
    have hP : va_P D vwCl (List.flatten ([cLockRail L0 (aU 0) (aR 0) (aR2 0) h_images (aS 0) n0 y0 o0 C ] ++ (wReader aU C us ua ++ (wRail aR C rs ra ++ (wRail aR2 C rs_3 (va_up ra_4 8 mar_5) ++ (wSlots aS C sa sl ++ (wNight n0 aN C ns na nl ++ ([cYear y0 y1 y2 C y_isThere y_taken y_took] ++ ([cOb o0 C o_of]))))))))) H := hP
    have hD : va_D A (List.flatten ([cLockRail L0 (aU 0) (aR 0) (aR2 0) h_images (aS 0) n0 y0 o0 C ] ++ (wReader aU C us ua ++ (wRail aR C rs ra ++ (wRail aR2 C rs_3 (va_up ra_4 8 mar_5) ++ (wSlots aS C sa sl ++ (wNight n0 aN C ns na nl ++ ([cYear y0 y1 y2 C y_isThere y_taken y_took] ++ ([cOb o0 C o_of]))))))))) := hD
    refine lv_aload_n hx hb dX11_hides_38 rfl (lv_at hl 0 rfl) ?_
    refine lv_aload_n hx hb dX11_hides_39 rfl (lv_at hl 0 rfl) ?_
    refine va_get (D := D) (ci := 11) (v := .ref (aR2 0)) (C := RX11) (T := TX11) (N := 8) hx hb hw inW_X11 hown hK hP 0 rfl rfl 2 (by decide) (hw _ mw_2_145) (fun _ h9 => h9) rfl dX11_hides_40 ?_
    refine lv_iload_n hx hb dX11_hides_43 rfl (lv_at hl 1 rfl) ?_
    refine cGoL (wo := fun u => [cLockRail L0 (aU 0) (aR 0) (aR2 0) h_images (aS 0) n0 y0 o0 C ] ++ (wReader aU C us ua ++ (wRail aR C rs ra ++ (wRail aR2 C rs_3 (va_up ra_4 8 mar_5) ++ (wSlots aS C sa sl ++ (wNight n0 u.1 C u.2.1 u.2.2.1 u.2.2.2 ++ ([cYear y0 y1 y2 C y_isThere y_taken y_took] ++ ([cOb o0 C o_of])))))))) (cRunV (As := [.ref (aR2 0), .int p1]) (rest := []) ⟨hx, hb, hml, hown, hw⟩ hK hN hP hD [0, 9, 10, 11, 12, 13, 14, 16, 17, 18] rfl rfl (k_X11_lossOn l D C _ L0 aR2 n0 aN (aU 0) (aR 0) (aR2 0) h_images (aS 0) y0 o0  rs_3 (va_up ra_4 8 mar_5) ns na nl p1 h) (cwV 2 hw (goodV mw_5_61 mw_5_63 mw_s80 mw_1_1 mw_5_64) rfl rfl rfl (by decide +kernel) ⟨Nat.le_of_ble_eq_true rfl, Nat.le_of_ble_eq_true rfl⟩) rfl rfl rfl hl.1 rfl (Nat.le_of_ble_eq_true rfl) dX11_hides_44 ⟨Nat.zero_le _, Nat.zero_le _⟩) hP hD hS hA [0, 9, 10, 11, 12, 13, 14, 16, 17, 18] [1, 2, 3, 4, 5, 6, 7, 8, 15, 19, 20] [11, 0, 1, 2, 3, 4, 5, 6, 7, 12, 13, 14, 15, 16, 17, 8, 18, 19, 20, 9, 10] rfl rfl rfl (by decide) rfl (fun _ => rfl) (fun r10 u H locs h hP hD hS => ?_)
    obtain ⟨aN6, ns_7, na_8, nl_9⟩ := u
    have hP : va_P D vwCl (List.flatten ([cLockRail L0 (aU 0) (aR 0) (aR2 0) h_images (aS 0) n0 y0 o0 C ] ++ (wReader aU C us ua ++ (wRail aR C rs ra ++ (wRail aR2 C rs_3 (va_up ra_4 8 mar_5) ++ (wSlots aS C sa sl ++ (wNight n0 aN6 C ns_7 na_8 nl_9 ++ ([cYear y0 y1 y2 C y_isThere y_taken y_took] ++ ([cOb o0 C o_of]))))))))) H := hP
    have hD : va_D A (List.flatten ([cLockRail L0 (aU 0) (aR 0) (aR2 0) h_images (aS 0) n0 y0 o0 C ] ++ (wReader aU C us ua ++ (wRail aR C rs ra ++ (wRail aR2 C rs_3 (va_up ra_4 8 mar_5) ++ (wSlots aS C sa sl ++ (wNight n0 aN6 C ns_7 na_8 nl_9 ++ ([cYear y0 y1 y2 C y_isThere y_taken y_took] ++ ([cOb o0 C o_of]))))))))) := hD
    refine lv_lstore_n (lv' := [(2, .long r10), (0, .ref L0), (1, .int p1)]) hx hb dX11_hides_47 rfl hl (by decide) rfl (fun ls hl => ?_)
    refine lv_aload_n hx hb dX11_hides_48 rfl (lv_at hl 1 rfl) ?_
    refine va_get (D := D) (ci := 11) (v := .ref (aR2 0)) (C := RX11) (T := TX11) (N := 8) hx hb hw inW_X11 hown hK hP 0 rfl rfl 2 (by decide) (hw _ mw_2_145) (fun _ h9 => h9) rfl dX11_hides_49 ?_
    refine va_getN (D := D) (ci := 4) (v := .ref (aR2 7)) (C := RX4) (T := TX4) (N := 16) hx hb hw inW_X4 hown hK hP 26 rfl rfl 5 (by decide) hn97 (fun _ h9 => h9) rfl dX11_hides_52 ?_
    refine lv_iload_n hx hb dX11_hides_55 rfl (lv_at hl 2 rfl) ?_
    refine lv_iconst (v := 1) hx hb dX11_hides_56 (by decide) ?_
    refine cGoV (wo := fun u => [cLockRail L0 (aU 0) (aR 0) (aR2 0) h_images (aS 0) n0 y0 o0 C ] ++ (wReader aU C us ua ++ (wRail aR C rs ra ++ (wRail aR2 C rs_3 (va_up ra_4 8 u) ++ (wSlots aS C sa sl ++ (wNight n0 aN6 C ns_7 na_8 nl_9 ++ ([cYear y0 y1 y2 C y_isThere y_taken y_took] ++ ([cOb o0 C o_of])))))))) (cRunVN (As := [.int p1, .int 1]) (rest := []) ⟨hx, hb, hml, hown, hw⟩ hK hN hP hD [12] rfl rfl (k_X0_markOthers l D C _ (aR2 7) (aR2 8) (aR2 9) (aR2 10) (aR2 11) (aR2 12)  (rs_3 13) (ra_4 4) (ra_4 5) (ra_4 6) (ra_4 7) mar_5 p1 1 h) ⟨va_cnB 2 hw (goodN mw_5_60) rfl rfl rfl (hN.m 63 rfl) (hw _ mw_1_7) (by decide +kernel) ⟨Nat.le_of_ble_eq_true rfl, Nat.le_of_ble_eq_true rfl⟩, hw _ mw_5_59, hw _ mw_s79⟩ rfl rfl rfl hl.1 rfl (Nat.le_of_ble_eq_true rfl) dX11_hides_57 ⟨Nat.zero_le _, Nat.zero_le _⟩) hP hD hS hA [12] [0, 1, 2, 3, 4, 5, 6, 7, 8, 9, 10, 11, 13, 14, 15, 16, 17, 18, 19, 20] [0, 1, 2, 3, 4, 5, 6, 7, 8, 9, 10, 11, 20, 12, 13, 14, 15, 16, 17, 18, 19] rfl rfl rfl (by decide) rfl (fun _ => rfl) (fun mar_11 H locs h hP hD hS => ?_)
    have hP : va_P D vwCl (List.flatten ([cLockRail L0 (aU 0) (aR 0) (aR2 0) h_images (aS 0) n0 y0 o0 C ] ++ (wReader aU C us ua ++ (wRail aR C rs ra ++ (wRail aR2 C rs_3 (va_up ra_4 8 mar_11) ++ (wSlots aS C sa sl ++ (wNight n0 aN6 C ns_7 na_8 nl_9 ++ ([cYear y0 y1 y2 C y_isThere y_taken y_took] ++ ([cOb o0 C o_of]))))))))) H := hP
    have hD : va_D A (List.flatten ([cLockRail L0 (aU 0) (aR 0) (aR2 0) h_images (aS 0) n0 y0 o0 C ] ++ (wReader aU C us ua ++ (wRail aR C rs ra ++ (wRail aR2 C rs_3 (va_up ra_4 8 mar_11) ++ (wSlots aS C sa sl ++ (wNight n0 aN6 C ns_7 na_8 nl_9 ++ ([cYear y0 y1 y2 C y_isThere y_taken y_took] ++ ([cOb o0 C o_of]))))))))) := hD
    refine lv_lload_n hx hb dX11_hides_60 rfl (lv_at hl 0 rfl) ?_
    refine lv_aload_n hx hb dX11_hides_61 rfl (lv_at hl 1 rfl) ?_
    refine lv_aload_n hx hb dX11_hides_62 rfl (lv_at hl 1 rfl) ?_
    refine va_get (D := D) (ci := 11) (v := .ref (aR2 0)) (C := RX11) (T := TX11) (N := 8) hx hb hw inW_X11 hown hK hP 0 rfl rfl 2 (by decide) (hw _ mw_2_145) (fun _ h9 => h9) rfl dX11_hides_63 ?_
    refine lv_iload_n hx hb dX11_hides_66 rfl (lv_at hl 2 rfl) ?_
    refine cGoL (wo := fun u => [cLockRail L0 (aU 0) (aR 0) (aR2 0) h_images (aS 0) n0 y0 o0 C ] ++ (wReader aU C us ua ++ (wRail aR C rs ra ++ (wRail aR2 C rs_3 (va_up ra_4 8 mar_11) ++ (wSlots aS C sa sl ++ (wNight n0 u.1 C u.2.1 u.2.2.1 u.2.2.2 ++ ([cYear y0 y1 y2 C y_isThere y_taken y_took] ++ ([cOb o0 C o_of])))))))) (cRunV (As := [.ref (aR2 0), .int p1]) (rest := [.long r10]) ⟨hx, hb, hml, hown, hw⟩ hK hN hP hD [0, 9, 10, 11, 12, 13, 14, 16, 17, 18] rfl rfl (k_X11_lossOn l D C _ L0 aR2 n0 aN6 (aU 0) (aR 0) (aR2 0) h_images (aS 0) y0 o0  rs_3 (va_up ra_4 8 mar_11) ns_7 na_8 nl_9 p1 h) (cwV 2 hw (goodV mw_5_61 mw_5_63 mw_s80 mw_1_1 mw_5_64) rfl rfl rfl (by decide +kernel) ⟨Nat.le_of_ble_eq_true rfl, Nat.le_of_ble_eq_true rfl⟩) rfl rfl rfl hl.1 rfl (Nat.le_of_ble_eq_true rfl) dX11_hides_67 ⟨Nat.zero_le _, Nat.zero_le _⟩) hP hD hS hA [0, 9, 10, 11, 12, 13, 14, 16, 17, 18] [1, 2, 3, 4, 5, 6, 7, 8, 15, 19, 20] [11, 0, 1, 2, 3, 4, 5, 6, 7, 12, 13, 14, 15, 16, 17, 8, 18, 19, 20, 9, 10] rfl rfl rfl (by decide) rfl (fun _ => rfl) (fun r16 u H locs h hP hD hS => ?_)
    obtain ⟨aN12, ns_13, na_14, nl_15⟩ := u
    have hP : va_P D vwCl (List.flatten ([cLockRail L0 (aU 0) (aR 0) (aR2 0) h_images (aS 0) n0 y0 o0 C ] ++ (wReader aU C us ua ++ (wRail aR C rs ra ++ (wRail aR2 C rs_3 (va_up ra_4 8 mar_11) ++ (wSlots aS C sa sl ++ (wNight n0 aN12 C ns_13 na_14 nl_15 ++ ([cYear y0 y1 y2 C y_isThere y_taken y_took] ++ ([cOb o0 C o_of]))))))))) H := hP
    have hD : va_D A (List.flatten ([cLockRail L0 (aU 0) (aR 0) (aR2 0) h_images (aS 0) n0 y0 o0 C ] ++ (wReader aU C us ua ++ (wRail aR C rs ra ++ (wRail aR2 C rs_3 (va_up ra_4 8 mar_11) ++ (wSlots aS C sa sl ++ (wNight n0 aN12 C ns_13 na_14 nl_15 ++ ([cYear y0 y1 y2 C y_isThere y_taken y_took] ++ ([cOb o0 C o_of]))))))))) := hD
    refine lv_lsub hx hb dX11_hides_70 ?_
    rw [← hQ]
    exact cRetL (v := (r10 - r16)) (aN12, rs_3, (va_up ra_4 8 mar_11), ns_13, na_14, nl_15) hx hb hr hlocks hS hP hD h dX11_hides_71
  · have h := h.2 c2
    refine lv_ldc2 (v := (-1000000000000)) hx hb hown (hw _ mw_4_222) dX11_hides_11 ?_
    rw [← hQ]
    exact cRetL (v := (-1000000000000)) (aN, rs2, ra2, ns, na, nl) hx hb hr hlocks hS hP hD h dX11_hides_14
abbrev vsX11_refusedBait : List Cond := Cond.code yX11_refusedBait cX11_refusedBait 4 (some .int) :: WS
abbrev rmX11_refusedBait : Room := { frames := 1, cells := 0, slots := 0, locals := 22 }
set_option maxHeartbeats 4000000 in
set_option maxRecDepth 100000 in
theorem k_X11_refusedBait (l : Launch) (D : va_G) (C : Nat → ClassId) (sz : Nat) (L0 : Nat) (aR : Nat → Nat) (h_reader : Nat) (h_trial : Nat) (h_images : Nat) (h_slots : Nat) (h_night : Nat) (h_triedYear : Nat) (h_ofBikes : Nat) (rs : Nat → Int32) (ra : Nat → Nat → Int32) (p1 : Int32) (p2 : Int32) (p3 : Int32) {post : Int32 → Prop} (h : P_X11_refusedBait rs ra p1 p2 p3 post) : Met l yX11_refusedBait vsX11_refusedBait rmX11_refusedBait (cPre D C [.ref L0, .int p1, .int p2, .int p3] sz ([cLockRail L0 h_reader (aR 0) h_trial h_images h_slots h_night h_triedYear h_ofBikes C ] ++ (wRail aR C rs ra))) (cQi D (fun (r : Int32) (u : Unit) => post r ) (fun u => [cLockRail L0 h_reader (aR 0) h_trial h_images h_slots h_night h_triedYear h_ofBikes C ] ++ (wRail aR C rs ra)) (va_A (List.flatten ([cLockRail L0 h_reader (aR 0) h_trial h_images h_slots h_night h_triedYear h_ofBikes C ] ++ (wRail aR C rs ra))) sz)) 0 0 (va_A (List.flatten ([cLockRail L0 h_reader (aR 0) h_trial h_images h_slots h_night h_triedYear h_ofBikes C ] ++ (wRail aR C rs ra))) sz) := by
  refine cStart (QA := fun A => cQi D (fun (r : Int32) (u : Unit) => post r ) (fun u => [cLockRail L0 h_reader (aR 0) h_trial h_images h_slots h_night h_triedYear h_ofBikes C ] ++ (wRail aR C rs ra)) A) (cc := cX11_refusedBait) (maxL := 4) (ret := (some .int)) (by decide) (Nat.le_of_ble_eq_true rfl) ?_
  intro p e s m args below meth c A ls hx hb hr hml hown hw hlocks hname hK hN hA hP hD hS hl
  generalize hQ : MQ below _ args s 0 0 A = Q
  have hl : lv_has ls 4 [(0, .ref L0), (1, .int p1), (2, .int p2), (3, .int p3)] := hl
  have hn97 : (Cond.fieldLinkNest "LockRail" 97 "LockRail$Rail" "bikes" "LLockRail$Bikes;" "LockRail").before args s = true := hN.f 61 rfl
  obtain ⟨H, hH⟩ : ∃ H, H = s.heap := ⟨_, rfl⟩
  obtain ⟨locs, hlo⟩ : ∃ z : List Loc, z = [] := ⟨_, rfl⟩
  have hP : va_P D vwCl (List.flatten ([cLockRail L0 h_reader (aR 0) h_trial h_images h_slots h_night h_triedYear h_ofBikes C ] ++ (wRail aR C rs ra))) H := by rw [hH]; exact hP
  have hS : va_S A s.heap H locs := by rw [hH, hlo]; exact hS
  rw [show W p l e rmX11_refusedBait s m args below meth c s.heap [] 0 0 Q (F0 m 0 ls []) = W p l e rmX11_refusedBait s m args below meth c H locs 0 0 Q (F0 m 0 ls []) from by rw [hH, hlo]]
  refine lv_aload_n hx hb dX11_refusedBait_0 rfl (lv_at hl 0 rfl) ?_
  refine va_get (D := D) (ci := 11) (v := .ref (aR 0)) (C := RX11) (T := TX11) (N := 8) hx hb hw inW_X11 hown hK hP 0 rfl rfl 1 (by decide) (hw _ mw_2_144) (fun _ h9 => h9) rfl dX11_refusedBait_1 ?_
  refine lv_iload_n hx hb dX11_refusedBait_4 rfl (lv_at hl 1 rfl) ?_
  refine cGoI (wo := fun u => [cLockRail L0 h_reader (aR 0) h_trial h_images h_slots h_night h_triedYear h_ofBikes C ] ++ (wRail aR C rs ra)) (cRunVN (As := [.int p1]) (rest := []) ⟨hx, hb, hml, hown, hw⟩ hK hN hP hD [1, 2, 3, 4, 5, 6] rfl rfl (k_X4_hasPlace l D C _ aR  rs ra p1 h) ⟨va_cnB 1 hw (goodN mw_3_165) rfl rfl rfl (hN.m 29 rfl) (hw _ mw_1_4) (by decide +kernel) ⟨Nat.le_of_ble_eq_true rfl, Nat.le_of_ble_eq_true rfl⟩, hw _ mw_3_164, hw _ mw_s32⟩ rfl rfl rfl hl.1 rfl (Nat.le_of_ble_eq_true rfl) dX11_refusedBait_5 ⟨Nat.zero_le _, Nat.zero_le _⟩) hP hD hS hA [1, 2, 3, 4, 5, 6] [0] [0, 1, 2, 3, 4, 5, 6] rfl rfl rfl (by decide) rfl (fun _ => rfl) (fun r1 u H locs h hP hD hS => ?_)
  have hP : va_P D vwCl (List.flatten ([cLockRail L0 h_reader (aR 0) h_trial h_images h_slots h_night h_triedYear h_ofBikes C ] ++ (wRail aR C rs ra))) H := hP
  have hD : va_D A (List.flatten ([cLockRail L0 h_reader (aR 0) h_trial h_images h_slots h_night h_triedYear h_ofBikes C ] ++ (wRail aR C rs ra))) := hD
  refine lv_if_eq (tgt := 32) hx hb dX11_refusedBait_8 (by decide) (fun c2 => ?_) (fun c2 => ?_)
  · have h := h.1 c2
    refine lv_bipush (v := (-2)) hx hb dX11_refusedBait_32 (by decide) ?_
    rw [← hQ]
    exact cRetI (v := (-2)) () hx hb hr hlocks hS hP hD h dX11_refusedBait_34
  · have h := h.2 c2
    refine lv_iload_n hx hb dX11_refusedBait_11 rfl (lv_at hl 2 rfl) ?_
    refine lv_if_lt (tgt := 32) hx hb dX11_refusedBait_12 (by decide) (fun c3 => ?_) (fun c3 => ?_)
    · have h := h.1 c3
      refine lv_bipush (v := (-2)) hx hb dX11_refusedBait_32 (by decide) ?_
      rw [← hQ]
      exact cRetI (v := (-2)) () hx hb hr hlocks hS hP hD h dX11_refusedBait_34
    · have h := h.2 c3
      refine lv_iload_n hx hb dX11_refusedBait_15 rfl (lv_at hl 2 rfl) ?_
      refine lv_sipush (v := 9999) hx hb dX11_refusedBait_16 (by decide) ?_
      refine lv_icmp_gt (tgt := 32) hx hb dX11_refusedBait_19 (by decide) (fun c4 => ?_) (fun c4 => ?_)
      · have h := h.1 c4
        refine lv_bipush (v := (-2)) hx hb dX11_refusedBait_32 (by decide) ?_
        rw [← hQ]
        exact cRetI (v := (-2)) () hx hb hr hlocks hS hP hD h dX11_refusedBait_34
      · have h := h.2 c4
        refine lv_iload_n hx hb dX11_refusedBait_22 rfl (lv_at hl 3 rfl) ?_
        refine lv_if_lt (tgt := 32) hx hb dX11_refusedBait_23 (by decide) (fun c5 => ?_) (fun c5 => ?_)
        · have h := h.1 c5
          refine lv_bipush (v := (-2)) hx hb dX11_refusedBait_32 (by decide) ?_
          rw [← hQ]
          exact cRetI (v := (-2)) () hx hb hr hlocks hS hP hD h dX11_refusedBait_34
        · have h := h.2 c5
          refine lv_iload_n hx hb dX11_refusedBait_26 rfl (lv_at hl 3 rfl) ?_
          refine lv_bipush (v := 100) hx hb dX11_refusedBait_27 (by decide) ?_
          refine lv_icmp_le (tgt := 35) hx hb dX11_refusedBait_29 (by decide) (fun c6 => ?_) (fun c6 => ?_)
          · have h := h.1 c6
            refine lv_aload_n hx hb dX11_refusedBait_35 rfl (lv_at hl 0 rfl) ?_
            refine va_get (D := D) (ci := 11) (v := .ref (aR 0)) (C := RX11) (T := TX11) (N := 8) hx hb hw inW_X11 hown hK hP 0 rfl rfl 1 (by decide) (hw _ mw_2_144) (fun _ h9 => h9) rfl dX11_refusedBait_36 ?_
            refine va_getN (D := D) (ci := 4) (v := .ref (aR 7)) (C := RX4) (T := TX4) (N := 16) hx hb hw inW_X4 hown hK hP 1 rfl rfl 5 (by decide) hn97 (fun _ h9 => h9) rfl dX11_refusedBait_39 ?_
            refine lv_iload_n hx hb dX11_refusedBait_42 rfl (lv_at hl 1 rfl) ?_
            refine cGoI (wo := fun u => [cLockRail L0 h_reader (aR 0) h_trial h_images h_slots h_night h_triedYear h_ofBikes C ] ++ (wRail aR C rs ra)) (cRunVN (As := [.int p1]) (rest := []) ⟨hx, hb, hml, hown, hw⟩ hK hN hP hD [4] rfl rfl (k_X0_standingAt l D C _ (aR 7) (aR 8) (aR 9) (aR 10) (aR 11) (aR 12)  (rs 13) (ra 4) (ra 5) (ra 6) (ra 7) (ra 8) p1 h) ⟨va_cnB 1 hw (goodN mw_3_80) rfl rfl rfl (hN.m 60 rfl) (hw _ mw_1_7) (by decide +kernel) ⟨Nat.le_of_ble_eq_true rfl, Nat.le_of_ble_eq_true rfl⟩, hw _ mw_3_79, hw _ mw_s18⟩ rfl rfl rfl hl.1 rfl (Nat.le_of_ble_eq_true rfl) dX11_refusedBait_43 ⟨Nat.zero_le _, Nat.zero_le _⟩) hP hD hS hA [4] [0, 1, 2, 3, 5, 6] [0, 1, 2, 3, 6, 4, 5] rfl rfl rfl (by decide) rfl (fun _ => rfl) (fun r7 u H locs h hP hD hS => ?_)
            have hP : va_P D vwCl (List.flatten ([cLockRail L0 h_reader (aR 0) h_trial h_images h_slots h_night h_triedYear h_ofBikes C ] ++ (wRail aR C rs ra))) H := hP
            have hD : va_D A (List.flatten ([cLockRail L0 h_reader (aR 0) h_trial h_images h_slots h_night h_triedYear h_ofBikes C ] ++ (wRail aR C rs ra))) := hD
            refine lv_iconst (v := (-1)) hx hb dX11_refusedBait_46 (by decide) ?_
            refine lv_icmp_ne (tgt := 54) hx hb dX11_refusedBait_47 (by decide) (fun c8 => ?_) (fun c8 => ?_)
            · have h := h.1 c8
              refine lv_bipush (v := (-5)) hx hb dX11_refusedBait_54 (by decide) ?_
              rw [← hQ]
              exact cRetI (v := (-5)) () hx hb hr hlocks hS hP hD h dX11_refusedBait_56
            · have h := h.2 c8
              refine lv_iconst (v := 0) hx hb dX11_refusedBait_50 (by decide) ?_
              refine lv_goto (tgt := 56) hx hb dX11_refusedBait_51 (by decide) ?_
              rw [← hQ]
              exact cRetI (v := 0) () hx hb hr hlocks hS hP hD h dX11_refusedBait_56
          · have h := h.2 c6
            refine lv_bipush (v := (-2)) hx hb dX11_refusedBait_32 (by decide) ?_
            rw [← hQ]
            exact cRetI (v := (-2)) () hx hb hr hlocks hS hP hD h dX11_refusedBait_34
abbrev vsX11_bait : List Cond := Cond.code yX11_bait cX11_bait 5 (some .long) :: WS
abbrev rmX11_bait : Room := { frames := 4, cells := 0, slots := 0, locals := 108 }
set_option maxHeartbeats 4000000 in
set_option maxRecDepth 100000 in
theorem k_X11_bait (l : Launch) (D : va_G) (C : Nat → ClassId) (sz : Nat) (L0 : Nat) (aU : Nat → Nat) (aR : Nat → Nat) (aR2 : Nat → Nat) (aS : Nat → Nat) (n0 : Nat) (aN : Nat → Nat) (y0 : Nat) (y1 : Nat) (y2 : Nat) (o0 : Nat) (h_images : Nat) (us : Nat → Int32) (ua : Nat → Nat → Int32) (rs : Nat → Int32) (ra : Nat → Nat → Int32) (rs2 : Nat → Int32) (ra2 : Nat → Nat → Int32) (sa : Nat → Nat → Int32) (sl : Nat → Nat → Int64) (ns : Nat → Int32) (na : Nat → Nat → Int32) (nl : Nat → Nat → Int64) (y_isThere : Int32) (y_taken : Nat → Int32) (y_took : Nat → Int32) (o_of : Nat → Int64) (p1 : Int32) (p2 : Int32) (p3 : Int32) {post : Int64 → (Nat → Int32) → (Nat → Nat → Int32) → (Nat → Nat → Int64) → Prop} (h : P_X11_bait rs ra ns na nl p1 p2 p3 post) : Met l yX11_bait vsX11_bait rmX11_bait (cPre D C [.ref L0, .int p1, .int p2, .int p3] sz ([cLockRail L0 (aU 0) (aR 0) (aR2 0) h_images (aS 0) n0 y0 o0 C ] ++ (wReader aU C us ua ++ (wRail aR C rs ra ++ (wRail aR2 C rs2 ra2 ++ (wSlots aS C sa sl ++ (wNight n0 aN C ns na nl ++ ([cYear y0 y1 y2 C y_isThere y_taken y_took] ++ ([cOb o0 C o_of]))))))))) (cQl D (fun (r : Int64) (u : (Nat → Nat) × (Nat → Int32) × (Nat → Nat → Int32) × (Nat → Nat → Int64)) => post r u.2.1 u.2.2.1 u.2.2.2) (fun u => [cLockRail L0 (aU 0) (aR 0) (aR2 0) h_images (aS 0) n0 y0 o0 C ] ++ (wReader aU C us ua ++ (wRail aR C rs ra ++ (wRail aR2 C rs2 ra2 ++ (wSlots aS C sa sl ++ (wNight n0 u.1 C u.2.1 u.2.2.1 u.2.2.2 ++ ([cYear y0 y1 y2 C y_isThere y_taken y_took] ++ ([cOb o0 C o_of])))))))) (va_A (List.flatten ([cLockRail L0 (aU 0) (aR 0) (aR2 0) h_images (aS 0) n0 y0 o0 C ] ++ (wReader aU C us ua ++ (wRail aR C rs ra ++ (wRail aR2 C rs2 ra2 ++ (wSlots aS C sa sl ++ (wNight n0 aN C ns na nl ++ ([cYear y0 y1 y2 C y_isThere y_taken y_took] ++ ([cOb o0 C o_of]))))))))) sz)) 0 0 (va_A (List.flatten ([cLockRail L0 (aU 0) (aR 0) (aR2 0) h_images (aS 0) n0 y0 o0 C ] ++ (wReader aU C us ua ++ (wRail aR C rs ra ++ (wRail aR2 C rs2 ra2 ++ (wSlots aS C sa sl ++ (wNight n0 aN C ns na nl ++ ([cYear y0 y1 y2 C y_isThere y_taken y_took] ++ ([cOb o0 C o_of]))))))))) sz) := by
  refine cStart (QA := fun A => cQl D (fun (r : Int64) (u : (Nat → Nat) × (Nat → Int32) × (Nat → Nat → Int32) × (Nat → Nat → Int64)) => post r u.2.1 u.2.2.1 u.2.2.2) (fun u => [cLockRail L0 (aU 0) (aR 0) (aR2 0) h_images (aS 0) n0 y0 o0 C ] ++ (wReader aU C us ua ++ (wRail aR C rs ra ++ (wRail aR2 C rs2 ra2 ++ (wSlots aS C sa sl ++ (wNight n0 u.1 C u.2.1 u.2.2.1 u.2.2.2 ++ ([cYear y0 y1 y2 C y_isThere y_taken y_took] ++ ([cOb o0 C o_of])))))))) A) (cc := cX11_bait) (maxL := 5) (ret := (some .long)) (by decide) (Nat.le_of_ble_eq_true rfl) ?_
  intro p e s m args below meth c A ls hx hb hr hml hown hw hlocks hname hK hN hA hP hD hS hl
  generalize hQ : MQ below _ args s 0 0 A = Q
  have hl : lv_has ls 5 [(0, .ref L0), (1, .int p1), (2, .int p2), (3, .int p3)] := hl
  obtain ⟨H, hH⟩ : ∃ H, H = s.heap := ⟨_, rfl⟩
  obtain ⟨locs, hlo⟩ : ∃ z : List Loc, z = [] := ⟨_, rfl⟩
  have hP : va_P D vwCl (List.flatten ([cLockRail L0 (aU 0) (aR 0) (aR2 0) h_images (aS 0) n0 y0 o0 C ] ++ (wReader aU C us ua ++ (wRail aR C rs ra ++ (wRail aR2 C rs2 ra2 ++ (wSlots aS C sa sl ++ (wNight n0 aN C ns na nl ++ ([cYear y0 y1 y2 C y_isThere y_taken y_took] ++ ([cOb o0 C o_of]))))))))) H := by rw [hH]; exact hP
  have hS : va_S A s.heap H locs := by rw [hH, hlo]; exact hS
  rw [show W p l e rmX11_bait s m args below meth c s.heap [] 0 0 Q (F0 m 0 ls []) = W p l e rmX11_bait s m args below meth c H locs 0 0 Q (F0 m 0 ls []) from by rw [hH, hlo]]
  refine lv_aload_n hx hb dX11_bait_0 rfl (lv_at hl 0 rfl) ?_
  refine lv_iload_n hx hb dX11_bait_1 rfl (lv_at hl 1 rfl) ?_
  refine lv_iload_n hx hb dX11_bait_2 rfl (lv_at hl 2 rfl) ?_
  refine lv_iload_n hx hb dX11_bait_3 rfl (lv_at hl 3 rfl) ?_
  refine cGoI (wo := fun u => [cLockRail L0 (aU 0) (aR 0) (aR2 0) h_images (aS 0) n0 y0 o0 C ] ++ (wReader aU C us ua ++ (wRail aR C rs ra ++ (wRail aR2 C rs2 ra2 ++ (wSlots aS C sa sl ++ (wNight n0 aN C ns na nl ++ ([cYear y0 y1 y2 C y_isThere y_taken y_took] ++ ([cOb o0 C o_of])))))))) (cRunV (As := [.int p1, .int p2, .int p3]) (rest := []) ⟨hx, hb, hml, hown, hw⟩ hK hN hP hD [0, 3, 4, 5, 6, 7, 8] rfl rfl (k_X11_refusedBait l D C _ L0 aR (aU 0) (aR2 0) h_images (aS 0) n0 y0 o0  rs ra p1 p2 p3 h) (cwV 3 hw (goodV mw_5_69 mw_5_71 mw_s81 mw_1_1 mw_5_72) rfl rfl rfl (by decide +kernel) ⟨Nat.le_of_ble_eq_true rfl, Nat.le_of_ble_eq_true rfl⟩) rfl rfl rfl hl.1 rfl (Nat.le_of_ble_eq_true rfl) dX11_bait_4 ⟨Nat.zero_le _, Nat.zero_le _⟩) hP hD hS hA [0, 3, 4, 5, 6, 7, 8] [1, 2, 9, 10, 11, 12, 13, 14, 15, 16, 17, 18, 19, 20] [14, 0, 1, 15, 16, 17, 18, 19, 20, 2, 3, 4, 5, 6, 7, 8, 9, 10, 11, 12, 13] rfl rfl rfl (by decide) rfl (fun _ => rfl) (fun r1 u H locs h hP hD hS => ?_)
  have hP : va_P D vwCl (List.flatten ([cLockRail L0 (aU 0) (aR 0) (aR2 0) h_images (aS 0) n0 y0 o0 C ] ++ (wReader aU C us ua ++ (wRail aR C rs ra ++ (wRail aR2 C rs2 ra2 ++ (wSlots aS C sa sl ++ (wNight n0 aN C ns na nl ++ ([cYear y0 y1 y2 C y_isThere y_taken y_took] ++ ([cOb o0 C o_of]))))))))) H := hP
  have hD : va_D A (List.flatten ([cLockRail L0 (aU 0) (aR 0) (aR2 0) h_images (aS 0) n0 y0 o0 C ] ++ (wReader aU C us ua ++ (wRail aR C rs ra ++ (wRail aR2 C rs2 ra2 ++ (wSlots aS C sa sl ++ (wNight n0 aN C ns na nl ++ ([cYear y0 y1 y2 C y_isThere y_taken y_took] ++ ([cOb o0 C o_of]))))))))) := hD
  refine lv_istore (lv' := [(4, .int r1), (0, .ref L0), (1, .int p1), (2, .int p2), (3, .int p3)]) hx hb dX11_bait_7 hl (by decide) rfl (fun ls hl => ?_)
  refine lv_iload hx hb dX11_bait_9 (lv_at hl 0 rfl) ?_
  refine lv_if_eq (tgt := 18) hx hb dX11_bait_11 (by decide) (fun c2 => ?_) (fun c2 => ?_)
  · have h := h.1 c2
    refine lv_aload_n hx hb dX11_bait_18 rfl (lv_at hl 1 rfl) ?_
    refine va_get (D := D) (ci := 11) (v := .ref n0) (C := RX11) (T := TX11) (N := 8) hx hb hw inW_X11 hown hK hP 0 rfl rfl 5 (by decide) (hw _ mw_2_148) (fun _ h9 => h9) rfl dX11_bait_19 ?_
    refine lv_aload_n hx hb dX11_bait_22 rfl (lv_at hl 1 rfl) ?_
    refine va_get (D := D) (ci := 11) (v := .ref (aR 0)) (C := RX11) (T := TX11) (N := 8) hx hb hw inW_X11 hown hK hP 0 rfl rfl 1 (by decide) (hw _ mw_2_144) (fun _ h9 => h9) rfl dX11_bait_23 ?_
    refine lv_iload_n hx hb dX11_bait_26 rfl (lv_at hl 3 rfl) ?_
    refine lv_iload_n hx hb dX11_bait_27 rfl (lv_at hl 4 rfl) ?_
    refine cGoV (wo := fun u => [cLockRail L0 (aU 0) (aR 0) (aR2 0) h_images (aS 0) n0 y0 o0 C ] ++ (wReader aU C us ua ++ (wRail aR C rs ra ++ (wRail aR2 C rs2 ra2 ++ (wSlots aS C sa sl ++ (wNight n0 u.1 C u.2.1 u.2.2.1 u.2.2.2 ++ ([cYear y0 y1 y2 C y_isThere y_taken y_took] ++ ([cOb o0 C o_of])))))))) (cRunVN (As := [.ref (aR 0), .int p2, .int p3]) (rest := []) ⟨hx, hb, hml, hown, hw⟩ hK hN hP hD [16, 17, 18, 3, 4, 5, 6, 7, 8] rfl rfl (k_X3_playBaited l D C _ n0 aN aR  ns na nl rs ra p2 p3 h) ⟨va_cnB 3 hw (goodN mw_5_76) rfl rfl rfl (hN.m 64 rfl) (hw _ mw_1_11) (by decide +kernel) ⟨Nat.le_of_ble_eq_true rfl, Nat.le_of_ble_eq_true rfl⟩, hw _ mw_5_75, hw _ mw_s82⟩ rfl rfl rfl hl.1 rfl (Nat.le_of_ble_eq_true rfl) dX11_bait_28 ⟨Nat.zero_le _, Nat.zero_le _⟩) hP hD hS hA [16, 17, 18, 3, 4, 5, 6, 7, 8] [0, 1, 2, 9, 10, 11, 12, 13, 14, 15, 19, 20] [0, 1, 2, 15, 16, 17, 18, 19, 20, 3, 4, 5, 6, 7, 8, 9, 12, 13, 14, 10, 11] rfl rfl rfl (by decide) rfl (fun _ => rfl) (fun u H locs h hP hD hS => ?_)
    obtain ⟨aN3, ns_4, na_5, nl_6⟩ := u
    have hP : va_P D vwCl (List.flatten ([cLockRail L0 (aU 0) (aR 0) (aR2 0) h_images (aS 0) n0 y0 o0 C ] ++ (wReader aU C us ua ++ (wRail aR C rs ra ++ (wRail aR2 C rs2 ra2 ++ (wSlots aS C sa sl ++ (wNight n0 aN3 C ns_4 na_5 nl_6 ++ ([cYear y0 y1 y2 C y_isThere y_taken y_took] ++ ([cOb o0 C o_of]))))))))) H := hP
    have hD : va_D A (List.flatten ([cLockRail L0 (aU 0) (aR 0) (aR2 0) h_images (aS 0) n0 y0 o0 C ] ++ (wReader aU C us ua ++ (wRail aR C rs ra ++ (wRail aR2 C rs2 ra2 ++ (wSlots aS C sa sl ++ (wNight n0 aN3 C ns_4 na_5 nl_6 ++ ([cYear y0 y1 y2 C y_isThere y_taken y_took] ++ ([cOb o0 C o_of]))))))))) := hD
    refine lv_aload_n hx hb dX11_bait_31 rfl (lv_at hl 1 rfl) ?_
    refine va_get (D := D) (ci := 11) (v := .ref n0) (C := RX11) (T := TX11) (N := 8) hx hb hw inW_X11 hown hK hP 0 rfl rfl 5 (by decide) (hw _ mw_2_148) (fun _ h9 => h9) rfl dX11_bait_32 ?_
    refine lv_aload_n hx hb dX11_bait_35 rfl (lv_at hl 1 rfl) ?_
    refine va_get (D := D) (ci := 11) (v := .ref (aR 0)) (C := RX11) (T := TX11) (N := 8) hx hb hw inW_X11 hown hK hP 0 rfl rfl 1 (by decide) (hw _ mw_2_144) (fun _ h9 => h9) rfl dX11_bait_36 ?_
    refine cGoL (wo := fun u => [cLockRail L0 (aU 0) (aR 0) (aR2 0) h_images (aS 0) n0 y0 o0 C ] ++ (wReader aU C us ua ++ (wRail aR C rs ra ++ (wRail aR2 C rs2 ra2 ++ (wSlots aS C sa sl ++ (wNight n0 aN3 C ns_4 na_5 nl_6 ++ ([cYear y0 y1 y2 C y_isThere y_taken y_took] ++ ([cOb o0 C o_of])))))))) (cRunVN (As := [.ref (aR 0)]) (rest := []) ⟨hx, hb, hml, hown, hw⟩ hK hN hP hD [16, 17, 18, 3, 4, 5, 6, 7, 8] rfl rfl (k_X3_baitedLoss l D C _ n0 aN3 aR  ns_4 na_5 nl_6 rs ra  h) ⟨va_cnB 1 hw (goodN mw_5_84) rfl rfl rfl (hN.m 65 rfl) (hw _ mw_1_11) (by decide +kernel) ⟨Nat.le_of_ble_eq_true rfl, Nat.le_of_ble_eq_true rfl⟩, hw _ mw_5_83, hw _ mw_s84⟩ rfl rfl rfl hl.1 rfl (Nat.le_of_ble_eq_true rfl) dX11_bait_39 ⟨Nat.zero_le _, Nat.zero_le _⟩) hP hD hS hA [16, 17, 18, 3, 4, 5, 6, 7, 8] [0, 1, 2, 9, 10, 11, 12, 13, 14, 15, 19, 20] [0, 1, 2, 15, 16, 17, 18, 19, 20, 3, 4, 5, 6, 7, 8, 9, 12, 13, 14, 10, 11] rfl rfl rfl (by decide) rfl (fun _ => rfl) (fun r7 u H locs h hP hD hS => ?_)
    have hP : va_P D vwCl (List.flatten ([cLockRail L0 (aU 0) (aR 0) (aR2 0) h_images (aS 0) n0 y0 o0 C ] ++ (wReader aU C us ua ++ (wRail aR C rs ra ++ (wRail aR2 C rs2 ra2 ++ (wSlots aS C sa sl ++ (wNight n0 aN3 C ns_4 na_5 nl_6 ++ ([cYear y0 y1 y2 C y_isThere y_taken y_took] ++ ([cOb o0 C o_of]))))))))) H := hP
    have hD : va_D A (List.flatten ([cLockRail L0 (aU 0) (aR 0) (aR2 0) h_images (aS 0) n0 y0 o0 C ] ++ (wReader aU C us ua ++ (wRail aR C rs ra ++ (wRail aR2 C rs2 ra2 ++ (wSlots aS C sa sl ++ (wNight n0 aN3 C ns_4 na_5 nl_6 ++ ([cYear y0 y1 y2 C y_isThere y_taken y_took] ++ ([cOb o0 C o_of]))))))))) := hD
    rw [← hQ]
    exact cRetL (v := r7) (aN3, ns_4, na_5, nl_6) hx hb hr hlocks hS hP hD h dX11_bait_42
  · have h := h.2 c2
    refine lv_iload hx hb dX11_bait_14 (lv_at hl 0 rfl) ?_
    refine lv_i2l hx hb dX11_bait_16 rfl ?_
    rw [← hQ]
    exact cRetL (v := r1.toInt64) (aN, ns, na, nl) hx hb hr hlocks hS hP hD h dX11_bait_17
