abbrev vsX12_taken : List Cond := Cond.code yX12_taken cX12_taken 2 (some .int) :: WS
abbrev rmX12_taken : Room := { frames := 2, cells := 0, slots := 0, locals := 46 }
set_option maxHeartbeats 4000000 in
set_option maxRecDepth 100000 in
theorem k_X12_taken (l : Launch) (D : va_G) (C : Nat → ClassId) (sz : Nat) (aM : Nat → Nat)  (ms : Nat → Int32) (mw : Nat → Int64) (ma : Nat → Nat → Int32) (ml : Nat → Nat → Int64) (p1 : Int32) {post : Int32 → (Nat → Int32) → Prop} (h : P_X12_taken ms ma p1 post) : Met l yX12_taken vsX12_taken rmX12_taken (cPre D C [.ref (aM 0), .int p1] sz (wM aM C ms mw ma ml)) (cQi D (fun (r : Int32) (u : (Nat → Int32)) => post r u) (fun u => wM aM C u mw ma ml) (va_A (List.flatten (wM aM C ms mw ma ml)) sz)) 0 0 (va_A (List.flatten (wM aM C ms mw ma ml)) sz) := by
  refine cStart (QA := fun A => cQi D (fun (r : Int32) (u : (Nat → Int32)) => post r u) (fun u => wM aM C u mw ma ml) A) (cc := cX12_taken) (maxL := 2) (ret := (some .int)) (by decide) (Nat.le_of_ble_eq_true rfl) ?_
  intro p e s m args below meth c A ls hx hb hr hml hown hw hlocks hname hK hN hA hP hD hS hl
  generalize hQ : MQ below _ args s 0 0 A = Q
  have hl : lv_has ls 2 [(0, .ref (aM 0)), (1, .int p1)] := hl
  obtain ⟨H, hH⟩ : ∃ H, H = s.heap := ⟨_, rfl⟩
  obtain ⟨locs, hlo⟩ : ∃ z : List Loc, z = [] := ⟨_, rfl⟩
  have hP : va_P D vwCl (List.flatten (wM aM C ms mw ma ml)) H := by rw [hH]; exact hP
  have hS : va_S A s.heap H locs := by rw [hH, hlo]; exact hS
  rw [show W p l e rmX12_taken s m args below meth c s.heap [] 0 0 Q (F0 m 0 ls []) = W p l e rmX12_taken s m args below meth c H locs 0 0 Q (F0 m 0 ls []) from by rw [hH, hlo]]
  refine lv_aload_n hx hb dX12_taken_0 rfl (lv_at hl 0 rfl) ?_
  refine lv_iconst (v := 0) hx hb dX12_taken_1 (by decide) ?_
  refine va_put (D := D) (ci := 12) (v := .int 0) (ty := .int) (C := RX12) (T := TX12) (N := 51) hx hb hw inW_X12 tyX12 tyX12_ok nmX12 hown hK hP hD hS 0 rfl rfl 0 (by decide) (hw _ mw_6_43) (fun _ h9 => h9) rfl (by decide +kernel) rfl rfl (Nat.le_of_ble_eq_true rfl) dX12_taken_2 (fun H locs hP hD hS => ?_)
  refine lv_aload_n hx hb dX12_taken_5 rfl (lv_at hl 0 rfl) ?_
  refine lv_iload_n hx hb dX12_taken_6 rfl (lv_at hl 1 rfl) ?_
  have hP : va_P D vwCl (List.flatten (wM aM C (va_up ms 0 0) mw ma ml)) H := hP
  have hD : va_D A (List.flatten (wM aM C (va_up ms 0 0) mw ma ml)) := hD
  refine cGoI (wo := fun u => wM aM C (va_up ms 0 0) mw ma ml) (cRunV (As := [.int p1]) (rest := []) ⟨hx, hb, hml, hown, hw⟩ hK hN hP hD [0, 1, 2, 3, 4, 5, 6, 7, 8, 9, 10, 11, 12, 13, 14, 15, 16, 17, 18, 19, 20, 21, 22, 23, 24, 25, 26, 27, 28, 29, 30, 31, 32] rfl rfl (k_X12_isBike l D C _ aM  (va_up ms 0 0) mw ma ml p1 h) (cwV 1 hw (goodV mw_7_143 mw_7_145 mw_s133 mw_1_13 mw_7_146) rfl rfl rfl (by decide +kernel) ⟨Nat.le_of_ble_eq_true rfl, Nat.le_of_ble_eq_true rfl⟩) rfl rfl rfl hl.1 rfl (Nat.le_of_ble_eq_true rfl) dX12_taken_7 ⟨Nat.zero_le _, Nat.zero_le _⟩) hP hD hS hA [0, 1, 2, 3, 4, 5, 6, 7, 8, 9, 10, 11, 12, 13, 14, 15, 16, 17, 18, 19, 20, 21, 22, 23, 24, 25, 26, 27, 28, 29, 30, 31, 32] [] [0, 1, 2, 3, 4, 5, 6, 7, 8, 9, 10, 11, 12, 13, 14, 15, 16, 17, 18, 19, 20, 21, 22, 23, 24, 25, 26, 27, 28, 29, 30, 31, 32] rfl rfl rfl (by decide) rfl (fun _ => rfl) (fun r1 u H locs h hP hD hS => ?_)
  have hP : va_P D vwCl (List.flatten (wM aM C (va_up ms 0 0) mw ma ml)) H := hP
  have hD : va_D A (List.flatten (wM aM C (va_up ms 0 0) mw ma ml)) := hD
  refine lv_if_ne (tgt := 18) hx hb dX12_taken_10 (by decide) (fun c2 => ?_) (fun c2 => ?_)
  · have h := h.1 c2
    refine lv_aload_n hx hb dX12_taken_18 rfl (lv_at hl 0 rfl) ?_
    refine va_get (D := D) (ci := 12) (v := .ref (aM 19)) (C := RX12) (T := TX12) (N := 51) hx hb hw inW_X12 hown hK hP 0 rfl rfl 29 (by decide) (hw _ mw_6_72) (fun _ h9 => h9) rfl dX12_taken_19 ?_
    refine lv_iconst (v := 0) hx hb dX12_taken_22 (by decide) ?_
    refine cIald hx hb hK hP 19 0 rfl rfl 0 (by decide +kernel) (cIn (by decide +kernel)) dX12_taken_23 ?_
    refine lv_if_ne (tgt := 31) hx hb dX12_taken_24 (by decide) (fun c3 => ?_) (fun c3 => ?_)
    · have h := h.1 c3
      refine lv_aload_n hx hb dX12_taken_31 rfl (lv_at hl 0 rfl) ?_
      refine va_get (D := D) (ci := 12) (v := .ref (aM 19)) (C := RX12) (T := TX12) (N := 51) hx hb hw inW_X12 hown hK hP 0 rfl rfl 29 (by decide) (hw _ mw_6_72) (fun _ h9 => h9) rfl dX12_taken_32 ?_
      refine lv_iconst (v := 1) hx hb dX12_taken_35 (by decide) ?_
      refine lv_iload_n hx hb dX12_taken_36 rfl (lv_at hl 1 rfl) ?_
      refine lv_iadd hx hb dX12_taken_37 ?_
      refine cIald hx hb hK hP 19 0 rfl rfl ((1 + p1).toNatClampNeg) rfl h.1 dX12_taken_38 ?_
      have h := h.2
      rw [← hQ]
      exact cRetI (v := (ma 16 ((1 + p1).toNatClampNeg))) ((va_up ms 0 0)) hx hb hr hlocks hS hP hD h dX12_taken_39
    · have h := h.2 c3
      refine lv_iconst (v := (-1)) hx hb dX12_taken_27 (by decide) ?_
      refine lv_goto (tgt := 39) hx hb dX12_taken_28 (by decide) ?_
      rw [← hQ]
      exact cRetI (v := (-1)) ((va_up ms 0 0)) hx hb hr hlocks hS hP hD h dX12_taken_39
  · have h := h.2 c2
    refine lv_bipush (v := (-2)) hx hb dX12_taken_13 (by decide) ?_
    refine lv_goto (tgt := 39) hx hb dX12_taken_15 (by decide) ?_
    rw [← hQ]
    exact cRetI (v := (-2)) ((va_up ms 0 0)) hx hb hr hlocks hS hP hD h dX12_taken_39
abbrev vsX12_took : List Cond := Cond.code yX12_took cX12_took 2 (some .int) :: WS
abbrev rmX12_took : Room := { frames := 2, cells := 0, slots := 0, locals := 46 }
set_option maxHeartbeats 4000000 in
set_option maxRecDepth 100000 in
theorem k_X12_took (l : Launch) (D : va_G) (C : Nat → ClassId) (sz : Nat) (aM : Nat → Nat)  (ms : Nat → Int32) (mw : Nat → Int64) (ma : Nat → Nat → Int32) (ml : Nat → Nat → Int64) (p1 : Int32) {post : Int32 → (Nat → Int32) → Prop} (h : P_X12_took ms ma p1 post) : Met l yX12_took vsX12_took rmX12_took (cPre D C [.ref (aM 0), .int p1] sz (wM aM C ms mw ma ml)) (cQi D (fun (r : Int32) (u : (Nat → Int32)) => post r u) (fun u => wM aM C u mw ma ml) (va_A (List.flatten (wM aM C ms mw ma ml)) sz)) 0 0 (va_A (List.flatten (wM aM C ms mw ma ml)) sz) := by
  refine cStart (QA := fun A => cQi D (fun (r : Int32) (u : (Nat → Int32)) => post r u) (fun u => wM aM C u mw ma ml) A) (cc := cX12_took) (maxL := 2) (ret := (some .int)) (by decide) (Nat.le_of_ble_eq_true rfl) ?_
  intro p e s m args below meth c A ls hx hb hr hml hown hw hlocks hname hK hN hA hP hD hS hl
  generalize hQ : MQ below _ args s 0 0 A = Q
  have hl : lv_has ls 2 [(0, .ref (aM 0)), (1, .int p1)] := hl
  obtain ⟨H, hH⟩ : ∃ H, H = s.heap := ⟨_, rfl⟩
  obtain ⟨locs, hlo⟩ : ∃ z : List Loc, z = [] := ⟨_, rfl⟩
  have hP : va_P D vwCl (List.flatten (wM aM C ms mw ma ml)) H := by rw [hH]; exact hP
  have hS : va_S A s.heap H locs := by rw [hH, hlo]; exact hS
  rw [show W p l e rmX12_took s m args below meth c s.heap [] 0 0 Q (F0 m 0 ls []) = W p l e rmX12_took s m args below meth c H locs 0 0 Q (F0 m 0 ls []) from by rw [hH, hlo]]
  refine lv_aload_n hx hb dX12_took_0 rfl (lv_at hl 0 rfl) ?_
  refine lv_iconst (v := 0) hx hb dX12_took_1 (by decide) ?_
  refine va_put (D := D) (ci := 12) (v := .int 0) (ty := .int) (C := RX12) (T := TX12) (N := 51) hx hb hw inW_X12 tyX12 tyX12_ok nmX12 hown hK hP hD hS 0 rfl rfl 0 (by decide) (hw _ mw_6_43) (fun _ h9 => h9) rfl (by decide +kernel) rfl rfl (Nat.le_of_ble_eq_true rfl) dX12_took_2 (fun H locs hP hD hS => ?_)
  refine lv_aload_n hx hb dX12_took_5 rfl (lv_at hl 0 rfl) ?_
  refine lv_iload_n hx hb dX12_took_6 rfl (lv_at hl 1 rfl) ?_
  have hP : va_P D vwCl (List.flatten (wM aM C (va_up ms 0 0) mw ma ml)) H := hP
  have hD : va_D A (List.flatten (wM aM C (va_up ms 0 0) mw ma ml)) := hD
  refine cGoI (wo := fun u => wM aM C (va_up ms 0 0) mw ma ml) (cRunV (As := [.int p1]) (rest := []) ⟨hx, hb, hml, hown, hw⟩ hK hN hP hD [0, 1, 2, 3, 4, 5, 6, 7, 8, 9, 10, 11, 12, 13, 14, 15, 16, 17, 18, 19, 20, 21, 22, 23, 24, 25, 26, 27, 28, 29, 30, 31, 32] rfl rfl (k_X12_isThief l D C _ aM  (va_up ms 0 0) mw ma ml p1 h) (cwV 1 hw (goodV mw_7_155 mw_7_157 mw_s134 mw_1_13 mw_7_158) rfl rfl rfl (by decide +kernel) ⟨Nat.le_of_ble_eq_true rfl, Nat.le_of_ble_eq_true rfl⟩) rfl rfl rfl hl.1 rfl (Nat.le_of_ble_eq_true rfl) dX12_took_7 ⟨Nat.zero_le _, Nat.zero_le _⟩) hP hD hS hA [0, 1, 2, 3, 4, 5, 6, 7, 8, 9, 10, 11, 12, 13, 14, 15, 16, 17, 18, 19, 20, 21, 22, 23, 24, 25, 26, 27, 28, 29, 30, 31, 32] [] [0, 1, 2, 3, 4, 5, 6, 7, 8, 9, 10, 11, 12, 13, 14, 15, 16, 17, 18, 19, 20, 21, 22, 23, 24, 25, 26, 27, 28, 29, 30, 31, 32] rfl rfl rfl (by decide) rfl (fun _ => rfl) (fun r1 u H locs h hP hD hS => ?_)
  have hP : va_P D vwCl (List.flatten (wM aM C (va_up ms 0 0) mw ma ml)) H := hP
  have hD : va_D A (List.flatten (wM aM C (va_up ms 0 0) mw ma ml)) := hD
  refine lv_if_ne (tgt := 18) hx hb dX12_took_10 (by decide) (fun c2 => ?_) (fun c2 => ?_)
  · have h := h.1 c2
    refine lv_aload_n hx hb dX12_took_18 rfl (lv_at hl 0 rfl) ?_
    refine va_get (D := D) (ci := 12) (v := .ref (aM 19)) (C := RX12) (T := TX12) (N := 51) hx hb hw inW_X12 hown hK hP 0 rfl rfl 29 (by decide) (hw _ mw_6_72) (fun _ h9 => h9) rfl dX12_took_19 ?_
    refine lv_iconst (v := 0) hx hb dX12_took_22 (by decide) ?_
    refine cIald hx hb hK hP 19 0 rfl rfl 0 (by decide +kernel) (cIn (by decide +kernel)) dX12_took_23 ?_
    refine lv_if_ne (tgt := 31) hx hb dX12_took_24 (by decide) (fun c3 => ?_) (fun c3 => ?_)
    · have h := h.1 c3
      refine lv_aload_n hx hb dX12_took_31 rfl (lv_at hl 0 rfl) ?_
      refine va_get (D := D) (ci := 12) (v := .ref (aM 19)) (C := RX12) (T := TX12) (N := 51) hx hb hw inW_X12 hown hK hP 0 rfl rfl 29 (by decide) (hw _ mw_6_72) (fun _ h9 => h9) rfl dX12_took_32 ?_
      refine lv_bipush (v := 11) hx hb dX12_took_35 (by decide) ?_
      refine lv_iload_n hx hb dX12_took_37 rfl (lv_at hl 1 rfl) ?_
      refine lv_iadd hx hb dX12_took_38 ?_
      refine cIald hx hb hK hP 19 0 rfl rfl ((11 + p1).toNatClampNeg) rfl h.1 dX12_took_39 ?_
      have h := h.2
      rw [← hQ]
      exact cRetI (v := (ma 16 ((11 + p1).toNatClampNeg))) ((va_up ms 0 0)) hx hb hr hlocks hS hP hD h dX12_took_40
    · have h := h.2 c3
      refine lv_iconst (v := (-1)) hx hb dX12_took_27 (by decide) ?_
      refine lv_goto (tgt := 40) hx hb dX12_took_28 (by decide) ?_
      rw [← hQ]
      exact cRetI (v := (-1)) ((va_up ms 0 0)) hx hb hr hlocks hS hP hD h dX12_took_40
  · have h := h.2 c2
    refine lv_bipush (v := (-2)) hx hb dX12_took_13 (by decide) ?_
    refine lv_goto (tgt := 40) hx hb dX12_took_15 (by decide) ?_
    rw [← hQ]
    exact cRetI (v := (-2)) ((va_up ms 0 0)) hx hb hr hlocks hS hP hD h dX12_took_40
abbrev vsX12_years : List Cond := Cond.code yX12_years cX12_years 9 (some .long) :: WS
abbrev rmX12_years : Room := { frames := 6, cells := 0, slots := 0, locals := 141 }
set_option maxHeartbeats 4000000 in
set_option maxRecDepth 100000 in
theorem k_X12_years (l : Launch) (D : va_G) (C : Nat → ClassId) (sz : Nat) (aM : Nat → Nat)  (ms : Nat → Int32) (mw : Nat → Int64) (ma : Nat → Nat → Int32) (ml : Nat → Nat → Int64) (p1 : Int32) (p2 : Int32) (p3 : Int32) {post : Int64 → (Nat → Int32) → (Nat → Int64) → (Nat → Nat → Int32) → Prop} (h : P_X12_years ms mw ma p1 p2 p3 post) : Met l yX12_years vsX12_years rmX12_years (cPre D C [.ref (aM 0), .int p1, .int p2, .int p3] sz (wM aM C ms mw ma ml)) (cQl D (fun (r : Int64) (u : (Nat → Int32) × (Nat → Int64) × (Nat → Nat → Int32)) => post r u.1 u.2.1 u.2.2) (fun u => wM aM C u.1 u.2.1 u.2.2 ml) (va_A (List.flatten (wM aM C ms mw ma ml)) sz)) 0 0 (va_A (List.flatten (wM aM C ms mw ma ml)) sz) := by
  refine cStart (QA := fun A => cQl D (fun (r : Int64) (u : (Nat → Int32) × (Nat → Int64) × (Nat → Nat → Int32)) => post r u.1 u.2.1 u.2.2) (fun u => wM aM C u.1 u.2.1 u.2.2 ml) A) (cc := cX12_years) (maxL := 9) (ret := (some .long)) (by decide) (Nat.le_of_ble_eq_true rfl) ?_
  intro p e s m args below meth c A ls hx hb hr hml hown hw hlocks hname hK hN hA hP hD hS hl
  generalize hQ : MQ below _ args s 0 0 A = Q
  have hl : lv_has ls 9 [(0, .ref (aM 0)), (1, .int p1), (2, .int p2), (3, .int p3)] := hl
  obtain ⟨H, hH⟩ : ∃ H, H = s.heap := ⟨_, rfl⟩
  obtain ⟨locs, hlo⟩ : ∃ z : List Loc, z = [] := ⟨_, rfl⟩
  have hP : va_P D vwCl (List.flatten (wM aM C ms mw ma ml)) H := by rw [hH]; exact hP
  have hS : va_S A s.heap H locs := by rw [hH, hlo]; exact hS
  rw [show W p l e rmX12_years s m args below meth c s.heap [] 0 0 Q (F0 m 0 ls []) = W p l e rmX12_years s m args below meth c H locs 0 0 Q (F0 m 0 ls []) from by rw [hH, hlo]]
  have N53 : ∀  (n53 : Nat) (x4_ : Int64) (x6_ : Int32) (ms : Nat → Int32) (mw : Nat → Int64) (ma : Nat → Nat → Int32) (H : Heap) (locs : List Loc) (ls : Array Slot), P_X12_years_53 p1 p2 p3 post   n53 x4_ x6_ ms mw ma → va_P D vwCl (List.flatten (wM aM C ms mw ma ml)) H → va_D A (List.flatten (wM aM C ms mw ma ml)) → va_S A s.heap H locs → lv_has ls 9 [(0, .ref (aM 0)), (1, .int p1), (2, .int p2), (3, .int p3), (4, .long x4_), (6, .int x6_)] → W p l e rmX12_years s m args below meth c H locs 0 0 Q (F0 m 53 ls []) := by
    intro n53
    induction n53 with
    | zero => intro x4_ x6_ ms mw ma H locs ls h hP hD hS hl; exact False.elim h
    | succ n53 ih53 =>
      have N120 : ∀ (x6_ : Int32) (ms : Nat → Int32) (mw : Nat → Int64) (ma : Nat → Nat → Int32) (n120 : Nat) (x4_ : Int64) (x8_ : Int32) (H : Heap) (locs : List Loc) (ls : Array Slot), P_X12_years_120 p1 p2 p3 post (P_X12_years_53 p1 p2 p3 post   n53) x6_ ms mw ma n120 x4_ x8_ → va_P D vwCl (List.flatten (wM aM C ms mw ma ml)) H → va_D A (List.flatten (wM aM C ms mw ma ml)) → va_S A s.heap H locs → lv_has ls 9 [(0, .ref (aM 0)), (1, .int p1), (2, .int p2), (3, .int p3), (4, .long x4_), (6, .int x6_), (8, .int x8_)] → W p l e rmX12_years s m args below meth c H locs 0 0 Q (F0 m 120 ls []) := by
        intro x6_ ms mw ma
        intro n120
        induction n120 with
        | zero => intro x4_ x8_ H locs ls h hP hD hS hl; exact False.elim h
        | succ n120 ih120 =>
          intro x4_ x8_ H locs ls h hP hD hS hl
          refine lv_iload hx hb dX12_years_120 (lv_at hl 6 rfl) ?_
          refine lv_aload_n hx hb dX12_years_122 rfl (lv_at hl 0 rfl) ?_
          refine va_get (D := D) (ci := 12) (v := .ref (aM 13)) (C := RX12) (T := TX12) (N := 51) hx hb hw inW_X12 hown hK hP 0 rfl rfl 23 (by decide) (hw _ mw_6_66) (fun _ h9 => h9) rfl dX12_years_123 ?_
          refine lv_iconst (v := 0) hx hb dX12_years_126 (by decide) ?_
          refine cIald hx hb hK hP 13 0 rfl rfl 0 (by decide +kernel) (cIn (by decide +kernel)) dX12_years_127 ?_
          refine lv_icmp_ge (tgt := 163) hx hb dX12_years_128 (by decide) (fun c1 => ?_) (fun c1 => ?_)
          · have h := h.1 c1
            refine lv_iinc (v := (x6_ + 1)) (lv' := [(6, .int (x6_ + 1)), (0, .ref (aM 0)), (1, .int p1), (2, .int p2), (3, .int p3), (4, .long x4_), (8, .int x8_)]) hx hb dX12_years_163 hl (k := 5) rfl rfl (by decide) rfl (fun ls hl => ?_)
            refine lv_goto (tgt := 53) hx hb dX12_years_166 (by decide) ?_
            exact ih53 x4_ (x6_ + 1) ms mw ma _ _ _ h hP hD hS (lv_sub hl [1, 2, 3, 4, 5, 0] rfl)
          · have h := h.2 c1
            refine lv_lload hx hb dX12_years_131 (lv_at hl 4 rfl) ?_
            refine lv_aload_n hx hb dX12_years_133 rfl (lv_at hl 0 rfl) ?_
            refine va_get (D := D) (ci := 12) (v := .ref (aM 32)) (C := RX12) (T := TX12) (N := 51) hx hb hw inW_X12 hown hK hP 0 rfl rfl 49 (by decide) (hw _ mw_6_92) (fun _ h9 => h9) rfl dX12_years_134 ?_
            refine lv_iload hx hb dX12_years_137 (lv_at hl 6 rfl) ?_
            refine cIald hx hb hK hP 32 0 rfl rfl x8_.toNatClampNeg rfl h.1 dX12_years_139 ?_
            have h := h.2
            refine lv_i2l hx hb dX12_years_140 rfl ?_
            refine lv_aload_n hx hb dX12_years_141 rfl (lv_at hl 0 rfl) ?_
            refine va_get (D := D) (ci := 12) (v := .ref (aM 14)) (C := RX12) (T := TX12) (N := 51) hx hb hw inW_X12 hown hK hP 0 rfl rfl 24 (by decide) (hw _ mw_6_67) (fun _ h9 => h9) rfl dX12_years_142 ?_
            refine lv_iconst (v := 0) hx hb dX12_years_145 (by decide) ?_
            refine lv_iload hx hb dX12_years_146 (lv_at hl 6 rfl) ?_
            refine cGoI (wo := fun u => wM aM C ms mw ma ml) (cRunS (As := [.int 0, .int x8_]) (rest := [.ref (aM 14), .long ((ma 21 x8_.toNatClampNeg).toInt64), .long x4_]) ⟨hx, hb, hml, hown, hw⟩ hK hN hP hD [] rfl rfl (k_X12_at l D C _    0 x8_ h) (va_cwS 2 hw (goodS mw_7_148 mw_7_149 mw_1_13 mw_7_150) rfl rfl rfl (by decide +kernel) ⟨Nat.le_of_ble_eq_true rfl, Nat.le_of_ble_eq_true rfl⟩) rfl hl.1 rfl (Nat.le_of_ble_eq_true rfl) dX12_years_148 ⟨Nat.zero_le _, Nat.zero_le _⟩) hP hD hS hA [] [0, 1, 2, 3, 4, 5, 6, 7, 8, 9, 10, 11, 12, 13, 14, 15, 16, 17, 18, 19, 20, 21, 22, 23, 24, 25, 26, 27, 28, 29, 30, 31, 32] [0, 1, 2, 3, 4, 5, 6, 7, 8, 9, 10, 11, 12, 13, 14, 15, 16, 17, 18, 19, 20, 21, 22, 23, 24, 25, 26, 27, 28, 29, 30, 31, 32] rfl rfl rfl (by decide) rfl (fun _ => rfl) (fun r2 u H locs h hP hD hS => ?_)
            have hP : va_P D vwCl (List.flatten (wM aM C ms mw ma ml)) H := hP
            have hD : va_D A (List.flatten (wM aM C ms mw ma ml)) := hD
            refine cIald hx hb hK hP 14 0 rfl rfl r2.toNatClampNeg rfl h.1 dX12_years_151 ?_
            have h := h.2
            refine lv_i2l hx hb dX12_years_152 rfl ?_
            refine lv_lmul hx hb dX12_years_153 ?_
            refine lv_ladd hx hb dX12_years_154 ?_
            refine lv_topl (fun x3 ex3 => ?_)
            have h := h x3 ex3
            refine lv_lstore (lv' := [(4, .long x3), (0, .ref (aM 0)), (1, .int p1), (2, .int p2), (3, .int p3), (6, .int x6_), (8, .int x8_)]) hx hb dX12_years_155 hl (by decide) rfl (fun ls hl => ?_)
            refine lv_iinc (v := (x8_ + 1)) (lv' := [(8, .int (x8_ + 1)), (4, .long x3), (0, .ref (aM 0)), (1, .int p1), (2, .int p2), (3, .int p3), (6, .int x6_)]) hx hb dX12_years_157 hl (k := 6) rfl rfl (by decide) rfl (fun ls hl => ?_)
            refine lv_goto (tgt := 120) hx hb dX12_years_160 (by decide) ?_
            exact ih120 x3 (x8_ + 1) _ _ _ h hP hD hS (lv_sub hl [2, 3, 4, 5, 1, 6, 0] rfl)
      intro x4_ x6_ ms mw ma H locs ls h hP hD hS hl
      refine lv_iload hx hb dX12_years_53 (lv_at hl 5 rfl) ?_
      refine lv_iload_n hx hb dX12_years_55 rfl (lv_at hl 2 rfl) ?_
      refine lv_icmp_ge (tgt := 169) hx hb dX12_years_56 (by decide) (fun c4 => ?_) (fun c4 => ?_)
      · have h := h.1 c4
        refine lv_lload hx hb dX12_years_169 (lv_at hl 4 rfl) ?_
        rw [← hQ]
        exact cRetL (v := x4_) (ms, mw, ma) hx hb hr hlocks hS hP hD h dX12_years_171
      · have h := h.2 c4
        refine lv_aload_n hx hb dX12_years_59 rfl (lv_at hl 0 rfl) ?_
        refine lv_iload_n hx hb dX12_years_60 rfl (lv_at hl 1 rfl) ?_
        refine lv_i2l hx hb dX12_years_61 rfl ?_
        refine lv_iload hx hb dX12_years_62 (lv_at hl 5 rfl) ?_
        refine lv_i2l hx hb dX12_years_64 rfl ?_
        refine lv_ladd hx hb dX12_years_65 ?_
        refine cGoV (wo := fun u => wM aM C u.1 u.2.1 u.2.2 ml) (cRunV (As := [.long (p1.toInt64 + x6_.toInt64)]) (rest := []) ⟨hx, hb, hml, hown, hw⟩ hK hN hP hD [0, 1, 2, 3, 4, 5, 6, 7, 8, 9, 10, 11, 12, 13, 14, 15, 16, 17, 18, 19, 20, 21, 22, 23, 24, 25, 26, 27, 28, 29, 30, 31, 32] rfl rfl (k_X12_draws l D C _ aM  ms mw ma ml (p1.toInt64 + x6_.toInt64) h) (cwV 1 hw (goodV mw_9_47 mw_9_49 mw_s179 mw_1_13 mw_9_50) rfl rfl rfl (by decide +kernel) ⟨Nat.le_of_ble_eq_true rfl, Nat.le_of_ble_eq_true rfl⟩) rfl rfl rfl hl.1 rfl (Nat.le_of_ble_eq_true rfl) dX12_years_66 ⟨Nat.zero_le _, Nat.zero_le _⟩) hP hD hS hA [0, 1, 2, 3, 4, 5, 6, 7, 8, 9, 10, 11, 12, 13, 14, 15, 16, 17, 18, 19, 20, 21, 22, 23, 24, 25, 26, 27, 28, 29, 30, 31, 32] [] [0, 1, 2, 3, 4, 5, 6, 7, 8, 9, 10, 11, 12, 13, 14, 15, 16, 17, 18, 19, 20, 21, 22, 23, 24, 25, 26, 27, 28, 29, 30, 31, 32] rfl rfl rfl (by decide) rfl (fun _ => rfl) (fun u H locs h hP hD hS => ?_)
        obtain ⟨ms_5, mw_6, ma_7⟩ := u
        have hP : va_P D vwCl (List.flatten (wM aM C ms_5 mw_6 ma_7 ml)) H := hP
        have hD : va_D A (List.flatten (wM aM C ms_5 mw_6 ma_7 ml)) := hD
        refine lv_aload_n hx hb dX12_years_69 rfl (lv_at hl 0 rfl) ?_
        refine cGoI (wo := fun u => wM aM C ms_5 mw_6 ma_7 ml) (cRunV (As := []) (rest := []) ⟨hx, hb, hml, hown, hw⟩ hK hN hP hD [0, 1, 2, 3, 4, 5, 6, 7, 8, 9, 10, 11, 12, 13, 14, 15, 16, 17, 18, 19, 20, 21, 22, 23, 24, 25, 26, 27, 28, 29, 30, 31, 32] rfl rfl (k_X12_drawnAll l D C _ aM  ms_5 mw_6 ma_7 ml  h) (cwV 0 hw (goodV mw_9_71 mw_9_73 mw_s184 mw_1_13 mw_9_74) rfl rfl rfl (by decide +kernel) ⟨Nat.le_of_ble_eq_true rfl, Nat.le_of_ble_eq_true rfl⟩) rfl rfl rfl hl.1 rfl (Nat.le_of_ble_eq_true rfl) dX12_years_70 ⟨Nat.zero_le _, Nat.zero_le _⟩) hP hD hS hA [0, 1, 2, 3, 4, 5, 6, 7, 8, 9, 10, 11, 12, 13, 14, 15, 16, 17, 18, 19, 20, 21, 22, 23, 24, 25, 26, 27, 28, 29, 30, 31, 32] [] [0, 1, 2, 3, 4, 5, 6, 7, 8, 9, 10, 11, 12, 13, 14, 15, 16, 17, 18, 19, 20, 21, 22, 23, 24, 25, 26, 27, 28, 29, 30, 31, 32] rfl rfl rfl (by decide) rfl (fun _ => rfl) (fun r8 u H locs h hP hD hS => ?_)
        have hP : va_P D vwCl (List.flatten (wM aM C ms_5 mw_6 ma_7 ml)) H := hP
        have hD : va_D A (List.flatten (wM aM C ms_5 mw_6 ma_7 ml)) := hD
        refine lv_istore (lv' := [(7, .int r8), (0, .ref (aM 0)), (1, .int p1), (2, .int p2), (3, .int p3), (4, .long x4_), (6, .int x6_)]) hx hb dX12_years_73 hl (by decide) rfl (fun ls hl => ?_)
        refine lv_iload_n hx hb dX12_years_75 rfl (lv_at hl 4 rfl) ?_
        refine lv_if_ne (tgt := 90) hx hb dX12_years_76 (by decide) (fun c9 => ?_) (fun c9 => ?_)
        · have h := h.1 c9
          refine lv_iload_n hx hb dX12_years_90 rfl (lv_at hl 4 rfl) ?_
          refine lv_iconst (v := 1) hx hb dX12_years_91 (by decide) ?_
          refine lv_icmp_ne (tgt := 117) hx hb dX12_years_92 (by decide) (fun c10 => ?_) (fun c10 => ?_)
          · have h := h.1 c10
            refine lv_iconst (v := 0) hx hb dX12_years_117 (by decide) ?_
            refine lv_istore (lv' := [(8, .int 0), (7, .int r8), (0, .ref (aM 0)), (1, .int p1), (2, .int p2), (3, .int p3), (4, .long x4_), (6, .int x6_)]) hx hb dX12_years_118 hl (by decide) rfl (fun ls hl => ?_)
            obtain ⟨n, h⟩ := h
            exact N120 x6_ ms_5 mw_6 ma_7 n x4_ 0 _ _ _ h hP hD hS (lv_sub hl [2, 3, 4, 5, 6, 7, 0] rfl)
          · have h := h.2 c10
            refine lv_iload hx hb dX12_years_95 (lv_at hl 0 rfl) ?_
            refine lv_i2l hx hb dX12_years_97 rfl ?_
            refine lv_lload hx hb dX12_years_98 (lv_at hl 5 rfl) ?_
            refine W.lcmp hx hb dX12_years_100 ?_
            refine lv_if_le (tgt := 110) hx hb dX12_years_101 (by decide) (fun c11 => ?_) (fun c11 => ?_)
            · have c11 : r8.toInt64 ≤ x4_ := (lg_cmp_le _ _).mp c11
              have h := h.1 c11
              refine lv_lload hx hb dX12_years_110 (lv_at hl 5 rfl) ?_
              refine lv_lstore (lv' := [(4, .long x4_), (7, .int r8), (0, .ref (aM 0)), (1, .int p1), (2, .int p2), (3, .int p3), (6, .int x6_)]) hx hb dX12_years_112 hl (by decide) rfl (fun ls hl => ?_)
              refine lv_goto (tgt := 163) hx hb dX12_years_114 (by decide) ?_
              refine lv_iinc (v := (x6_ + 1)) (lv' := [(6, .int (x6_ + 1)), (4, .long x4_), (7, .int r8), (0, .ref (aM 0)), (1, .int p1), (2, .int p2), (3, .int p3)]) hx hb dX12_years_163 hl (k := 6) rfl rfl (by decide) rfl (fun ls hl => ?_)
              refine lv_goto (tgt := 53) hx hb dX12_years_166 (by decide) ?_
              exact ih53 x4_ (x6_ + 1) ms_5 mw_6 ma_7 _ _ _ h hP hD hS (lv_sub hl [3, 4, 5, 6, 1, 0] rfl)
            · have c11 : ¬ r8.toInt64 ≤ x4_ := fun q => c11 ((lg_cmp_le _ _).mpr q)
              have h := h.2 c11
              refine lv_iload hx hb dX12_years_104 (lv_at hl 0 rfl) ?_
              refine lv_i2l hx hb dX12_years_106 rfl ?_
              refine lv_goto (tgt := 112) hx hb dX12_years_107 (by decide) ?_
              refine lv_topl (fun x12 ex12 => ?_)
              have h := h x12 ex12
              refine lv_lstore (lv' := [(4, .long x12), (7, .int r8), (0, .ref (aM 0)), (1, .int p1), (2, .int p2), (3, .int p3), (6, .int x6_)]) hx hb dX12_years_112 hl (by decide) rfl (fun ls hl => ?_)
              refine lv_goto (tgt := 163) hx hb dX12_years_114 (by decide) ?_
              refine lv_iinc (v := (x6_ + 1)) (lv' := [(6, .int (x6_ + 1)), (4, .long x12), (7, .int r8), (0, .ref (aM 0)), (1, .int p1), (2, .int p2), (3, .int p3)]) hx hb dX12_years_163 hl (k := 6) rfl rfl (by decide) rfl (fun ls hl => ?_)
              refine lv_goto (tgt := 53) hx hb dX12_years_166 (by decide) ?_
              exact ih53 x12 (x6_ + 1) ms_5 mw_6 ma_7 _ _ _ h hP hD hS (lv_sub hl [3, 4, 5, 6, 1, 0] rfl)
        · have h := h.2 c9
          refine lv_lload hx hb dX12_years_79 (lv_at hl 5 rfl) ?_
          refine lv_iload hx hb dX12_years_81 (lv_at hl 0 rfl) ?_
          refine lv_i2l hx hb dX12_years_83 rfl ?_
          refine lv_ladd hx hb dX12_years_84 ?_
          refine lv_topl (fun x13 ex13 => ?_)
          have h := h x13 ex13
          refine lv_lstore (lv' := [(4, .long x13), (7, .int r8), (0, .ref (aM 0)), (1, .int p1), (2, .int p2), (3, .int p3), (6, .int x6_)]) hx hb dX12_years_85 hl (by decide) rfl (fun ls hl => ?_)
          refine lv_goto (tgt := 163) hx hb dX12_years_87 (by decide) ?_
          refine lv_iinc (v := (x6_ + 1)) (lv' := [(6, .int (x6_ + 1)), (4, .long x13), (7, .int r8), (0, .ref (aM 0)), (1, .int p1), (2, .int p2), (3, .int p3)]) hx hb dX12_years_163 hl (k := 6) rfl rfl (by decide) rfl (fun ls hl => ?_)
          refine lv_goto (tgt := 53) hx hb dX12_years_166 (by decide) ?_
          exact ih53 x13 (x6_ + 1) ms_5 mw_6 ma_7 _ _ _ h hP hD hS (lv_sub hl [3, 4, 5, 6, 1, 0] rfl)
  refine lv_aload_n hx hb dX12_years_0 rfl (lv_at hl 0 rfl) ?_
  refine lv_iconst (v := 0) hx hb dX12_years_1 (by decide) ?_
  refine va_put (D := D) (ci := 12) (v := .int 0) (ty := .int) (C := RX12) (T := TX12) (N := 51) hx hb hw inW_X12 tyX12 tyX12_ok nmX12 hown hK hP hD hS 0 rfl rfl 0 (by decide) (hw _ mw_6_43) (fun _ h9 => h9) rfl (by decide +kernel) rfl rfl (Nat.le_of_ble_eq_true rfl) dX12_years_2 (fun H locs hP hD hS => ?_)
  refine lv_iload_n hx hb dX12_years_5 rfl (lv_at hl 1 rfl) ?_
  have hP : va_P D vwCl (List.flatten (wM aM C (va_up ms 0 0) mw ma ml)) H := hP
  have hD : va_D A (List.flatten (wM aM C (va_up ms 0 0) mw ma ml)) := hD
  refine cGoI (wo := fun u => wM aM C (va_up ms 0 0) mw ma ml) (cRunS (As := [.int p1]) (rest := []) ⟨hx, hb, hml, hown, hw⟩ hK hN hP hD [] rfl rfl (k_X12_isSeed l D C _    p1 h) (va_cwS 1 hw (goodS mw_9_43 mw_9_44 mw_1_13 mw_9_45) rfl rfl rfl (by decide +kernel) ⟨Nat.le_of_ble_eq_true rfl, Nat.le_of_ble_eq_true rfl⟩) rfl hl.1 rfl (Nat.le_of_ble_eq_true rfl) dX12_years_6 ⟨Nat.zero_le _, Nat.zero_le _⟩) hP hD hS hA [] [0, 1, 2, 3, 4, 5, 6, 7, 8, 9, 10, 11, 12, 13, 14, 15, 16, 17, 18, 19, 20, 21, 22, 23, 24, 25, 26, 27, 28, 29, 30, 31, 32] [0, 1, 2, 3, 4, 5, 6, 7, 8, 9, 10, 11, 12, 13, 14, 15, 16, 17, 18, 19, 20, 21, 22, 23, 24, 25, 26, 27, 28, 29, 30, 31, 32] rfl rfl rfl (by decide) rfl (fun _ => rfl) (fun r14 u H locs h hP hD hS => ?_)
  have hP : va_P D vwCl (List.flatten (wM aM C (va_up ms 0 0) mw ma ml)) H := hP
  have hD : va_D A (List.flatten (wM aM C (va_up ms 0 0) mw ma ml)) := hD
  refine lv_if_eq (tgt := 43) hx hb dX12_years_9 (by decide) (fun c15 => ?_) (fun c15 => ?_)
  · have h := h.1 c15
    refine lv_ldc2 (v := (-2)) hx hb hown (hw _ mw_7_208) dX12_years_43 ?_
    rw [← hQ]
    exact cRetL (v := (-2)) ((va_up ms 0 0), mw, ma) hx hb hr hlocks hS hP hD h dX12_years_46
  · have h := h.2 c15
    refine lv_iload_n hx hb dX12_years_12 rfl (lv_at hl 2 rfl) ?_
    refine lv_i2l hx hb dX12_years_13 rfl ?_
    refine lv_lconst (v := 1) hx hb dX12_years_14 (by decide) ?_
    refine lv_ldc2 (v := 100) hx hb hown (hw _ mw_7_163) dX12_years_15 ?_
    refine cGoI (wo := fun u => wM aM C (va_up ms 0 0) mw ma ml) (cRunS (As := [.long p2.toInt64, .long 1, .long 100]) (rest := []) ⟨hx, hb, hml, hown, hw⟩ hK hN hP hD [] rfl rfl (k_X12_in l D C _    p2.toInt64 1 100 h) (va_cwS 3 hw (goodS mw_6_205 mw_6_206 mw_1_13 mw_6_207) rfl rfl rfl (by decide +kernel) ⟨Nat.le_of_ble_eq_true rfl, Nat.le_of_ble_eq_true rfl⟩) rfl hl.1 rfl (Nat.le_of_ble_eq_true rfl) dX12_years_18 ⟨Nat.zero_le _, Nat.zero_le _⟩) hP hD hS hA [] [0, 1, 2, 3, 4, 5, 6, 7, 8, 9, 10, 11, 12, 13, 14, 15, 16, 17, 18, 19, 20, 21, 22, 23, 24, 25, 26, 27, 28, 29, 30, 31, 32] [0, 1, 2, 3, 4, 5, 6, 7, 8, 9, 10, 11, 12, 13, 14, 15, 16, 17, 18, 19, 20, 21, 22, 23, 24, 25, 26, 27, 28, 29, 30, 31, 32] rfl rfl rfl (by decide) rfl (fun _ => rfl) (fun r16 u H locs h hP hD hS => ?_)
    have hP : va_P D vwCl (List.flatten (wM aM C (va_up ms 0 0) mw ma ml)) H := hP
    have hD : va_D A (List.flatten (wM aM C (va_up ms 0 0) mw ma ml)) := hD
    refine lv_if_eq (tgt := 43) hx hb dX12_years_21 (by decide) (fun c17 => ?_) (fun c17 => ?_)
    · have h := h.1 c17
      refine lv_ldc2 (v := (-2)) hx hb hown (hw _ mw_7_208) dX12_years_43 ?_
      rw [← hQ]
      exact cRetL (v := (-2)) ((va_up ms 0 0), mw, ma) hx hb hr hlocks hS hP hD h dX12_years_46
    · have h := h.2 c17
      refine lv_iload_n hx hb dX12_years_24 rfl (lv_at hl 3 rfl) ?_
      refine lv_i2l hx hb dX12_years_25 rfl ?_
      refine lv_lconst (v := 0) hx hb dX12_years_26 (by decide) ?_
      refine lv_ldc2 (v := 2) hx hb hown (hw _ mw_8_1) dX12_years_27 ?_
      refine cGoI (wo := fun u => wM aM C (va_up ms 0 0) mw ma ml) (cRunS (As := [.long p3.toInt64, .long 0, .long 2]) (rest := []) ⟨hx, hb, hml, hown, hw⟩ hK hN hP hD [] rfl rfl (k_X12_in l D C _    p3.toInt64 0 2 h) (va_cwS 3 hw (goodS mw_6_205 mw_6_206 mw_1_13 mw_6_207) rfl rfl rfl (by decide +kernel) ⟨Nat.le_of_ble_eq_true rfl, Nat.le_of_ble_eq_true rfl⟩) rfl hl.1 rfl (Nat.le_of_ble_eq_true rfl) dX12_years_30 ⟨Nat.zero_le _, Nat.zero_le _⟩) hP hD hS hA [] [0, 1, 2, 3, 4, 5, 6, 7, 8, 9, 10, 11, 12, 13, 14, 15, 16, 17, 18, 19, 20, 21, 22, 23, 24, 25, 26, 27, 28, 29, 30, 31, 32] [0, 1, 2, 3, 4, 5, 6, 7, 8, 9, 10, 11, 12, 13, 14, 15, 16, 17, 18, 19, 20, 21, 22, 23, 24, 25, 26, 27, 28, 29, 30, 31, 32] rfl rfl rfl (by decide) rfl (fun _ => rfl) (fun r18 u H locs h hP hD hS => ?_)
      have hP : va_P D vwCl (List.flatten (wM aM C (va_up ms 0 0) mw ma ml)) H := hP
      have hD : va_D A (List.flatten (wM aM C (va_up ms 0 0) mw ma ml)) := hD
      refine lv_if_eq (tgt := 43) hx hb dX12_years_33 (by decide) (fun c19 => ?_) (fun c19 => ?_)
      · have h := h.1 c19
        refine lv_ldc2 (v := (-2)) hx hb hown (hw _ mw_7_208) dX12_years_43 ?_
        rw [← hQ]
        exact cRetL (v := (-2)) ((va_up ms 0 0), mw, ma) hx hb hr hlocks hS hP hD h dX12_years_46
      · have h := h.2 c19
        refine lv_aload_n hx hb dX12_years_36 rfl (lv_at hl 0 rfl) ?_
        refine cGoI (wo := fun u => wM aM C (va_up ms 0 0) mw ma ml) (cRunV (As := []) (rest := []) ⟨hx, hb, hml, hown, hw⟩ hK hN hP hD [0, 1, 2, 3, 4, 5, 6, 7, 8, 9, 10, 11, 12, 13, 14, 15, 16, 17, 18, 19, 20, 21, 22, 23, 24, 25, 26, 27, 28, 29, 30, 31, 32] rfl rfl (k_X12_isRail l D C _ aM  (va_up ms 0 0) mw ma ml  h) (cwV 0 hw (goodV mw_7_204 mw_7_206 mw_s142 mw_1_13 mw_7_207) rfl rfl rfl (by decide +kernel) ⟨Nat.le_of_ble_eq_true rfl, Nat.le_of_ble_eq_true rfl⟩) rfl rfl rfl hl.1 rfl (Nat.le_of_ble_eq_true rfl) dX12_years_37 ⟨Nat.zero_le _, Nat.zero_le _⟩) hP hD hS hA [0, 1, 2, 3, 4, 5, 6, 7, 8, 9, 10, 11, 12, 13, 14, 15, 16, 17, 18, 19, 20, 21, 22, 23, 24, 25, 26, 27, 28, 29, 30, 31, 32] [] [0, 1, 2, 3, 4, 5, 6, 7, 8, 9, 10, 11, 12, 13, 14, 15, 16, 17, 18, 19, 20, 21, 22, 23, 24, 25, 26, 27, 28, 29, 30, 31, 32] rfl rfl rfl (by decide) rfl (fun _ => rfl) (fun r20 u H locs h hP hD hS => ?_)
        have hP : va_P D vwCl (List.flatten (wM aM C (va_up ms 0 0) mw ma ml)) H := hP
        have hD : va_D A (List.flatten (wM aM C (va_up ms 0 0) mw ma ml)) := hD
        refine lv_if_ne (tgt := 47) hx hb dX12_years_40 (by decide) (fun c21 => ?_) (fun c21 => ?_)
        · have h := h.1 c21
          refine lv_lconst (v := 0) hx hb dX12_years_47 (by decide) ?_
          refine lv_lstore (lv' := [(4, .long 0), (0, .ref (aM 0)), (1, .int p1), (2, .int p2), (3, .int p3)]) hx hb dX12_years_48 hl (by decide) rfl (fun ls hl => ?_)
          refine lv_iconst (v := 0) hx hb dX12_years_50 (by decide) ?_
          refine lv_istore (lv' := [(6, .int 0), (4, .long 0), (0, .ref (aM 0)), (1, .int p1), (2, .int p2), (3, .int p3)]) hx hb dX12_years_51 hl (by decide) rfl (fun ls hl => ?_)
          obtain ⟨n, h⟩ := h
          exact N53  n 0 0 (va_up ms 0 0) mw ma _ _ _ h hP hD hS (lv_sub hl [2, 3, 4, 5, 1, 0] rfl)
        · have h := h.2 c21
          refine lv_ldc2 (v := (-2)) hx hb hown (hw _ mw_7_208) dX12_years_43 ?_
          rw [← hQ]
          exact cRetL (v := (-2)) ((va_up ms 0 0), mw, ma) hx hb hr hlocks hS hP hD h dX12_years_46
abbrev vsX12_count : List Cond := Cond.code yX12_count cX12_count 4 (some .int) :: WS
abbrev rmX12_count : Room := { frames := 2, cells := 0, slots := 0, locals := 44 }
set_option maxHeartbeats 4000000 in
set_option maxRecDepth 100000 in
theorem k_X12_count (l : Launch) (D : va_G) (C : Nat → ClassId) (sz : Nat) (aM : Nat → Nat)  (ms : Nat → Int32) (mw : Nat → Int64) (ma : Nat → Nat → Int32) (ml : Nat → Nat → Int64) (p1 : Int32) {post : Int32 → (Nat → Int32) → Prop} (h : P_X12_count ms ma p1 post) : Met l yX12_count vsX12_count rmX12_count (cPre D C [.ref (aM 0), .int p1] sz (wM aM C ms mw ma ml)) (cQi D (fun (r : Int32) (u : (Nat → Int32)) => post r u) (fun u => wM aM C u mw ma ml) (va_A (List.flatten (wM aM C ms mw ma ml)) sz)) 0 0 (va_A (List.flatten (wM aM C ms mw ma ml)) sz) := by
  refine cStart (QA := fun A => cQi D (fun (r : Int32) (u : (Nat → Int32)) => post r u) (fun u => wM aM C u mw ma ml) A) (cc := cX12_count) (maxL := 4) (ret := (some .int)) (by decide) (Nat.le_of_ble_eq_true rfl) ?_
  intro p e s m args below meth c A ls hx hb hr hml hown hw hlocks hname hK hN hA hP hD hS hl
  generalize hQ : MQ below _ args s 0 0 A = Q
  have hl : lv_has ls 4 [(0, .ref (aM 0)), (1, .int p1)] := hl
  obtain ⟨H, hH⟩ : ∃ H, H = s.heap := ⟨_, rfl⟩
  obtain ⟨locs, hlo⟩ : ∃ z : List Loc, z = [] := ⟨_, rfl⟩
  have hP : va_P D vwCl (List.flatten (wM aM C ms mw ma ml)) H := by rw [hH]; exact hP
  have hS : va_S A s.heap H locs := by rw [hH, hlo]; exact hS
  rw [show W p l e rmX12_count s m args below meth c s.heap [] 0 0 Q (F0 m 0 ls []) = W p l e rmX12_count s m args below meth c H locs 0 0 Q (F0 m 0 ls []) from by rw [hH, hlo]]
  have N169 : ∀ (ms : Nat → Int32) (n169 : Nat) (x2_ : Int32) (x3_ : Int32) (H : Heap) (locs : List Loc) (ls : Array Slot), P_X12_count_169 ma p1 post  ms n169 x2_ x3_ → va_P D vwCl (List.flatten (wM aM C ms mw ma ml)) H → va_D A (List.flatten (wM aM C ms mw ma ml)) → va_S A s.heap H locs → lv_has ls 4 [(0, .ref (aM 0)), (2, .int x2_), (3, .int x3_)] → W p l e rmX12_count s m args below meth c H locs 0 0 Q (F0 m 169 ls []) := by
    intro ms
    intro n169
    induction n169 with
    | zero => intro x2_ x3_ H locs ls h hP hD hS hl; exact False.elim h
    | succ n169 ih169 =>
      intro x2_ x3_ H locs ls h hP hD hS hl
      refine lv_iload_n hx hb dX12_count_169 rfl (lv_at hl 2 rfl) ?_
      refine lv_iconst (v := 4) hx hb dX12_count_170 (by decide) ?_
      refine lv_icmp_ge (tgt := 198) hx hb dX12_count_171 (by decide) (fun c1 => ?_) (fun c1 => ?_)
      · have h := h.1 c1
        refine lv_iload_n hx hb dX12_count_198 rfl (lv_at hl 1 rfl) ?_
        rw [← hQ]
        exact cRetI (v := x2_) (ms) hx hb hr hlocks hS hP hD h dX12_count_199
      · have h := h.2 c1
        refine lv_iload_n hx hb dX12_count_174 rfl (lv_at hl 1 rfl) ?_
        refine lv_aload_n hx hb dX12_count_175 rfl (lv_at hl 0 rfl) ?_
        refine va_get (D := D) (ci := 12) (v := .ref (aM 1)) (C := RX12) (T := TX12) (N := 51) hx hb hw inW_X12 hown hK hP 0 rfl rfl 1 (by decide) (hw _ mw_6_44) (fun _ h9 => h9) rfl dX12_count_176 ?_
        refine lv_iload_n hx hb dX12_count_179 rfl (lv_at hl 2 rfl) ?_
        refine cIald hx hb hK hP 1 0 rfl rfl x3_.toNatClampNeg rfl h.1 dX12_count_180 ?_
        have h := h.2
        refine lv_iconst (v := (-1)) hx hb dX12_count_181 (by decide) ?_
        refine lv_icmp_ne (tgt := 189) hx hb dX12_count_182 (by decide) (fun c2 => ?_) (fun c2 => ?_)
        · have h := h.1 c2
          refine lv_iconst (v := 1) hx hb dX12_count_189 (by decide) ?_
          refine lv_iadd hx hb dX12_count_190 ?_
          refine lv_topi (fun x3 ex3 => ?_)
          have h := h x3 ex3
          refine lv_istore_n (lv' := [(2, .int x3), (0, .ref (aM 0)), (3, .int x3_)]) hx hb dX12_count_191 rfl hl (by decide) rfl (fun ls hl => ?_)
          refine lv_iinc (v := (x3_ + 1)) (lv' := [(3, .int (x3_ + 1)), (2, .int x3), (0, .ref (aM 0))]) hx hb dX12_count_192 hl (k := 2) rfl rfl (by decide) rfl (fun ls hl => ?_)
          refine lv_goto (tgt := 169) hx hb dX12_count_195 (by decide) ?_
          exact ih169 x3 (x3_ + 1) _ _ _ h hP hD hS (lv_sub hl [2, 1, 0] rfl)
        · have h := h.2 c2
          refine lv_iconst (v := 0) hx hb dX12_count_185 (by decide) ?_
          refine lv_goto (tgt := 190) hx hb dX12_count_186 (by decide) ?_
          refine lv_iadd hx hb dX12_count_190 ?_
          refine lv_topi (fun x4 ex4 => ?_)
          have h := h x4 ex4
          refine lv_istore_n (lv' := [(2, .int x4), (0, .ref (aM 0)), (3, .int x3_)]) hx hb dX12_count_191 rfl hl (by decide) rfl (fun ls hl => ?_)
          refine lv_iinc (v := (x3_ + 1)) (lv' := [(3, .int (x3_ + 1)), (2, .int x4), (0, .ref (aM 0))]) hx hb dX12_count_192 hl (k := 2) rfl rfl (by decide) rfl (fun ls hl => ?_)
          refine lv_goto (tgt := 169) hx hb dX12_count_195 (by decide) ?_
          exact ih169 x4 (x3_ + 1) _ _ _ h hP hD hS (lv_sub hl [2, 1, 0] rfl)
  refine lv_aload_n hx hb dX12_count_0 rfl (lv_at hl 0 rfl) ?_
  refine lv_iconst (v := 0) hx hb dX12_count_1 (by decide) ?_
  refine va_put (D := D) (ci := 12) (v := .int 0) (ty := .int) (C := RX12) (T := TX12) (N := 51) hx hb hw inW_X12 tyX12 tyX12_ok nmX12 hown hK hP hD hS 0 rfl rfl 0 (by decide) (hw _ mw_6_43) (fun _ h9 => h9) rfl (by decide +kernel) rfl rfl (Nat.le_of_ble_eq_true rfl) dX12_count_2 (fun H locs hP hD hS => ?_)
  refine lv_iconst (v := 0) hx hb dX12_count_5 (by decide) ?_
  refine lv_istore_n (lv' := [(2, .int 0), (0, .ref (aM 0)), (1, .int p1)]) hx hb dX12_count_6 rfl hl (by decide) rfl (fun ls hl => ?_)
  refine lv_iload_n hx hb dX12_count_7 rfl (lv_at hl 2 rfl) ?_
  by_cases c5_0 : p1 = 0
  · refine lv_tableIn (tgt := 76) hx hb dX12_count_8 (by rw [c5_0] <;> decide) (by rw [c5_0] <;> decide) (by rw [c5_0] <;> rfl) (by decide) ?_
    have h := h.1 c5_0
    refine lv_aload_n hx hb dX12_count_76 rfl (lv_at hl 1 rfl) ?_
    refine va_get (D := D) (ci := 12) (v := .ref (aM 7)) (C := RX12) (T := TX12) (N := 51) hx hb hw inW_X12 hown hK hP 0 rfl rfl 17 (by decide) (hw _ mw_6_60) (fun _ h9 => h9) rfl dX12_count_77 ?_
    refine lv_iconst (v := 0) hx hb dX12_count_80 (by decide) ?_
    refine cIald hx hb hK hP 7 0 rfl rfl 0 (by decide +kernel) (cIn (by decide +kernel)) dX12_count_81 ?_
    have hP : va_P D vwCl (List.flatten (wM aM C (va_up ms 0 0) mw ma ml)) H := hP
    have hD : va_D A (List.flatten (wM aM C (va_up ms 0 0) mw ma ml)) := hD
    rw [← hQ]
    exact cRetI (v := (ma 4 0)) ((va_up ms 0 0)) hx hb hr hlocks hS hP hD h dX12_count_82
  by_cases c5_1 : p1 = 1
  · refine lv_tableIn (tgt := 83) hx hb dX12_count_8 (by rw [c5_1] <;> decide) (by rw [c5_1] <;> decide) (by rw [c5_1] <;> rfl) (by decide) ?_
    have h := h.2.1 c5_1
    refine lv_aload_n hx hb dX12_count_83 rfl (lv_at hl 1 rfl) ?_
    refine va_get (D := D) (ci := 12) (v := .ref (aM 8)) (C := RX12) (T := TX12) (N := 51) hx hb hw inW_X12 hown hK hP 0 rfl rfl 18 (by decide) (hw _ mw_6_61) (fun _ h9 => h9) rfl dX12_count_84 ?_
    refine lv_iconst (v := 0) hx hb dX12_count_87 (by decide) ?_
    refine cIald hx hb hK hP 8 0 rfl rfl 0 (by decide +kernel) (cIn (by decide +kernel)) dX12_count_88 ?_
    have hP : va_P D vwCl (List.flatten (wM aM C (va_up ms 0 0) mw ma ml)) H := hP
    have hD : va_D A (List.flatten (wM aM C (va_up ms 0 0) mw ma ml)) := hD
    rw [← hQ]
    exact cRetI (v := (ma 5 0)) ((va_up ms 0 0)) hx hb hr hlocks hS hP hD h dX12_count_89
  by_cases c5_2 : p1 = 2
  · refine lv_tableIn (tgt := 90) hx hb dX12_count_8 (by rw [c5_2] <;> decide) (by rw [c5_2] <;> decide) (by rw [c5_2] <;> rfl) (by decide) ?_
    have h := h.2.2.1 c5_2
    refine lv_aload_n hx hb dX12_count_90 rfl (lv_at hl 1 rfl) ?_
    refine va_get (D := D) (ci := 12) (v := .ref (aM 9)) (C := RX12) (T := TX12) (N := 51) hx hb hw inW_X12 hown hK hP 0 rfl rfl 19 (by decide) (hw _ mw_6_62) (fun _ h9 => h9) rfl dX12_count_91 ?_
    refine lv_iconst (v := 0) hx hb dX12_count_94 (by decide) ?_
    refine cIald hx hb hK hP 9 0 rfl rfl 0 (by decide +kernel) (cIn (by decide +kernel)) dX12_count_95 ?_
    have hP : va_P D vwCl (List.flatten (wM aM C (va_up ms 0 0) mw ma ml)) H := hP
    have hD : va_D A (List.flatten (wM aM C (va_up ms 0 0) mw ma ml)) := hD
    rw [← hQ]
    exact cRetI (v := (ma 6 0)) ((va_up ms 0 0)) hx hb hr hlocks hS hP hD h dX12_count_96
  by_cases c5_3 : p1 = 3
  · refine lv_tableIn (tgt := 97) hx hb dX12_count_8 (by rw [c5_3] <;> decide) (by rw [c5_3] <;> decide) (by rw [c5_3] <;> rfl) (by decide) ?_
    have h := h.2.2.2.1 c5_3
    refine lv_aload_n hx hb dX12_count_97 rfl (lv_at hl 1 rfl) ?_
    refine va_get (D := D) (ci := 12) (v := .ref (aM 11)) (C := RX12) (T := TX12) (N := 51) hx hb hw inW_X12 hown hK hP 0 rfl rfl 21 (by decide) (hw _ mw_6_64) (fun _ h9 => h9) rfl dX12_count_98 ?_
    refine lv_iconst (v := 0) hx hb dX12_count_101 (by decide) ?_
    refine cIald hx hb hK hP 11 0 rfl rfl 0 (by decide +kernel) (cIn (by decide +kernel)) dX12_count_102 ?_
    have hP : va_P D vwCl (List.flatten (wM aM C (va_up ms 0 0) mw ma ml)) H := hP
    have hD : va_D A (List.flatten (wM aM C (va_up ms 0 0) mw ma ml)) := hD
    rw [← hQ]
    exact cRetI (v := (ma 8 0)) ((va_up ms 0 0)) hx hb hr hlocks hS hP hD h dX12_count_103
  by_cases c5_4 : p1 = 4
  · refine lv_tableIn (tgt := 104) hx hb dX12_count_8 (by rw [c5_4] <;> decide) (by rw [c5_4] <;> decide) (by rw [c5_4] <;> rfl) (by decide) ?_
    have h := h.2.2.2.2.1 c5_4
    refine lv_aload_n hx hb dX12_count_104 rfl (lv_at hl 1 rfl) ?_
    refine va_get (D := D) (ci := 12) (v := .ref (aM 13)) (C := RX12) (T := TX12) (N := 51) hx hb hw inW_X12 hown hK hP 0 rfl rfl 23 (by decide) (hw _ mw_6_66) (fun _ h9 => h9) rfl dX12_count_105 ?_
    refine lv_iconst (v := 0) hx hb dX12_count_108 (by decide) ?_
    refine cIald hx hb hK hP 13 0 rfl rfl 0 (by decide +kernel) (cIn (by decide +kernel)) dX12_count_109 ?_
    have hP : va_P D vwCl (List.flatten (wM aM C (va_up ms 0 0) mw ma ml)) H := hP
    have hD : va_D A (List.flatten (wM aM C (va_up ms 0 0) mw ma ml)) := hD
    rw [← hQ]
    exact cRetI (v := (ma 10 0)) ((va_up ms 0 0)) hx hb hr hlocks hS hP hD h dX12_count_110
  by_cases c5_5 : p1 = 5
  · refine lv_tableIn (tgt := 111) hx hb dX12_count_8 (by rw [c5_5] <;> decide) (by rw [c5_5] <;> decide) (by rw [c5_5] <;> rfl) (by decide) ?_
    have h := h.2.2.2.2.2.1 c5_5
    refine lv_aload_n hx hb dX12_count_111 rfl (lv_at hl 1 rfl) ?_
    refine va_get (D := D) (ci := 12) (v := .ref (aM 15)) (C := RX12) (T := TX12) (N := 51) hx hb hw inW_X12 hown hK hP 0 rfl rfl 25 (by decide) (hw _ mw_6_68) (fun _ h9 => h9) rfl dX12_count_112 ?_
    refine lv_iconst (v := 0) hx hb dX12_count_115 (by decide) ?_
    refine cIald hx hb hK hP 15 0 rfl rfl 0 (by decide +kernel) (cIn (by decide +kernel)) dX12_count_116 ?_
    have hP : va_P D vwCl (List.flatten (wM aM C (va_up ms 0 0) mw ma ml)) H := hP
    have hD : va_D A (List.flatten (wM aM C (va_up ms 0 0) mw ma ml)) := hD
    rw [← hQ]
    exact cRetI (v := (ma 12 0)) ((va_up ms 0 0)) hx hb hr hlocks hS hP hD h dX12_count_117
  by_cases c5_6 : p1 = 6
  · refine lv_tableIn (tgt := 118) hx hb dX12_count_8 (by rw [c5_6] <;> decide) (by rw [c5_6] <;> decide) (by rw [c5_6] <;> rfl) (by decide) ?_
    have h := h.2.2.2.2.2.2.1 c5_6
    refine lv_aload_n hx hb dX12_count_118 rfl (lv_at hl 1 rfl) ?_
    refine va_get (D := D) (ci := 12) (v := .ref (aM 6)) (C := RX12) (T := TX12) (N := 51) hx hb hw inW_X12 hown hK hP 0 rfl rfl 16 (by decide) (hw _ mw_6_59) (fun _ h9 => h9) rfl dX12_count_119 ?_
    refine lv_iconst (v := 0) hx hb dX12_count_122 (by decide) ?_
    refine cIald hx hb hK hP 6 0 rfl rfl 0 (by decide +kernel) (cIn (by decide +kernel)) dX12_count_123 ?_
    have hP : va_P D vwCl (List.flatten (wM aM C (va_up ms 0 0) mw ma ml)) H := hP
    have hD : va_D A (List.flatten (wM aM C (va_up ms 0 0) mw ma ml)) := hD
    rw [← hQ]
    exact cRetI (v := (ma 3 0)) ((va_up ms 0 0)) hx hb hr hlocks hS hP hD h dX12_count_124
  by_cases c5_7 : p1 = 7
  · refine lv_tableIn (tgt := 125) hx hb dX12_count_8 (by rw [c5_7] <;> decide) (by rw [c5_7] <;> decide) (by rw [c5_7] <;> rfl) (by decide) ?_
    have h := h.2.2.2.2.2.2.2.1 c5_7
    refine lv_aload_n hx hb dX12_count_125 rfl (lv_at hl 1 rfl) ?_
    refine va_get (D := D) (ci := 12) (v := .int (ms 1)) (C := RX12) (T := TX12) (N := 51) hx hb hw inW_X12 hown hK hP 0 rfl rfl 6 (by decide) (hw _ mw_6_49) (fun _ h9 => h9) rfl dX12_count_126 ?_
    have hP : va_P D vwCl (List.flatten (wM aM C (va_up ms 0 0) mw ma ml)) H := hP
    have hD : va_D A (List.flatten (wM aM C (va_up ms 0 0) mw ma ml)) := hD
    rw [← hQ]
    exact cRetI (v := (ms 1)) ((va_up ms 0 0)) hx hb hr hlocks hS hP hD h dX12_count_129
  by_cases c5_8 : p1 = 8
  · refine lv_tableIn (tgt := 130) hx hb dX12_count_8 (by rw [c5_8] <;> decide) (by rw [c5_8] <;> decide) (by rw [c5_8] <;> rfl) (by decide) ?_
    have h := h.2.2.2.2.2.2.2.2.1 c5_8
    refine lv_aload_n hx hb dX12_count_130 rfl (lv_at hl 1 rfl) ?_
    refine lv_iconst (v := 0) hx hb dX12_count_131 (by decide) ?_
    have hP : va_P D vwCl (List.flatten (wM aM C (va_up ms 0 0) mw ma ml)) H := hP
    have hD : va_D A (List.flatten (wM aM C (va_up ms 0 0) mw ma ml)) := hD
    refine cGoI (wo := fun u => wM aM C (va_up ms 0 0) mw ma ml) (cRunV (As := [.int 0]) (rest := []) ⟨hx, hb, hml, hown, hw⟩ hK hN hP hD [0, 1, 2, 3, 4, 5, 6, 7, 8, 9, 10, 11, 12, 13, 14, 15, 16, 17, 18, 19, 20, 21, 22, 23, 24, 25, 26, 27, 28, 29, 30, 31, 32] rfl rfl (k_X12_markedOn l D C _ aM  (va_up ms 0 0) mw ma ml 0 h) (cwV 1 hw (goodV mw_7_172 mw_7_174 mw_s137 mw_1_13 mw_7_175) rfl rfl rfl (by decide +kernel) ⟨Nat.le_of_ble_eq_true rfl, Nat.le_of_ble_eq_true rfl⟩) rfl rfl rfl hl.1 rfl (Nat.le_of_ble_eq_true rfl) dX12_count_132 ⟨Nat.zero_le _, Nat.zero_le _⟩) hP hD hS hA [0, 1, 2, 3, 4, 5, 6, 7, 8, 9, 10, 11, 12, 13, 14, 15, 16, 17, 18, 19, 20, 21, 22, 23, 24, 25, 26, 27, 28, 29, 30, 31, 32] [] [0, 1, 2, 3, 4, 5, 6, 7, 8, 9, 10, 11, 12, 13, 14, 15, 16, 17, 18, 19, 20, 21, 22, 23, 24, 25, 26, 27, 28, 29, 30, 31, 32] rfl rfl rfl (by decide) rfl (fun _ => rfl) (fun r6 u H locs h hP hD hS => ?_)
    have hP : va_P D vwCl (List.flatten (wM aM C (va_up ms 0 0) mw ma ml)) H := hP
    have hD : va_D A (List.flatten (wM aM C (va_up ms 0 0) mw ma ml)) := hD
    rw [← hQ]
    exact cRetI (v := r6) ((va_up ms 0 0)) hx hb hr hlocks hS hP hD h dX12_count_135
  by_cases c5_9 : p1 = 9
  · refine lv_tableIn (tgt := 136) hx hb dX12_count_8 (by rw [c5_9] <;> decide) (by rw [c5_9] <;> decide) (by rw [c5_9] <;> rfl) (by decide) ?_
    have h := h.2.2.2.2.2.2.2.2.2.1 c5_9
    refine lv_aload_n hx hb dX12_count_136 rfl (lv_at hl 1 rfl) ?_
    refine va_get (D := D) (ci := 12) (v := .ref (aM 17)) (C := RX12) (T := TX12) (N := 51) hx hb hw inW_X12 hown hK hP 0 rfl rfl 27 (by decide) (hw _ mw_6_70) (fun _ h9 => h9) rfl dX12_count_137 ?_
    refine lv_bipush (v := 6) hx hb dX12_count_140 (by decide) ?_
    refine cIald hx hb hK hP 17 0 rfl rfl 6 (by decide +kernel) (cIn (by decide +kernel)) dX12_count_142 ?_
    have hP : va_P D vwCl (List.flatten (wM aM C (va_up ms 0 0) mw ma ml)) H := hP
    have hD : va_D A (List.flatten (wM aM C (va_up ms 0 0) mw ma ml)) := hD
    rw [← hQ]
    exact cRetI (v := (ma 14 6)) ((va_up ms 0 0)) hx hb hr hlocks hS hP hD h dX12_count_143
  by_cases c5_10 : p1 = 10
  · refine lv_tableIn (tgt := 144) hx hb dX12_count_8 (by rw [c5_10] <;> decide) (by rw [c5_10] <;> decide) (by rw [c5_10] <;> rfl) (by decide) ?_
    have h := h.2.2.2.2.2.2.2.2.2.2.1 c5_10
    refine lv_aload_n hx hb dX12_count_144 rfl (lv_at hl 1 rfl) ?_
    have hP : va_P D vwCl (List.flatten (wM aM C (va_up ms 0 0) mw ma ml)) H := hP
    have hD : va_D A (List.flatten (wM aM C (va_up ms 0 0) mw ma ml)) := hD
    refine cGoI (wo := fun u => wM aM C (va_up ms 0 0) mw ma ml) (cRunV (As := []) (rest := []) ⟨hx, hb, hml, hown, hw⟩ hK hN hP hD [0, 1, 2, 3, 4, 5, 6, 7, 8, 9, 10, 11, 12, 13, 14, 15, 16, 17, 18, 19, 20, 21, 22, 23, 24, 25, 26, 27, 28, 29, 30, 31, 32] rfl rfl (k_X12_isRail l D C _ aM  (va_up ms 0 0) mw ma ml  h) (cwV 0 hw (goodV mw_7_204 mw_7_206 mw_s142 mw_1_13 mw_7_207) rfl rfl rfl (by decide +kernel) ⟨Nat.le_of_ble_eq_true rfl, Nat.le_of_ble_eq_true rfl⟩) rfl rfl rfl hl.1 rfl (Nat.le_of_ble_eq_true rfl) dX12_count_145 ⟨Nat.zero_le _, Nat.zero_le _⟩) hP hD hS hA [0, 1, 2, 3, 4, 5, 6, 7, 8, 9, 10, 11, 12, 13, 14, 15, 16, 17, 18, 19, 20, 21, 22, 23, 24, 25, 26, 27, 28, 29, 30, 31, 32] [] [0, 1, 2, 3, 4, 5, 6, 7, 8, 9, 10, 11, 12, 13, 14, 15, 16, 17, 18, 19, 20, 21, 22, 23, 24, 25, 26, 27, 28, 29, 30, 31, 32] rfl rfl rfl (by decide) rfl (fun _ => rfl) (fun r7 u H locs h hP hD hS => ?_)
    have hP : va_P D vwCl (List.flatten (wM aM C (va_up ms 0 0) mw ma ml)) H := hP
    have hD : va_D A (List.flatten (wM aM C (va_up ms 0 0) mw ma ml)) := hD
    refine lv_if_eq (tgt := 158) hx hb dX12_count_148 (by decide) (fun c8 => ?_) (fun c8 => ?_)
    · have h := h.1 c8
      refine lv_iconst (v := 0) hx hb dX12_count_158 (by decide) ?_
      rw [← hQ]
      exact cRetI (v := 0) ((va_up ms 0 0)) hx hb hr hlocks hS hP hD h dX12_count_159
    · have h := h.2 c8
      refine lv_aload_n hx hb dX12_count_151 rfl (lv_at hl 1 rfl) ?_
      refine cGoI (wo := fun u => wM aM C (va_up ms 0 0) mw ma ml) (cRunV (As := []) (rest := []) ⟨hx, hb, hml, hown, hw⟩ hK hN hP hD [0, 1, 2, 3, 4, 5, 6, 7, 8, 9, 10, 11, 12, 13, 14, 15, 16, 17, 18, 19, 20, 21, 22, 23, 24, 25, 26, 27, 28, 29, 30, 31, 32] rfl rfl (k_X12_optionMany l D C _ aM  (va_up ms 0 0) mw ma ml  h) (cwV 0 hw (goodV mw_8_40 mw_8_42 mw_s153 mw_1_13 mw_8_43) rfl rfl rfl (by decide +kernel) ⟨Nat.le_of_ble_eq_true rfl, Nat.le_of_ble_eq_true rfl⟩) rfl rfl rfl hl.1 rfl (Nat.le_of_ble_eq_true rfl) dX12_count_152 ⟨Nat.zero_le _, Nat.zero_le _⟩) hP hD hS hA [0, 1, 2, 3, 4, 5, 6, 7, 8, 9, 10, 11, 12, 13, 14, 15, 16, 17, 18, 19, 20, 21, 22, 23, 24, 25, 26, 27, 28, 29, 30, 31, 32] [] [0, 1, 2, 3, 4, 5, 6, 7, 8, 9, 10, 11, 12, 13, 14, 15, 16, 17, 18, 19, 20, 21, 22, 23, 24, 25, 26, 27, 28, 29, 30, 31, 32] rfl rfl rfl (by decide) rfl (fun _ => rfl) (fun r9 u H locs h hP hD hS => ?_)
      have hP : va_P D vwCl (List.flatten (wM aM C (va_up ms 0 0) mw ma ml)) H := hP
      have hD : va_D A (List.flatten (wM aM C (va_up ms 0 0) mw ma ml)) := hD
      refine lv_goto (tgt := 159) hx hb dX12_count_155 (by decide) ?_
      rw [← hQ]
      exact cRetI (v := r9) ((va_up ms 0 0)) hx hb hr hlocks hS hP hD h dX12_count_159
  by_cases c5_11 : p1 = 11
  · refine lv_tableIn (tgt := 160) hx hb dX12_count_8 (by rw [c5_11] <;> decide) (by rw [c5_11] <;> decide) (by rw [c5_11] <;> rfl) (by decide) ?_
    have h := h.2.2.2.2.2.2.2.2.2.2.2.1 c5_11
    refine lv_aload_n hx hb dX12_count_160 rfl (lv_at hl 1 rfl) ?_
    refine va_get (D := D) (ci := 12) (v := .ref (aM 19)) (C := RX12) (T := TX12) (N := 51) hx hb hw inW_X12 hown hK hP 0 rfl rfl 29 (by decide) (hw _ mw_6_72) (fun _ h9 => h9) rfl dX12_count_161 ?_
    refine lv_iconst (v := 0) hx hb dX12_count_164 (by decide) ?_
    refine cIald hx hb hK hP 19 0 rfl rfl 0 (by decide +kernel) (cIn (by decide +kernel)) dX12_count_165 ?_
    have hP : va_P D vwCl (List.flatten (wM aM C (va_up ms 0 0) mw ma ml)) H := hP
    have hD : va_D A (List.flatten (wM aM C (va_up ms 0 0) mw ma ml)) := hD
    rw [← hQ]
    exact cRetI (v := (ma 16 0)) ((va_up ms 0 0)) hx hb hr hlocks hS hP hD h dX12_count_166
  by_cases c5_12 : p1 = 12
  · refine lv_tableIn (tgt := 167) hx hb dX12_count_8 (by rw [c5_12] <;> decide) (by rw [c5_12] <;> decide) (by rw [c5_12] <;> rfl) (by decide) ?_
    have h := h.2.2.2.2.2.2.2.2.2.2.2.2.1 c5_12
    refine lv_iconst (v := 0) hx hb dX12_count_167 (by decide) ?_
    refine lv_istore_n (lv' := [(3, .int 0), (2, .int 0), (0, .ref (aM 0)), (1, .int p1)]) hx hb dX12_count_168 rfl hl (by decide) rfl (fun ls hl => ?_)
    have hP : va_P D vwCl (List.flatten (wM aM C (va_up ms 0 0) mw ma ml)) H := hP
    have hD : va_D A (List.flatten (wM aM C (va_up ms 0 0) mw ma ml)) := hD
    obtain ⟨n, h⟩ := h
    exact N169 (va_up ms 0 0) n 0 0 _ _ _ h hP hD hS (lv_sub hl [2, 1, 0] rfl)
  refine lv_tableOut (tgt := 200) hx hb dX12_count_8 (sw_out13 c5_0 c5_1 c5_2 c5_3 c5_4 c5_5 c5_6 c5_7 c5_8 c5_9 c5_10 c5_11 c5_12) (by decide) ?_
  have h := h.2.2.2.2.2.2.2.2.2.2.2.2.2 c5_0 c5_1 c5_2 c5_3 c5_4 c5_5 c5_6 c5_7 c5_8 c5_9 c5_10 c5_11 c5_12
  refine lv_iconst (v := (-1)) hx hb dX12_count_200 (by decide) ?_
  have hP : va_P D vwCl (List.flatten (wM aM C (va_up ms 0 0) mw ma ml)) H := hP
  have hD : va_D A (List.flatten (wM aM C (va_up ms 0 0) mw ma ml)) := hD
  rw [← hQ]
  exact cRetI (v := (-1)) ((va_up ms 0 0)) hx hb hr hlocks hS hP hD h dX12_count_201
abbrev vsX12_keep : List Cond := Cond.code yX12_keep cX12_keep 2 (some .int) :: WS
abbrev rmX12_keep : Room := { frames := 2, cells := 0, slots := 0, locals := 46 }
set_option maxHeartbeats 4000000 in
set_option maxRecDepth 100000 in
theorem k_X12_keep (l : Launch) (D : va_G) (C : Nat → ClassId) (sz : Nat) (aM : Nat → Nat)  (ms : Nat → Int32) (mw : Nat → Int64) (ma : Nat → Nat → Int32) (ml : Nat → Nat → Int64) (p1 : Int32) {post : Int32 → (Nat → Int32) → (Nat → Nat → Int32) → Prop} (h : P_X12_keep ms ma p1 post) : Met l yX12_keep vsX12_keep rmX12_keep (cPre D C [.ref (aM 0), .int p1] sz (wM aM C ms mw ma ml)) (cQi D (fun (r : Int32) (u : (Nat → Int32) × (Nat → Nat → Int32)) => post r u.1 u.2) (fun u => wM aM C u.1 mw u.2 ml) (va_A (List.flatten (wM aM C ms mw ma ml)) sz)) 0 0 (va_A (List.flatten (wM aM C ms mw ma ml)) sz) := by
  refine cStart (QA := fun A => cQi D (fun (r : Int32) (u : (Nat → Int32) × (Nat → Nat → Int32)) => post r u.1 u.2) (fun u => wM aM C u.1 mw u.2 ml) A) (cc := cX12_keep) (maxL := 2) (ret := (some .int)) (by decide) (Nat.le_of_ble_eq_true rfl) ?_
  intro p e s m args below meth c A ls hx hb hr hml hown hw hlocks hname hK hN hA hP hD hS hl
  generalize hQ : MQ below _ args s 0 0 A = Q
  have hl : lv_has ls 2 [(0, .ref (aM 0)), (1, .int p1)] := hl
  obtain ⟨H, hH⟩ : ∃ H, H = s.heap := ⟨_, rfl⟩
  obtain ⟨locs, hlo⟩ : ∃ z : List Loc, z = [] := ⟨_, rfl⟩
  have hP : va_P D vwCl (List.flatten (wM aM C ms mw ma ml)) H := by rw [hH]; exact hP
  have hS : va_S A s.heap H locs := by rw [hH, hlo]; exact hS
  rw [show W p l e rmX12_keep s m args below meth c s.heap [] 0 0 Q (F0 m 0 ls []) = W p l e rmX12_keep s m args below meth c H locs 0 0 Q (F0 m 0 ls []) from by rw [hH, hlo]]
  refine lv_aload_n hx hb dX12_keep_0 rfl (lv_at hl 0 rfl) ?_
  refine lv_iconst (v := 0) hx hb dX12_keep_1 (by decide) ?_
  refine va_put (D := D) (ci := 12) (v := .int 0) (ty := .int) (C := RX12) (T := TX12) (N := 51) hx hb hw inW_X12 tyX12 tyX12_ok nmX12 hown hK hP hD hS 0 rfl rfl 0 (by decide) (hw _ mw_6_43) (fun _ h9 => h9) rfl (by decide +kernel) rfl rfl (Nat.le_of_ble_eq_true rfl) dX12_keep_2 (fun H locs hP hD hS => ?_)
  refine lv_iload_n hx hb dX12_keep_5 rfl (lv_at hl 1 rfl) ?_
  refine lv_i2l hx hb dX12_keep_6 rfl ?_
  refine lv_lconst (v := 0) hx hb dX12_keep_7 (by decide) ?_
  refine lv_ldc2 (v := 2) hx hb hown (hw _ mw_8_1) dX12_keep_8 ?_
  have hP : va_P D vwCl (List.flatten (wM aM C (va_up ms 0 0) mw ma ml)) H := hP
  have hD : va_D A (List.flatten (wM aM C (va_up ms 0 0) mw ma ml)) := hD
  refine cGoI (wo := fun u => wM aM C (va_up ms 0 0) mw ma ml) (cRunS (As := [.long p1.toInt64, .long 0, .long 2]) (rest := []) ⟨hx, hb, hml, hown, hw⟩ hK hN hP hD [] rfl rfl (k_X12_in l D C _    p1.toInt64 0 2 h) (va_cwS 3 hw (goodS mw_6_205 mw_6_206 mw_1_13 mw_6_207) rfl rfl rfl (by decide +kernel) ⟨Nat.le_of_ble_eq_true rfl, Nat.le_of_ble_eq_true rfl⟩) rfl hl.1 rfl (Nat.le_of_ble_eq_true rfl) dX12_keep_11 ⟨Nat.zero_le _, Nat.zero_le _⟩) hP hD hS hA [] [0, 1, 2, 3, 4, 5, 6, 7, 8, 9, 10, 11, 12, 13, 14, 15, 16, 17, 18, 19, 20, 21, 22, 23, 24, 25, 26, 27, 28, 29, 30, 31, 32] [0, 1, 2, 3, 4, 5, 6, 7, 8, 9, 10, 11, 12, 13, 14, 15, 16, 17, 18, 19, 20, 21, 22, 23, 24, 25, 26, 27, 28, 29, 30, 31, 32] rfl rfl rfl (by decide) rfl (fun _ => rfl) (fun r1 u H locs h hP hD hS => ?_)
  have hP : va_P D vwCl (List.flatten (wM aM C (va_up ms 0 0) mw ma ml)) H := hP
  have hD : va_D A (List.flatten (wM aM C (va_up ms 0 0) mw ma ml)) := hD
  refine lv_if_ne (tgt := 20) hx hb dX12_keep_14 (by decide) (fun c2 => ?_) (fun c2 => ?_)
  · have h := h.1 c2
    refine lv_aload_n hx hb dX12_keep_20 rfl (lv_at hl 0 rfl) ?_
    refine lv_iconst (v := 0) hx hb dX12_keep_21 (by decide) ?_
    refine lv_iconst (v := 1) hx hb dX12_keep_22 (by decide) ?_
    refine lv_iload_n hx hb dX12_keep_23 rfl (lv_at hl 1 rfl) ?_
    refine lv_iadd hx hb dX12_keep_24 ?_
    refine cGoV (wo := fun u => wM aM C (va_up ms 0 0) mw u ml) (cRunV (As := [.int 0, .int (1 + p1)]) (rest := []) ⟨hx, hb, hml, hown, hw⟩ hK hN hP hD [0, 1, 2, 3, 4, 5, 6, 7, 8, 9, 10, 11, 12, 13, 14, 15, 16, 17, 18, 19, 20, 21, 22, 23, 24, 25, 26, 27, 28, 29, 30, 31, 32] rfl rfl (k_X12_copyRail l D C _ aM  (va_up ms 0 0) mw ma ml 0 (1 + p1) h) (cwV 2 hw (goodV mw_7_114 mw_7_116 mw_s130 mw_1_13 mw_7_117) rfl rfl rfl (by decide +kernel) ⟨Nat.le_of_ble_eq_true rfl, Nat.le_of_ble_eq_true rfl⟩) rfl rfl rfl hl.1 rfl (Nat.le_of_ble_eq_true rfl) dX12_keep_25 ⟨Nat.zero_le _, Nat.zero_le _⟩) hP hD hS hA [0, 1, 2, 3, 4, 5, 6, 7, 8, 9, 10, 11, 12, 13, 14, 15, 16, 17, 18, 19, 20, 21, 22, 23, 24, 25, 26, 27, 28, 29, 30, 31, 32] [] [0, 1, 2, 3, 4, 5, 6, 7, 8, 9, 10, 11, 12, 13, 14, 15, 16, 17, 18, 19, 20, 21, 22, 23, 24, 25, 26, 27, 28, 29, 30, 31, 32] rfl rfl rfl (by decide) rfl (fun _ => rfl) (fun ma_3 H locs h hP hD hS => ?_)
    have hP : va_P D vwCl (List.flatten (wM aM C (va_up ms 0 0) mw ma_3 ml)) H := hP
    have hD : va_D A (List.flatten (wM aM C (va_up ms 0 0) mw ma_3 ml)) := hD
    refine lv_aload_n hx hb dX12_keep_28 rfl (lv_at hl 0 rfl) ?_
    refine va_get (D := D) (ci := 12) (v := .ref (aM 20)) (C := RX12) (T := TX12) (N := 51) hx hb hw inW_X12 hown hK hP 0 rfl rfl 30 (by decide) (hw _ mw_6_73) (fun _ h9 => h9) rfl dX12_keep_29 ?_
    refine lv_iload_n hx hb dX12_keep_32 rfl (lv_at hl 1 rfl) ?_
    refine lv_iconst (v := 1) hx hb dX12_keep_33 (by decide) ?_
    refine cZast hx hb hK hP hD hS 20 3 rfl rfl p1.toNatClampNeg rfl h.1 (Or.inr rfl) dX12_keep_34 (fun H locs hP hD hS => ?_)
    have h := h.2
    refine lv_iconst (v := 0) hx hb dX12_keep_35 (by decide) ?_
    have hP : va_P D vwCl (List.flatten (wM aM C (va_up ms 0 0) mw (va_up ma_3 17 (upd (ma_3 17) p1.toNatClampNeg 1)) ml)) H := hP
    have hD : va_D A (List.flatten (wM aM C (va_up ms 0 0) mw (va_up ma_3 17 (upd (ma_3 17) p1.toNatClampNeg 1)) ml)) := hD
    rw [← hQ]
    exact cRetI (v := 0) ((va_up ms 0 0), (va_up ma_3 17 (upd (ma_3 17) p1.toNatClampNeg 1))) hx hb hr hlocks hS hP hD h dX12_keep_36
  · have h := h.2 c2
    refine lv_bipush (v := (-2)) hx hb dX12_keep_17 (by decide) ?_
    rw [← hQ]
    exact cRetI (v := (-2)) ((va_up ms 0 0), ma) hx hb hr hlocks hS hP hD h dX12_keep_19

