abbrev vsX12_in : List Cond := Cond.code yX12_in cX12_in 6 (some .boolean) :: WS
abbrev rmX12_in : Room := { frames := 0, cells := 0, slots := 0, locals := 0 }
set_option maxHeartbeats 4000000 in
set_option maxRecDepth 100000 in
theorem k_X12_in (l : Launch) (D : va_G) (C : Nat → ClassId) (sz : Nat)    (p1 : Int64) (p2 : Int64) (p3 : Int64) {post : Int32 → Prop} (h : P_X12_in p1 p2 p3 post) : Met l yX12_in vsX12_in rmX12_in (cPre D C [.long p1, .long p2, .long p3] sz (([] : List va_W))) (cQi D (fun (r : Int32) (u : Unit) => post r ) (fun u => ([] : List va_W)) (va_A (List.flatten (([] : List va_W))) sz)) 0 0 (va_A (List.flatten (([] : List va_W))) sz) := by
  refine cStart (QA := fun A => cQi D (fun (r : Int32) (u : Unit) => post r ) (fun u => ([] : List va_W)) A) (cc := cX12_in) (maxL := 6) (ret := (some .boolean)) (by decide) (Nat.le_of_ble_eq_true rfl) ?_
  intro p e s m args below meth c A ls hx hb hr hml hown hw hlocks hname hK hN hA hP hD hS hl
  generalize hQ : MQ below _ args s 0 0 A = Q
  have hl : lv_has ls 6 [(0, .long p1), (2, .long p2), (4, .long p3)] := hl
  obtain ⟨H, hH⟩ : ∃ H, H = s.heap := ⟨_, rfl⟩
  obtain ⟨locs, hlo⟩ : ∃ z : List Loc, z = [] := ⟨_, rfl⟩
  have hP : va_P D vwCl (List.flatten (([] : List va_W))) H := by rw [hH]; exact hP
  have hS : va_S A s.heap H locs := by rw [hH, hlo]; exact hS
  rw [show W p l e rmX12_in s m args below meth c s.heap [] 0 0 Q (F0 m 0 ls []) = W p l e rmX12_in s m args below meth c H locs 0 0 Q (F0 m 0 ls []) from by rw [hH, hlo]]
  refine lv_lload_n hx hb dX12_in_0 rfl (lv_at hl 0 rfl) ?_
  refine lv_lload_n hx hb dX12_in_1 rfl (lv_at hl 1 rfl) ?_
  refine W.lcmp hx hb dX12_in_2 ?_
  refine lv_if_lt (tgt := 17) hx hb dX12_in_3 (by decide) (fun c1 => ?_) (fun c1 => ?_)
  · have c1 : p1 < p2 := (lg_cmp_lt _ _).mp c1
    have h := h.1 c1
    refine lv_iconst (v := 0) hx hb dX12_in_17 (by decide) ?_
    rw [← hQ]
    exact cRetZ (v := 0) () hx hb hr hlocks hS hP hD (Or.inl rfl) h dX12_in_18
  · have c1 : ¬ p1 < p2 := fun q => c1 ((lg_cmp_lt _ _).mpr q)
    have h := h.2 c1
    refine lv_lload_n hx hb dX12_in_6 rfl (lv_at hl 0 rfl) ?_
    refine lv_lload hx hb dX12_in_7 (lv_at hl 2 rfl) ?_
    refine W.lcmp hx hb dX12_in_9 ?_
    refine lv_if_gt (tgt := 17) hx hb dX12_in_10 (by decide) (fun c2 => ?_) (fun c2 => ?_)
    · have c2 : p3 < p1 := (lg_cmp_gt _ _).mp c2
      have h := h.1 c2
      refine lv_iconst (v := 0) hx hb dX12_in_17 (by decide) ?_
      rw [← hQ]
      exact cRetZ (v := 0) () hx hb hr hlocks hS hP hD (Or.inl rfl) h dX12_in_18
    · have c2 : ¬ p3 < p1 := fun q => c2 ((lg_cmp_gt _ _).mpr q)
      have h := h.2 c2
      refine lv_iconst (v := 1) hx hb dX12_in_13 (by decide) ?_
      refine lv_goto (tgt := 18) hx hb dX12_in_14 (by decide) ?_
      rw [← hQ]
      exact cRetZ (v := 1) () hx hb hr hlocks hS hP hD (Or.inr rfl) h dX12_in_18
abbrev vsX12_isSlot : List Cond := Cond.code yX12_isSlot cX12_isSlot 1 (some .boolean) :: WS
abbrev rmX12_isSlot : Room := { frames := 1, cells := 0, slots := 0, locals := 25 }
set_option maxHeartbeats 4000000 in
set_option maxRecDepth 100000 in
theorem k_X12_isSlot (l : Launch) (D : va_G) (C : Nat → ClassId) (sz : Nat)    (p1 : Int32) {post : Int32 → Prop} (h : P_X12_isSlot p1 post) : Met l yX12_isSlot vsX12_isSlot rmX12_isSlot (cPre D C [.int p1] sz (([] : List va_W))) (cQi D (fun (r : Int32) (u : Unit) => post r ) (fun u => ([] : List va_W)) (va_A (List.flatten (([] : List va_W))) sz)) 0 0 (va_A (List.flatten (([] : List va_W))) sz) := by
  refine cStart (QA := fun A => cQi D (fun (r : Int32) (u : Unit) => post r ) (fun u => ([] : List va_W)) A) (cc := cX12_isSlot) (maxL := 1) (ret := (some .boolean)) (by decide) (Nat.le_of_ble_eq_true rfl) ?_
  intro p e s m args below meth c A ls hx hb hr hml hown hw hlocks hname hK hN hA hP hD hS hl
  generalize hQ : MQ below _ args s 0 0 A = Q
  have hl : lv_has ls 1 [(0, .int p1)] := hl
  obtain ⟨H, hH⟩ : ∃ H, H = s.heap := ⟨_, rfl⟩
  obtain ⟨locs, hlo⟩ : ∃ z : List Loc, z = [] := ⟨_, rfl⟩
  have hP : va_P D vwCl (List.flatten (([] : List va_W))) H := by rw [hH]; exact hP
  have hS : va_S A s.heap H locs := by rw [hH, hlo]; exact hS
  rw [show W p l e rmX12_isSlot s m args below meth c s.heap [] 0 0 Q (F0 m 0 ls []) = W p l e rmX12_isSlot s m args below meth c H locs 0 0 Q (F0 m 0 ls []) from by rw [hH, hlo]]
  refine lv_iload_n hx hb dX12_isSlot_0 rfl (lv_at hl 0 rfl) ?_
  refine lv_i2l hx hb dX12_isSlot_1 rfl ?_
  refine lv_lconst (v := 0) hx hb dX12_isSlot_2 (by decide) ?_
  refine lv_ldc2 (v := 3) hx hb hown (hw _ mw_6_204) dX12_isSlot_3 ?_
  refine cGoI (wo := fun u => ([] : List va_W)) (cRunS (As := [.long p1.toInt64, .long 0, .long 3]) (rest := []) ⟨hx, hb, hml, hown, hw⟩ hK hN hP hD [] rfl rfl (k_X12_in l D C _    p1.toInt64 0 3 h) (va_cwS 3 hw (goodS mw_6_205 mw_6_206 mw_1_13 mw_6_207) rfl rfl rfl (by decide +kernel) ⟨Nat.le_of_ble_eq_true rfl, Nat.le_of_ble_eq_true rfl⟩) rfl hl.1 rfl (Nat.le_of_ble_eq_true rfl) dX12_isSlot_6 ⟨Nat.zero_le _, Nat.zero_le _⟩) hP hD hS hA [] [] [] rfl rfl rfl (by decide) rfl (fun _ => rfl) (fun r1 u H locs h hP hD hS => ?_)
  have hP : va_P D vwCl (List.flatten (([] : List va_W))) H := hP
  have hD : va_D A (List.flatten (([] : List va_W))) := hD
  rw [← hQ]
  exact cRetZ (v := r1) () hx hb hr hlocks hS hP hD h.1 h.2 dX12_isSlot_9
abbrev vsX12_row : List Cond := Cond.code yX12_row cX12_row 5 (some .int) :: WS
abbrev rmX12_row : Room := { frames := 2, cells := 0, slots := 0, locals := 45 }
set_option maxHeartbeats 4000000 in
set_option maxRecDepth 100000 in
theorem k_X12_row (l : Launch) (D : va_G) (C : Nat → ClassId) (sz : Nat) (aM : Nat → Nat)  (ms : Nat → Int32) (mw : Nat → Int64) (ma : Nat → Nat → Int32) (ml : Nat → Nat → Int64) (p1 : Int32) (p2 : Int32) (p3 : Int32) {post : Int32 → (Nat → Int32) → (Nat → Nat → Int32) → (Nat → Nat → Int64) → Prop} (h : P_X12_row ms ma ml p1 p2 p3 post) : Met l yX12_row vsX12_row rmX12_row (cPre D C [.ref (aM 0), .int p1, .int p2, .int p3] sz (wM aM C ms mw ma ml)) (cQi D (fun (r : Int32) (u : (Nat → Int32) × (Nat → Nat → Int32) × (Nat → Nat → Int64)) => post r u.1 u.2.1 u.2.2) (fun u => wM aM C u.1 mw u.2.1 u.2.2) (va_A (List.flatten (wM aM C ms mw ma ml)) sz)) 0 0 (va_A (List.flatten (wM aM C ms mw ma ml)) sz) := by
  refine cStart (QA := fun A => cQi D (fun (r : Int32) (u : (Nat → Int32) × (Nat → Nat → Int32) × (Nat → Nat → Int64)) => post r u.1 u.2.1 u.2.2) (fun u => wM aM C u.1 mw u.2.1 u.2.2) A) (cc := cX12_row) (maxL := 5) (ret := (some .int)) (by decide) (Nat.le_of_ble_eq_true rfl) ?_
  intro p e s m args below meth c A ls hx hb hr hml hown hw hlocks hname hK hN hA hP hD hS hl
  generalize hQ : MQ below _ args s 0 0 A = Q
  have hl : lv_has ls 5 [(0, .ref (aM 0)), (1, .int p1), (2, .int p2), (3, .int p3)] := hl
  obtain ⟨H, hH⟩ : ∃ H, H = s.heap := ⟨_, rfl⟩
  obtain ⟨locs, hlo⟩ : ∃ z : List Loc, z = [] := ⟨_, rfl⟩
  have hP : va_P D vwCl (List.flatten (wM aM C ms mw ma ml)) H := by rw [hH]; exact hP
  have hS : va_S A s.heap H locs := by rw [hH, hlo]; exact hS
  rw [show W p l e rmX12_row s m args below meth c s.heap [] 0 0 Q (F0 m 0 ls []) = W p l e rmX12_row s m args below meth c H locs 0 0 Q (F0 m 0 ls []) from by rw [hH, hlo]]
  have N57 : ∀ (ms : Nat → Int32) (ma : Nat → Nat → Int32) (n57 : Nat) (x4_ : Int32) (ml : Nat → Nat → Int64) (H : Heap) (locs : List Loc) (ls : Array Slot), P_X12_row_57 p1 p2 p3 post  ms ma n57 x4_ ml → va_P D vwCl (List.flatten (wM aM C ms mw ma ml)) H → va_D A (List.flatten (wM aM C ms mw ma ml)) → va_S A s.heap H locs → lv_has ls 5 [(0, .ref (aM 0)), (1, .int p1), (3, .int p3), (4, .int x4_)] → W p l e rmX12_row s m args below meth c H locs 0 0 Q (F0 m 57 ls []) := by
    intro ms ma
    intro n57
    induction n57 with
    | zero => intro x4_ ml H locs ls h hP hD hS hl; exact False.elim h
    | succ n57 ih57 =>
      intro x4_ ml H locs ls h hP hD hS hl
      refine lv_iload hx hb dX12_row_57 (lv_at hl 3 rfl) ?_
      refine lv_iload_n hx hb dX12_row_59 rfl (lv_at hl 2 rfl) ?_
      refine lv_icmp_ge (tgt := 82) hx hb dX12_row_60 (by decide) (fun c1 => ?_) (fun c1 => ?_)
      · have h := h.1 c1
        refine lv_iconst (v := 0) hx hb dX12_row_82 (by decide) ?_
        rw [← hQ]
        exact cRetI (v := 0) (ms, ma, ml) hx hb hr hlocks hS hP hD h dX12_row_83
      · have h := h.2 c1
        refine lv_aload_n hx hb dX12_row_63 rfl (lv_at hl 0 rfl) ?_
        refine va_get (D := D) (ci := 12) (v := .ref (aM 3)) (C := RX12) (T := TX12) (N := 51) hx hb hw inW_X12 hown hK hP 0 rfl rfl 3 (by decide) (hw _ mw_6_46) (fun _ h9 => h9) rfl dX12_row_64 ?_
        refine lv_bipush (v := 60) hx hb dX12_row_67 (by decide) ?_
        refine lv_iload_n hx hb dX12_row_69 rfl (lv_at hl 1 rfl) ?_
        refine lv_imul hx hb dX12_row_70 ?_
        refine lv_iload hx hb dX12_row_71 (lv_at hl 3 rfl) ?_
        refine lv_iadd hx hb dX12_row_73 ?_
        refine lv_lconst (v := 0) hx hb dX12_row_74 (by decide) ?_
        refine cLast hx hb hK hP hD hS 3 1 rfl rfl (((60 * p1) + x4_).toNatClampNeg) rfl h.1 dX12_row_75 (fun H locs hP hD hS => ?_)
        have h := h.2
        refine lv_iinc (v := (x4_ + 1)) (lv' := [(4, .int (x4_ + 1)), (0, .ref (aM 0)), (1, .int p1), (3, .int p3)]) hx hb dX12_row_76 hl (k := 3) rfl rfl (by decide) rfl (fun ls hl => ?_)
        refine lv_goto (tgt := 57) hx hb dX12_row_79 (by decide) ?_
        have hP : va_P D vwCl (List.flatten (wM aM C ms mw ma (va_up ml 0 (vp_updL (ml 0) (((60 * p1) + x4_).toNatClampNeg) 0)))) H := hP
        have hD : va_D A (List.flatten (wM aM C ms mw ma (va_up ml 0 (vp_updL (ml 0) (((60 * p1) + x4_).toNatClampNeg) 0)))) := hD
        exact ih57 (x4_ + 1) (va_up ml 0 (vp_updL (ml 0) (((60 * p1) + x4_).toNatClampNeg) 0)) _ _ _ h hP hD hS (lv_sub hl [1, 2, 3, 0] rfl)
  refine lv_aload_n hx hb dX12_row_0 rfl (lv_at hl 0 rfl) ?_
  refine lv_iconst (v := 0) hx hb dX12_row_1 (by decide) ?_
  refine va_put (D := D) (ci := 12) (v := .int 0) (ty := .int) (C := RX12) (T := TX12) (N := 51) hx hb hw inW_X12 tyX12 tyX12_ok nmX12 hown hK hP hD hS 0 rfl rfl 0 (by decide) (hw _ mw_6_43) (fun _ h9 => h9) rfl (by decide +kernel) rfl rfl (Nat.le_of_ble_eq_true rfl) dX12_row_2 (fun H locs hP hD hS => ?_)
  refine lv_iload_n hx hb dX12_row_5 rfl (lv_at hl 1 rfl) ?_
  have hP : va_P D vwCl (List.flatten (wM aM C (va_up ms 0 0) mw ma ml)) H := hP
  have hD : va_D A (List.flatten (wM aM C (va_up ms 0 0) mw ma ml)) := hD
  refine cGoEI (cRunES (As := [.int p1]) (rest := []) ⟨hx, hb, hml, hown, hw⟩ hK hN hP hD (k_X12_isSlot l D C _    p1 h) (va_cwS 1 hw (goodS mw_6_201 mw_6_202 mw_1_13 mw_6_203) rfl rfl rfl (by decide +kernel) ⟨Nat.le_of_ble_eq_true rfl, Nat.le_of_ble_eq_true rfl⟩) rfl hl.1 rfl (Nat.le_of_ble_eq_true rfl) dX12_row_6 ⟨Nat.zero_le _, Nat.zero_le _⟩) hP hD hS hA (fun r2 u H locs h hP hD hS => ?_)
  have hP : va_P D vwCl (List.flatten (wM aM C (va_up ms 0 0) mw ma ml)) H := hP
  have hD : va_D A (List.flatten (wM aM C (va_up ms 0 0) mw ma ml)) := hD
  refine lv_if_eq (tgt := 30) hx hb dX12_row_9 (by decide) (fun c3 => ?_) (fun c3 => ?_)
  · have h := h.1 c3
    refine lv_bipush (v := (-2)) hx hb dX12_row_30 (by decide) ?_
    rw [← hQ]
    exact cRetI (v := (-2)) ((va_up ms 0 0), ma, ml) hx hb hr hlocks hS hP hD h dX12_row_32
  · have h := h.2 c3
    refine lv_iload_n hx hb dX12_row_12 rfl (lv_at hl 2 rfl) ?_
    refine lv_i2l hx hb dX12_row_13 rfl ?_
    refine lv_lconst (v := 0) hx hb dX12_row_14 (by decide) ?_
    refine lv_ldc2 (v := 3) hx hb hown (hw _ mw_6_204) dX12_row_15 ?_
    refine cGoEI (cRunES (As := [.long p2.toInt64, .long 0, .long 3]) (rest := []) ⟨hx, hb, hml, hown, hw⟩ hK hN hP hD (k_X12_in l D C _    p2.toInt64 0 3 h) (va_cwS 3 hw (goodS mw_6_205 mw_6_206 mw_1_13 mw_6_207) rfl rfl rfl (by decide +kernel) ⟨Nat.le_of_ble_eq_true rfl, Nat.le_of_ble_eq_true rfl⟩) rfl hl.1 rfl (Nat.le_of_ble_eq_true rfl) dX12_row_18 ⟨Nat.zero_le _, Nat.zero_le _⟩) hP hD hS hA (fun r4 u H locs h hP hD hS => ?_)
    have hP : va_P D vwCl (List.flatten (wM aM C (va_up ms 0 0) mw ma ml)) H := hP
    have hD : va_D A (List.flatten (wM aM C (va_up ms 0 0) mw ma ml)) := hD
    refine lv_if_eq (tgt := 30) hx hb dX12_row_21 (by decide) (fun c5 => ?_) (fun c5 => ?_)
    · have h := h.1 c5
      refine lv_bipush (v := (-2)) hx hb dX12_row_30 (by decide) ?_
      rw [← hQ]
      exact cRetI (v := (-2)) ((va_up ms 0 0), ma, ml) hx hb hr hlocks hS hP hD h dX12_row_32
    · have h := h.2 c5
      refine lv_iload_n hx hb dX12_row_24 rfl (lv_at hl 3 rfl) ?_
      refine lv_bipush (v := 60) hx hb dX12_row_25 (by decide) ?_
      refine lv_icmp_le (tgt := 33) hx hb dX12_row_27 (by decide) (fun c6 => ?_) (fun c6 => ?_)
      · have h := h.1 c6
        refine lv_iload_n hx hb dX12_row_33 rfl (lv_at hl 3 rfl) ?_
        refine lv_if_ge (tgt := 40) hx hb dX12_row_34 (by decide) (fun c7 => ?_) (fun c7 => ?_)
        · have h := h.1 c7
          refine lv_aload_n hx hb dX12_row_40 rfl (lv_at hl 0 rfl) ?_
          refine va_get (D := D) (ci := 12) (v := .ref (aM 1)) (C := RX12) (T := TX12) (N := 51) hx hb hw inW_X12 hown hK hP 0 rfl rfl 1 (by decide) (hw _ mw_6_44) (fun _ h9 => h9) rfl dX12_row_41 ?_
          refine lv_iload_n hx hb dX12_row_44 rfl (lv_at hl 1 rfl) ?_
          refine lv_iload_n hx hb dX12_row_45 rfl (lv_at hl 2 rfl) ?_
          refine cIast hx hb hK hP hD hS 1 0 rfl rfl p1.toNatClampNeg rfl h.1 dX12_row_46 (fun H locs hP hD hS => ?_)
          have h := h.2
          refine lv_aload_n hx hb dX12_row_47 rfl (lv_at hl 0 rfl) ?_
          refine va_get (D := D) (ci := 12) (v := .ref (aM 2)) (C := RX12) (T := TX12) (N := 51) hx hb hw inW_X12 hown hK hP 0 rfl rfl 2 (by decide) (hw _ mw_6_45) (fun _ h9 => h9) rfl dX12_row_48 ?_
          refine lv_iload_n hx hb dX12_row_51 rfl (lv_at hl 1 rfl) ?_
          refine lv_iload_n hx hb dX12_row_52 rfl (lv_at hl 3 rfl) ?_
          refine cIast hx hb hK hP hD hS 2 0 rfl rfl p1.toNatClampNeg rfl h.1 dX12_row_53 (fun H locs hP hD hS => ?_)
          have h := h.2
          refine lv_iconst (v := 0) hx hb dX12_row_54 (by decide) ?_
          refine lv_istore (lv' := [(4, .int 0), (0, .ref (aM 0)), (1, .int p1), (2, .int p2), (3, .int p3)]) hx hb dX12_row_55 hl (by decide) rfl (fun ls hl => ?_)
          have hP : va_P D vwCl (List.flatten (wM aM C (va_up ms 0 0) mw (va_up (va_up ma 0 (upd (ma 0) p1.toNatClampNeg p2)) 1 (upd (ma 1) p1.toNatClampNeg p3)) ml)) H := hP
          have hD : va_D A (List.flatten (wM aM C (va_up ms 0 0) mw (va_up (va_up ma 0 (upd (ma 0) p1.toNatClampNeg p2)) 1 (upd (ma 1) p1.toNatClampNeg p3)) ml)) := hD
          obtain ⟨n, h⟩ := h
          exact N57 (va_up ms 0 0) (va_up (va_up ma 0 (upd (ma 0) p1.toNatClampNeg p2)) 1 (upd (ma 1) p1.toNatClampNeg p3)) n 0 ml _ _ _ h hP hD hS (lv_sub hl [1, 2, 4, 0] rfl)
        · have h := h.2 c7
          refine lv_bipush (v := (-3)) hx hb dX12_row_37 (by decide) ?_
          rw [← hQ]
          exact cRetI (v := (-3)) ((va_up ms 0 0), ma, ml) hx hb hr hlocks hS hP hD h dX12_row_39
      · have h := h.2 c6
        refine lv_bipush (v := (-2)) hx hb dX12_row_30 (by decide) ?_
        rw [← hQ]
        exact cRetI (v := (-2)) ((va_up ms 0 0), ma, ml) hx hb hr hlocks hS hP hD h dX12_row_32
abbrev vsX12_cut : List Cond := Cond.code yX12_cut cX12_cut 3 (some .long) :: WS
abbrev rmX12_cut : Room := { frames := 0, cells := 0, slots := 0, locals := 0 }
set_option maxHeartbeats 4000000 in
set_option maxRecDepth 100000 in
theorem k_X12_cut (l : Launch) (D : va_G) (C : Nat → ClassId) (sz : Nat)    (p1 : Int64) (p2 : Int32) {post : Int64 → Prop} (h : P_X12_cut p1 p2 post) : Met l yX12_cut vsX12_cut rmX12_cut (cPre D C [.long p1, .int p2] sz (([] : List va_W))) (cQl D (fun (r : Int64) (u : Unit) => post r ) (fun u => ([] : List va_W)) (va_A (List.flatten (([] : List va_W))) sz)) 0 0 (va_A (List.flatten (([] : List va_W))) sz) := by
  refine cStart (QA := fun A => cQl D (fun (r : Int64) (u : Unit) => post r ) (fun u => ([] : List va_W)) A) (cc := cX12_cut) (maxL := 3) (ret := (some .long)) (by decide) (Nat.le_of_ble_eq_true rfl) ?_
  intro p e s m args below meth c A ls hx hb hr hml hown hw hlocks hname hK hN hA hP hD hS hl
  generalize hQ : MQ below _ args s 0 0 A = Q
  have hl : lv_has ls 3 [(0, .long p1), (2, .int p2)] := hl
  obtain ⟨H, hH⟩ : ∃ H, H = s.heap := ⟨_, rfl⟩
  obtain ⟨locs, hlo⟩ : ∃ z : List Loc, z = [] := ⟨_, rfl⟩
  have hP : va_P D vwCl (List.flatten (([] : List va_W))) H := by rw [hH]; exact hP
  have hS : va_S A s.heap H locs := by rw [hH, hlo]; exact hS
  rw [show W p l e rmX12_cut s m args below meth c s.heap [] 0 0 Q (F0 m 0 ls []) = W p l e rmX12_cut s m args below meth c H locs 0 0 Q (F0 m 0 ls []) from by rw [hH, hlo]]
  refine lv_iload_n hx hb dX12_cut_0 rfl (lv_at hl 1 rfl) ?_
  refine lv_if_ne (tgt := 11) hx hb dX12_cut_1 (by decide) (fun c1 => ?_) (fun c1 => ?_)
  · have h := h.1 c1
    refine lv_iload_n hx hb dX12_cut_11 rfl (lv_at hl 1 rfl) ?_
    refine lv_iconst (v := 1) hx hb dX12_cut_12 (by decide) ?_
    refine lv_icmp_ne (tgt := 23) hx hb dX12_cut_13 (by decide) (fun c2 => ?_) (fun c2 => ?_)
    · have h := h.1 c2
      refine lv_iload_n hx hb dX12_cut_23 rfl (lv_at hl 1 rfl) ?_
      refine lv_iconst (v := 2) hx hb dX12_cut_24 (by decide) ?_
      refine lv_icmp_ne (tgt := 34) hx hb dX12_cut_25 (by decide) (fun c3 => ?_) (fun c3 => ?_)
      · have h := h.1 c3
        refine lv_lload_n hx hb dX12_cut_34 rfl (lv_at hl 0 rfl) ?_
        rw [← hQ]
        exact cRetL (v := p1) () hx hb hr hlocks hS hP hD h dX12_cut_35
      · have h := h.2 c3
        refine lv_lload_n hx hb dX12_cut_28 rfl (lv_at hl 0 rfl) ?_
        refine lv_l2i hx hb dX12_cut_29 rfl ?_
        refine lv_i2l hx hb dX12_cut_30 rfl ?_
        refine lv_goto (tgt := 35) hx hb dX12_cut_31 (by decide) ?_
        rw [← hQ]
        exact cRetL (v := p1.toInt32.toInt64) () hx hb hr hlocks hS hP hD h dX12_cut_35
    · have h := h.2 c2
      refine lv_lload_n hx hb dX12_cut_16 rfl (lv_at hl 0 rfl) ?_
      refine lv_l2i hx hb dX12_cut_17 rfl ?_
      refine lv_i2s hx hb dX12_cut_18 rfl ?_
      refine lv_i2l hx hb dX12_cut_19 rfl ?_
      refine lv_goto (tgt := 35) hx hb dX12_cut_20 (by decide) ?_
      rw [← hQ]
      exact cRetL (v := p1.toInt32.toInt16.toInt32.toInt64) () hx hb hr hlocks hS hP hD h dX12_cut_35
  · have h := h.2 c1
    refine lv_lload_n hx hb dX12_cut_4 rfl (lv_at hl 0 rfl) ?_
    refine lv_l2i hx hb dX12_cut_5 rfl ?_
    refine lv_i2b hx hb dX12_cut_6 rfl ?_
    refine lv_i2l hx hb dX12_cut_7 rfl ?_
    refine lv_goto (tgt := 35) hx hb dX12_cut_8 (by decide) ?_
    rw [← hQ]
    exact cRetL (v := p1.toInt32.toInt8.toInt32.toInt64) () hx hb hr hlocks hS hP hD h dX12_cut_35
abbrev vsX12_write : List Cond := Cond.code yX12_write cX12_write 5 (some .int) :: WS
abbrev rmX12_write : Room := { frames := 2, cells := 0, slots := 0, locals := 45 }
set_option maxHeartbeats 4000000 in
set_option maxRecDepth 100000 in
theorem k_X12_write (l : Launch) (D : va_G) (C : Nat → ClassId) (sz : Nat) (aM : Nat → Nat)  (ms : Nat → Int32) (mw : Nat → Int64) (ma : Nat → Nat → Int32) (ml : Nat → Nat → Int64) (p1 : Int32) (p2 : Int32) (p3 : Int64) {post : Int32 → (Nat → Int32) → (Nat → Nat → Int64) → Prop} (h : P_X12_write ms ma ml p1 p2 p3 post) : Met l yX12_write vsX12_write rmX12_write (cPre D C [.ref (aM 0), .int p1, .int p2, .long p3] sz (wM aM C ms mw ma ml)) (cQi D (fun (r : Int32) (u : (Nat → Int32) × (Nat → Nat → Int64)) => post r u.1 u.2) (fun u => wM aM C u.1 mw ma u.2) (va_A (List.flatten (wM aM C ms mw ma ml)) sz)) 0 0 (va_A (List.flatten (wM aM C ms mw ma ml)) sz) := by
  refine cStart (QA := fun A => cQi D (fun (r : Int32) (u : (Nat → Int32) × (Nat → Nat → Int64)) => post r u.1 u.2) (fun u => wM aM C u.1 mw ma u.2) A) (cc := cX12_write) (maxL := 5) (ret := (some .int)) (by decide) (Nat.le_of_ble_eq_true rfl) ?_
  intro p e s m args below meth c A ls hx hb hr hml hown hw hlocks hname hK hN hA hP hD hS hl
  generalize hQ : MQ below _ args s 0 0 A = Q
  have hl : lv_has ls 5 [(0, .ref (aM 0)), (1, .int p1), (2, .int p2), (3, .long p3)] := hl
  obtain ⟨H, hH⟩ : ∃ H, H = s.heap := ⟨_, rfl⟩
  obtain ⟨locs, hlo⟩ : ∃ z : List Loc, z = [] := ⟨_, rfl⟩
  have hP : va_P D vwCl (List.flatten (wM aM C ms mw ma ml)) H := by rw [hH]; exact hP
  have hS : va_S A s.heap H locs := by rw [hH, hlo]; exact hS
  rw [show W p l e rmX12_write s m args below meth c s.heap [] 0 0 Q (F0 m 0 ls []) = W p l e rmX12_write s m args below meth c H locs 0 0 Q (F0 m 0 ls []) from by rw [hH, hlo]]
  refine lv_aload_n hx hb dX12_write_0 rfl (lv_at hl 0 rfl) ?_
  refine lv_iconst (v := 0) hx hb dX12_write_1 (by decide) ?_
  refine va_put (D := D) (ci := 12) (v := .int 0) (ty := .int) (C := RX12) (T := TX12) (N := 51) hx hb hw inW_X12 tyX12 tyX12_ok nmX12 hown hK hP hD hS 0 rfl rfl 0 (by decide) (hw _ mw_6_43) (fun _ h9 => h9) rfl (by decide +kernel) rfl rfl (Nat.le_of_ble_eq_true rfl) dX12_write_2 (fun H locs hP hD hS => ?_)
  refine lv_iload_n hx hb dX12_write_5 rfl (lv_at hl 1 rfl) ?_
  have hP : va_P D vwCl (List.flatten (wM aM C (va_up ms 0 0) mw ma ml)) H := hP
  have hD : va_D A (List.flatten (wM aM C (va_up ms 0 0) mw ma ml)) := hD
  refine cGoEI (cRunES (As := [.int p1]) (rest := []) ⟨hx, hb, hml, hown, hw⟩ hK hN hP hD (k_X12_isSlot l D C _    p1 h) (va_cwS 1 hw (goodS mw_6_201 mw_6_202 mw_1_13 mw_6_203) rfl rfl rfl (by decide +kernel) ⟨Nat.le_of_ble_eq_true rfl, Nat.le_of_ble_eq_true rfl⟩) rfl hl.1 rfl (Nat.le_of_ble_eq_true rfl) dX12_write_6 ⟨Nat.zero_le _, Nat.zero_le _⟩) hP hD hS hA (fun r1 u H locs h hP hD hS => ?_)
  have hP : va_P D vwCl (List.flatten (wM aM C (va_up ms 0 0) mw ma ml)) H := hP
  have hD : va_D A (List.flatten (wM aM C (va_up ms 0 0) mw ma ml)) := hD
  refine lv_if_ne (tgt := 15) hx hb dX12_write_9 (by decide) (fun c2 => ?_) (fun c2 => ?_)
  · have h := h.1 c2
    refine lv_aload_n hx hb dX12_write_15 rfl (lv_at hl 0 rfl) ?_
    refine va_get (D := D) (ci := 12) (v := .ref (aM 1)) (C := RX12) (T := TX12) (N := 51) hx hb hw inW_X12 hown hK hP 0 rfl rfl 1 (by decide) (hw _ mw_6_44) (fun _ h9 => h9) rfl dX12_write_16 ?_
    refine lv_iload_n hx hb dX12_write_19 rfl (lv_at hl 1 rfl) ?_
    refine cIald hx hb hK hP 1 0 rfl rfl p1.toNatClampNeg rfl h.1 dX12_write_20 ?_
    have h := h.2
    refine lv_iconst (v := (-1)) hx hb dX12_write_21 (by decide) ?_
    refine lv_icmp_ne (tgt := 28) hx hb dX12_write_22 (by decide) (fun c3 => ?_) (fun c3 => ?_)
    · have h := h.1 c3
      refine lv_iload_n hx hb dX12_write_28 rfl (lv_at hl 2 rfl) ?_
      refine lv_i2l hx hb dX12_write_29 rfl ?_
      refine lv_lconst (v := 0) hx hb dX12_write_30 (by decide) ?_
      refine lv_aload_n hx hb dX12_write_31 rfl (lv_at hl 0 rfl) ?_
      refine va_get (D := D) (ci := 12) (v := .ref (aM 2)) (C := RX12) (T := TX12) (N := 51) hx hb hw inW_X12 hown hK hP 0 rfl rfl 2 (by decide) (hw _ mw_6_45) (fun _ h9 => h9) rfl dX12_write_32 ?_
      refine lv_iload_n hx hb dX12_write_35 rfl (lv_at hl 1 rfl) ?_
      refine cIald hx hb hK hP 2 0 rfl rfl p1.toNatClampNeg rfl h.1 dX12_write_36 ?_
      have h := h.2
      refine lv_iconst (v := 1) hx hb dX12_write_37 (by decide) ?_
      refine lv_isub hx hb dX12_write_38 ?_
      refine lv_i2l hx hb dX12_write_39 rfl ?_
      refine cGoEI (cRunES (As := [.long p2.toInt64, .long 0, .long (((ma 1 p1.toNatClampNeg) - 1).toInt64)]) (rest := []) ⟨hx, hb, hml, hown, hw⟩ hK hN hP hD (k_X12_in l D C _    p2.toInt64 0 (((ma 1 p1.toNatClampNeg) - 1).toInt64) h) (va_cwS 3 hw (goodS mw_6_205 mw_6_206 mw_1_13 mw_6_207) rfl rfl rfl (by decide +kernel) ⟨Nat.le_of_ble_eq_true rfl, Nat.le_of_ble_eq_true rfl⟩) rfl hl.1 rfl (Nat.le_of_ble_eq_true rfl) dX12_write_40 ⟨Nat.zero_le _, Nat.zero_le _⟩) hP hD hS hA (fun r4 u H locs h hP hD hS => ?_)
      have hP : va_P D vwCl (List.flatten (wM aM C (va_up ms 0 0) mw ma ml)) H := hP
      have hD : va_D A (List.flatten (wM aM C (va_up ms 0 0) mw ma ml)) := hD
      refine lv_if_ne (tgt := 49) hx hb dX12_write_43 (by decide) (fun c5 => ?_) (fun c5 => ?_)
      · have h := h.1 c5
        refine lv_aload_n hx hb dX12_write_49 rfl (lv_at hl 0 rfl) ?_
        refine va_get (D := D) (ci := 12) (v := .ref (aM 3)) (C := RX12) (T := TX12) (N := 51) hx hb hw inW_X12 hown hK hP 0 rfl rfl 3 (by decide) (hw _ mw_6_46) (fun _ h9 => h9) rfl dX12_write_50 ?_
        refine lv_bipush (v := 60) hx hb dX12_write_53 (by decide) ?_
        refine lv_iload_n hx hb dX12_write_55 rfl (lv_at hl 1 rfl) ?_
        refine lv_imul hx hb dX12_write_56 ?_
        refine lv_iload_n hx hb dX12_write_57 rfl (lv_at hl 2 rfl) ?_
        refine lv_iadd hx hb dX12_write_58 ?_
        refine lv_lload_n hx hb dX12_write_59 rfl (lv_at hl 3 rfl) ?_
        refine lv_aload_n hx hb dX12_write_60 rfl (lv_at hl 0 rfl) ?_
        refine va_get (D := D) (ci := 12) (v := .ref (aM 1)) (C := RX12) (T := TX12) (N := 51) hx hb hw inW_X12 hown hK hP 0 rfl rfl 1 (by decide) (hw _ mw_6_44) (fun _ h9 => h9) rfl dX12_write_61 ?_
        refine lv_iload_n hx hb dX12_write_64 rfl (lv_at hl 1 rfl) ?_
        refine cIald hx hb hK hP 1 0 rfl rfl p1.toNatClampNeg rfl h.1 dX12_write_65 ?_
        have h := h.2
        refine cGoEL (cRunES (As := [.long p3, .int (ma 0 p1.toNatClampNeg)]) (rest := [.int ((60 * p1) + p2), .ref (aM 3)]) ⟨hx, hb, hml, hown, hw⟩ hK hN hP hD (k_X12_cut l D C _    p3 (ma 0 p1.toNatClampNeg) h) (va_cwS 2 hw (goodS mw_6_212 mw_6_213 mw_1_13 mw_6_214) rfl rfl rfl (by decide +kernel) ⟨Nat.le_of_ble_eq_true rfl, Nat.le_of_ble_eq_true rfl⟩) rfl hl.1 rfl (Nat.le_of_ble_eq_true rfl) dX12_write_66 ⟨Nat.zero_le _, Nat.zero_le _⟩) hP hD hS hA (fun r6 u H locs h hP hD hS => ?_)
        have hP : va_P D vwCl (List.flatten (wM aM C (va_up ms 0 0) mw ma ml)) H := hP
        have hD : va_D A (List.flatten (wM aM C (va_up ms 0 0) mw ma ml)) := hD
        refine cLast hx hb hK hP hD hS 3 1 rfl rfl (((60 * p1) + p2).toNatClampNeg) rfl h.1 dX12_write_69 (fun H locs hP hD hS => ?_)
        have h := h.2
        refine lv_iconst (v := 0) hx hb dX12_write_70 (by decide) ?_
        have hP : va_P D vwCl (List.flatten (wM aM C (va_up ms 0 0) mw ma (va_up ml 0 (vp_updL (ml 0) (((60 * p1) + p2).toNatClampNeg) r6)))) H := hP
        have hD : va_D A (List.flatten (wM aM C (va_up ms 0 0) mw ma (va_up ml 0 (vp_updL (ml 0) (((60 * p1) + p2).toNatClampNeg) r6)))) := hD
        rw [← hQ]
        exact cRetI (v := 0) ((va_up ms 0 0), (va_up ml 0 (vp_updL (ml 0) (((60 * p1) + p2).toNatClampNeg) r6))) hx hb hr hlocks hS hP hD h dX12_write_71
      · have h := h.2 c5
        refine lv_bipush (v := (-7)) hx hb dX12_write_46 (by decide) ?_
        rw [← hQ]
        exact cRetI (v := (-7)) ((va_up ms 0 0), ml) hx hb hr hlocks hS hP hD h dX12_write_48
    · have h := h.2 c3
      refine lv_bipush (v := (-6)) hx hb dX12_write_25 (by decide) ?_
      rw [← hQ]
      exact cRetI (v := (-6)) ((va_up ms 0 0), ml) hx hb hr hlocks hS hP hD h dX12_write_27
  · have h := h.2 c2
    refine lv_bipush (v := (-2)) hx hb dX12_write_12 (by decide) ?_
    rw [← hQ]
    exact cRetI (v := (-2)) ((va_up ms 0 0), ml) hx hb hr hlocks hS hP hD h dX12_write_14
abbrev vsX12_paste : List Cond := Cond.code yX12_paste cX12_paste 7 (some .int) :: WS
abbrev rmX12_paste : Room := { frames := 2, cells := 0, slots := 0, locals := 45 }
set_option maxHeartbeats 4000000 in
set_option maxRecDepth 100000 in
theorem k_X12_paste (l : Launch) (D : va_G) (C : Nat → ClassId) (sz : Nat) (aM : Nat → Nat)  (ms : Nat → Int32) (mw : Nat → Int64) (ma : Nat → Nat → Int32) (ml : Nat → Nat → Int64) (p1 : Int32) (p2 : Int32) (p3 : Int32) (p4 : Int32) (p5 : Int32) {post : Int32 → (Nat → Int32) → (Nat → Nat → Int64) → Prop} (h : P_X12_paste ms ma ml p1 p2 p3 p4 p5 post) : Met l yX12_paste vsX12_paste rmX12_paste (cPre D C [.ref (aM 0), .int p1, .int p2, .int p3, .int p4, .int p5] sz (wM aM C ms mw ma ml)) (cQi D (fun (r : Int32) (u : (Nat → Int32) × (Nat → Nat → Int64)) => post r u.1 u.2) (fun u => wM aM C u.1 mw ma u.2) (va_A (List.flatten (wM aM C ms mw ma ml)) sz)) 0 0 (va_A (List.flatten (wM aM C ms mw ma ml)) sz) := by
  refine cStart (QA := fun A => cQi D (fun (r : Int32) (u : (Nat → Int32) × (Nat → Nat → Int64)) => post r u.1 u.2) (fun u => wM aM C u.1 mw ma u.2) A) (cc := cX12_paste) (maxL := 7) (ret := (some .int)) (by decide) (Nat.le_of_ble_eq_true rfl) ?_
  intro p e s m args below meth c A ls hx hb hr hml hown hw hlocks hname hK hN hA hP hD hS hl
  generalize hQ : MQ below _ args s 0 0 A = Q
  have hl : lv_has ls 7 [(0, .ref (aM 0)), (1, .int p1), (2, .int p2), (3, .int p3), (4, .int p4), (5, .int p5)] := hl
  obtain ⟨H, hH⟩ : ∃ H, H = s.heap := ⟨_, rfl⟩
  obtain ⟨locs, hlo⟩ : ∃ z : List Loc, z = [] := ⟨_, rfl⟩
  have hP : va_P D vwCl (List.flatten (wM aM C ms mw ma ml)) H := by rw [hH]; exact hP
  have hS : va_S A s.heap H locs := by rw [hH, hlo]; exact hS
  rw [show W p l e rmX12_paste s m args below meth c s.heap [] 0 0 Q (F0 m 0 ls []) = W p l e rmX12_paste s m args below meth c H locs 0 0 Q (F0 m 0 ls []) from by rw [hH, hlo]]
  have N155 : ∀ (ms : Nat → Int32) (n155 : Nat) (x6_ : Int32) (ml : Nat → Nat → Int64) (H : Heap) (locs : List Loc) (ls : Array Slot), P_X12_paste_155 ma p1 p2 p3 p4 p5 post  ms n155 x6_ ml → va_P D vwCl (List.flatten (wM aM C ms mw ma ml)) H → va_D A (List.flatten (wM aM C ms mw ma ml)) → va_S A s.heap H locs → lv_has ls 7 [(0, .ref (aM 0)), (3, .int p3), (4, .int p4), (5, .int p5), (6, .int x6_)] → W p l e rmX12_paste s m args below meth c H locs 0 0 Q (F0 m 155 ls []) := by
    intro ms
    intro n155
    induction n155 with
    | zero => intro x6_ ml H locs ls h hP hD hS hl; exact False.elim h
    | succ n155 ih155 =>
      intro x6_ ml H locs ls h hP hD hS hl
      refine lv_iload hx hb dX12_paste_155 (lv_at hl 4 rfl) ?_
      refine lv_iload hx hb dX12_paste_157 (lv_at hl 3 rfl) ?_
      refine lv_icmp_ge (tgt := 190) hx hb dX12_paste_159 (by decide) (fun c1 => ?_) (fun c1 => ?_)
      · have h := h.1 c1
        refine lv_iconst (v := 0) hx hb dX12_paste_190 (by decide) ?_
        rw [← hQ]
        exact cRetI (v := 0) (ms, ml) hx hb hr hlocks hS hP hD h dX12_paste_191
      · have h := h.2 c1
        refine lv_aload_n hx hb dX12_paste_162 rfl (lv_at hl 0 rfl) ?_
        refine va_get (D := D) (ci := 12) (v := .ref (aM 3)) (C := RX12) (T := TX12) (N := 51) hx hb hw inW_X12 hown hK hP 0 rfl rfl 3 (by decide) (hw _ mw_6_46) (fun _ h9 => h9) rfl dX12_paste_163 ?_
        refine lv_bipush (v := 60) hx hb dX12_paste_166 (by decide) ?_
        refine lv_iload_n hx hb dX12_paste_168 rfl (lv_at hl 1 rfl) ?_
        refine lv_imul hx hb dX12_paste_169 ?_
        refine lv_iload hx hb dX12_paste_170 (lv_at hl 2 rfl) ?_
        refine lv_iadd hx hb dX12_paste_172 ?_
        refine lv_iload hx hb dX12_paste_173 (lv_at hl 4 rfl) ?_
        refine lv_iadd hx hb dX12_paste_175 ?_
        refine lv_aload_n hx hb dX12_paste_176 rfl (lv_at hl 0 rfl) ?_
        refine va_get (D := D) (ci := 12) (v := .ref (aM 4)) (C := RX12) (T := TX12) (N := 51) hx hb hw inW_X12 hown hK hP 0 rfl rfl 4 (by decide) (hw _ mw_6_47) (fun _ h9 => h9) rfl dX12_paste_177 ?_
        refine lv_iload hx hb dX12_paste_180 (lv_at hl 4 rfl) ?_
        refine cLald hx hb hK hP 4 1 rfl rfl x6_.toNatClampNeg rfl h.1 dX12_paste_182 ?_
        have h := h.2
        refine cLast hx hb hK hP hD hS 3 1 rfl rfl ((((60 * p3) + p4) + x6_).toNatClampNeg) rfl h.1 dX12_paste_183 (fun H locs hP hD hS => ?_)
        have h := h.2
        refine lv_iinc (v := (x6_ + 1)) (lv' := [(6, .int (x6_ + 1)), (0, .ref (aM 0)), (3, .int p3), (4, .int p4), (5, .int p5)]) hx hb dX12_paste_184 hl (k := 4) rfl rfl (by decide) rfl (fun ls hl => ?_)
        refine lv_goto (tgt := 155) hx hb dX12_paste_187 (by decide) ?_
        have hP : va_P D vwCl (List.flatten (wM aM C ms mw ma (va_up ml 0 (vp_updL (ml 0) ((((60 * p3) + p4) + x6_).toNatClampNeg) (ml 1 x6_.toNatClampNeg))))) H := hP
        have hD : va_D A (List.flatten (wM aM C ms mw ma (va_up ml 0 (vp_updL (ml 0) ((((60 * p3) + p4) + x6_).toNatClampNeg) (ml 1 x6_.toNatClampNeg))))) := hD
        exact ih155 (x6_ + 1) (va_up ml 0 (vp_updL (ml 0) ((((60 * p3) + p4) + x6_).toNatClampNeg) (ml 1 x6_.toNatClampNeg))) _ _ _ h hP hD hS (lv_sub hl [1, 2, 3, 4, 0] rfl)
  have N118 : ∀ (ms : Nat → Int32) (n118 : Nat) (x6_ : Int32) (ml : Nat → Nat → Int64) (H : Heap) (locs : List Loc) (ls : Array Slot), P_X12_paste_118 ma p1 p2 p3 p4 p5 post (fun (ms : Nat → Int32) (x6_ : Int32) (ml : Nat → Nat → Int64) => ∃ n : Nat, P_X12_paste_155 ma p1 p2 p3 p4 p5 post  ms n x6_ ml) ms n118 x6_ ml → va_P D vwCl (List.flatten (wM aM C ms mw ma ml)) H → va_D A (List.flatten (wM aM C ms mw ma ml)) → va_S A s.heap H locs → lv_has ls 7 [(0, .ref (aM 0)), (1, .int p1), (2, .int p2), (3, .int p3), (4, .int p4), (5, .int p5), (6, .int x6_)] → W p l e rmX12_paste s m args below meth c H locs 0 0 Q (F0 m 118 ls []) := by
    intro ms
    intro n118
    induction n118 with
    | zero => intro x6_ ml H locs ls h hP hD hS hl; exact False.elim h
    | succ n118 ih118 =>
      intro x6_ ml H locs ls h hP hD hS hl
      refine lv_iload hx hb dX12_paste_118 (lv_at hl 6 rfl) ?_
      refine lv_iload hx hb dX12_paste_120 (lv_at hl 5 rfl) ?_
      refine lv_icmp_ge (tgt := 152) hx hb dX12_paste_122 (by decide) (fun c2 => ?_) (fun c2 => ?_)
      · have h := h.1 c2
        refine lv_iconst (v := 0) hx hb dX12_paste_152 (by decide) ?_
        refine lv_istore (lv' := [(6, .int 0), (0, .ref (aM 0)), (1, .int p1), (2, .int p2), (3, .int p3), (4, .int p4), (5, .int p5)]) hx hb dX12_paste_153 hl (by decide) rfl (fun ls hl => ?_)
        obtain ⟨n, h⟩ := h
        exact N155 ms n 0 ml _ _ _ h hP hD hS (lv_sub hl [1, 4, 5, 6, 0] rfl)
      · have h := h.2 c2
        refine lv_aload_n hx hb dX12_paste_125 rfl (lv_at hl 0 rfl) ?_
        refine va_get (D := D) (ci := 12) (v := .ref (aM 4)) (C := RX12) (T := TX12) (N := 51) hx hb hw inW_X12 hown hK hP 0 rfl rfl 4 (by decide) (hw _ mw_6_47) (fun _ h9 => h9) rfl dX12_paste_126 ?_
        refine lv_iload hx hb dX12_paste_129 (lv_at hl 6 rfl) ?_
        refine lv_aload_n hx hb dX12_paste_131 rfl (lv_at hl 0 rfl) ?_
        refine va_get (D := D) (ci := 12) (v := .ref (aM 3)) (C := RX12) (T := TX12) (N := 51) hx hb hw inW_X12 hown hK hP 0 rfl rfl 3 (by decide) (hw _ mw_6_46) (fun _ h9 => h9) rfl dX12_paste_132 ?_
        refine lv_bipush (v := 60) hx hb dX12_paste_135 (by decide) ?_
        refine lv_iload_n hx hb dX12_paste_137 rfl (lv_at hl 1 rfl) ?_
        refine lv_imul hx hb dX12_paste_138 ?_
        refine lv_iload_n hx hb dX12_paste_139 rfl (lv_at hl 2 rfl) ?_
        refine lv_iadd hx hb dX12_paste_140 ?_
        refine lv_iload hx hb dX12_paste_141 (lv_at hl 6 rfl) ?_
        refine lv_iadd hx hb dX12_paste_143 ?_
        refine cLald hx hb hK hP 3 1 rfl rfl ((((60 * p1) + p2) + x6_).toNatClampNeg) rfl h.1 dX12_paste_144 ?_
        have h := h.2
        refine cLast hx hb hK hP hD hS 4 1 rfl rfl x6_.toNatClampNeg rfl h.1 dX12_paste_145 (fun H locs hP hD hS => ?_)
        have h := h.2
        refine lv_iinc (v := (x6_ + 1)) (lv' := [(6, .int (x6_ + 1)), (0, .ref (aM 0)), (1, .int p1), (2, .int p2), (3, .int p3), (4, .int p4), (5, .int p5)]) hx hb dX12_paste_146 hl (k := 6) rfl rfl (by decide) rfl (fun ls hl => ?_)
        refine lv_goto (tgt := 118) hx hb dX12_paste_149 (by decide) ?_
        have hP : va_P D vwCl (List.flatten (wM aM C ms mw ma (va_up ml 1 (vp_updL (ml 1) x6_.toNatClampNeg (ml 0 ((((60 * p1) + p2) + x6_).toNatClampNeg)))))) H := hP
        have hD : va_D A (List.flatten (wM aM C ms mw ma (va_up ml 1 (vp_updL (ml 1) x6_.toNatClampNeg (ml 0 ((((60 * p1) + p2) + x6_).toNatClampNeg)))))) := hD
        exact ih118 (x6_ + 1) (va_up ml 1 (vp_updL (ml 1) x6_.toNatClampNeg (ml 0 ((((60 * p1) + p2) + x6_).toNatClampNeg)))) _ _ _ h hP hD hS (lv_sub hl [1, 2, 3, 4, 5, 6, 0] rfl)
  refine lv_aload_n hx hb dX12_paste_0 rfl (lv_at hl 0 rfl) ?_
  refine lv_iconst (v := 0) hx hb dX12_paste_1 (by decide) ?_
  refine va_put (D := D) (ci := 12) (v := .int 0) (ty := .int) (C := RX12) (T := TX12) (N := 51) hx hb hw inW_X12 tyX12 tyX12_ok nmX12 hown hK hP hD hS 0 rfl rfl 0 (by decide) (hw _ mw_6_43) (fun _ h9 => h9) rfl (by decide +kernel) rfl rfl (Nat.le_of_ble_eq_true rfl) dX12_paste_2 (fun H locs hP hD hS => ?_)
  refine lv_iload_n hx hb dX12_paste_5 rfl (lv_at hl 1 rfl) ?_
  have hP : va_P D vwCl (List.flatten (wM aM C (va_up ms 0 0) mw ma ml)) H := hP
  have hD : va_D A (List.flatten (wM aM C (va_up ms 0 0) mw ma ml)) := hD
  refine cGoEI (cRunES (As := [.int p1]) (rest := []) ⟨hx, hb, hml, hown, hw⟩ hK hN hP hD (k_X12_isSlot l D C _    p1 h) (va_cwS 1 hw (goodS mw_6_201 mw_6_202 mw_1_13 mw_6_203) rfl rfl rfl (by decide +kernel) ⟨Nat.le_of_ble_eq_true rfl, Nat.le_of_ble_eq_true rfl⟩) rfl hl.1 rfl (Nat.le_of_ble_eq_true rfl) dX12_paste_6 ⟨Nat.zero_le _, Nat.zero_le _⟩) hP hD hS hA (fun r3 u H locs h hP hD hS => ?_)
  have hP : va_P D vwCl (List.flatten (wM aM C (va_up ms 0 0) mw ma ml)) H := hP
  have hD : va_D A (List.flatten (wM aM C (va_up ms 0 0) mw ma ml)) := hD
  refine lv_if_eq (tgt := 19) hx hb dX12_paste_9 (by decide) (fun c4 => ?_) (fun c4 => ?_)
  · have h := h.1 c4
    refine lv_bipush (v := (-2)) hx hb dX12_paste_19 (by decide) ?_
    rw [← hQ]
    exact cRetI (v := (-2)) ((va_up ms 0 0), ml) hx hb hr hlocks hS hP hD h dX12_paste_21
  · have h := h.2 c4
    refine lv_iload_n hx hb dX12_paste_12 rfl (lv_at hl 3 rfl) ?_
    refine cGoEI (cRunES (As := [.int p3]) (rest := []) ⟨hx, hb, hml, hown, hw⟩ hK hN hP hD (k_X12_isSlot l D C _    p3 h) (va_cwS 1 hw (goodS mw_6_201 mw_6_202 mw_1_13 mw_6_203) rfl rfl rfl (by decide +kernel) ⟨Nat.le_of_ble_eq_true rfl, Nat.le_of_ble_eq_true rfl⟩) rfl hl.1 rfl (Nat.le_of_ble_eq_true rfl) dX12_paste_13 ⟨Nat.zero_le _, Nat.zero_le _⟩) hP hD hS hA (fun r5 u H locs h hP hD hS => ?_)
    have hP : va_P D vwCl (List.flatten (wM aM C (va_up ms 0 0) mw ma ml)) H := hP
    have hD : va_D A (List.flatten (wM aM C (va_up ms 0 0) mw ma ml)) := hD
    refine lv_if_ne (tgt := 22) hx hb dX12_paste_16 (by decide) (fun c6 => ?_) (fun c6 => ?_)
    · have h := h.1 c6
      refine lv_aload_n hx hb dX12_paste_22 rfl (lv_at hl 0 rfl) ?_
      refine va_get (D := D) (ci := 12) (v := .ref (aM 1)) (C := RX12) (T := TX12) (N := 51) hx hb hw inW_X12 hown hK hP 0 rfl rfl 1 (by decide) (hw _ mw_6_44) (fun _ h9 => h9) rfl dX12_paste_23 ?_
      refine lv_iload_n hx hb dX12_paste_26 rfl (lv_at hl 1 rfl) ?_
      refine cIald hx hb hK hP 1 0 rfl rfl p1.toNatClampNeg rfl h.1 dX12_paste_27 ?_
      have h := h.2
      refine lv_iconst (v := (-1)) hx hb dX12_paste_28 (by decide) ?_
      refine lv_icmp_eq (tgt := 42) hx hb dX12_paste_29 (by decide) (fun c7 => ?_) (fun c7 => ?_)
      · have h := h.1 c7
        refine lv_bipush (v := (-6)) hx hb dX12_paste_42 (by decide) ?_
        rw [← hQ]
        exact cRetI (v := (-6)) ((va_up ms 0 0), ml) hx hb hr hlocks hS hP hD h dX12_paste_44
      · have h := h.2 c7
        refine lv_aload_n hx hb dX12_paste_32 rfl (lv_at hl 0 rfl) ?_
        refine va_get (D := D) (ci := 12) (v := .ref (aM 1)) (C := RX12) (T := TX12) (N := 51) hx hb hw inW_X12 hown hK hP 0 rfl rfl 1 (by decide) (hw _ mw_6_44) (fun _ h9 => h9) rfl dX12_paste_33 ?_
        refine lv_iload_n hx hb dX12_paste_36 rfl (lv_at hl 3 rfl) ?_
        refine cIald hx hb hK hP 1 0 rfl rfl p3.toNatClampNeg rfl h.1 dX12_paste_37 ?_
        have h := h.2
        refine lv_iconst (v := (-1)) hx hb dX12_paste_38 (by decide) ?_
        refine lv_icmp_ne (tgt := 45) hx hb dX12_paste_39 (by decide) (fun c8 => ?_) (fun c8 => ?_)
        · have h := h.1 c8
          refine lv_aload_n hx hb dX12_paste_45 rfl (lv_at hl 0 rfl) ?_
          refine va_get (D := D) (ci := 12) (v := .ref (aM 1)) (C := RX12) (T := TX12) (N := 51) hx hb hw inW_X12 hown hK hP 0 rfl rfl 1 (by decide) (hw _ mw_6_44) (fun _ h9 => h9) rfl dX12_paste_46 ?_
          refine lv_iload_n hx hb dX12_paste_49 rfl (lv_at hl 1 rfl) ?_
          refine cIald hx hb hK hP 1 0 rfl rfl p1.toNatClampNeg rfl h.1 dX12_paste_50 ?_
          have h := h.2
          refine lv_aload_n hx hb dX12_paste_51 rfl (lv_at hl 0 rfl) ?_
          refine va_get (D := D) (ci := 12) (v := .ref (aM 1)) (C := RX12) (T := TX12) (N := 51) hx hb hw inW_X12 hown hK hP 0 rfl rfl 1 (by decide) (hw _ mw_6_44) (fun _ h9 => h9) rfl dX12_paste_52 ?_
          refine lv_iload_n hx hb dX12_paste_55 rfl (lv_at hl 3 rfl) ?_
          refine cIald hx hb hK hP 1 0 rfl rfl p3.toNatClampNeg rfl h.1 dX12_paste_56 ?_
          have h := h.2
          refine lv_icmp_eq (tgt := 63) hx hb dX12_paste_57 (by decide) (fun c9 => ?_) (fun c9 => ?_)
          · have h := h.1 c9
            refine lv_iload_n hx hb dX12_paste_63 rfl (lv_at hl 2 rfl) ?_
            refine lv_if_lt (tgt := 112) hx hb dX12_paste_64 (by decide) (fun c10 => ?_) (fun c10 => ?_)
            · have h := h.1 c10
              refine lv_bipush (v := (-7)) hx hb dX12_paste_112 (by decide) ?_
              rw [← hQ]
              exact cRetI (v := (-7)) ((va_up ms 0 0), ml) hx hb hr hlocks hS hP hD h dX12_paste_114
            · have h := h.2 c10
              refine lv_iload hx hb dX12_paste_67 (lv_at hl 4 rfl) ?_
              refine lv_if_lt (tgt := 112) hx hb dX12_paste_69 (by decide) (fun c11 => ?_) (fun c11 => ?_)
              · have h := h.1 c11
                refine lv_bipush (v := (-7)) hx hb dX12_paste_112 (by decide) ?_
                rw [← hQ]
                exact cRetI (v := (-7)) ((va_up ms 0 0), ml) hx hb hr hlocks hS hP hD h dX12_paste_114
              · have h := h.2 c11
                refine lv_iload hx hb dX12_paste_72 (lv_at hl 5 rfl) ?_
                refine lv_if_lt (tgt := 112) hx hb dX12_paste_74 (by decide) (fun c12 => ?_) (fun c12 => ?_)
                · have h := h.1 c12
                  refine lv_bipush (v := (-7)) hx hb dX12_paste_112 (by decide) ?_
                  rw [← hQ]
                  exact cRetI (v := (-7)) ((va_up ms 0 0), ml) hx hb hr hlocks hS hP hD h dX12_paste_114
                · have h := h.2 c12
                  refine lv_iload_n hx hb dX12_paste_77 rfl (lv_at hl 2 rfl) ?_
                  refine lv_i2l hx hb dX12_paste_78 rfl ?_
                  refine lv_iload hx hb dX12_paste_79 (lv_at hl 5 rfl) ?_
                  refine lv_i2l hx hb dX12_paste_81 rfl ?_
                  refine lv_ladd hx hb dX12_paste_82 ?_
                  refine lv_aload_n hx hb dX12_paste_83 rfl (lv_at hl 0 rfl) ?_
                  refine va_get (D := D) (ci := 12) (v := .ref (aM 2)) (C := RX12) (T := TX12) (N := 51) hx hb hw inW_X12 hown hK hP 0 rfl rfl 2 (by decide) (hw _ mw_6_45) (fun _ h9 => h9) rfl dX12_paste_84 ?_
                  refine lv_iload_n hx hb dX12_paste_87 rfl (lv_at hl 1 rfl) ?_
                  refine cIald hx hb hK hP 2 0 rfl rfl p1.toNatClampNeg rfl h.1 dX12_paste_88 ?_
                  have h := h.2
                  refine lv_i2l hx hb dX12_paste_89 rfl ?_
                  refine W.lcmp hx hb dX12_paste_90 ?_
                  refine lv_if_gt (tgt := 112) hx hb dX12_paste_91 (by decide) (fun c13 => ?_) (fun c13 => ?_)
                  · have c13 : ((ma 1 p1.toNatClampNeg).toInt64) < (p2.toInt64 + p5.toInt64) := (lg_cmp_gt _ _).mp c13
                    have h := h.1 c13
                    refine lv_bipush (v := (-7)) hx hb dX12_paste_112 (by decide) ?_
                    rw [← hQ]
                    exact cRetI (v := (-7)) ((va_up ms 0 0), ml) hx hb hr hlocks hS hP hD h dX12_paste_114
                  · have c13 : ¬ ((ma 1 p1.toNatClampNeg).toInt64) < (p2.toInt64 + p5.toInt64) := fun q => c13 ((lg_cmp_gt _ _).mpr q)
                    have h := h.2 c13
                    refine lv_iload hx hb dX12_paste_94 (lv_at hl 4 rfl) ?_
                    refine lv_i2l hx hb dX12_paste_96 rfl ?_
                    refine lv_iload hx hb dX12_paste_97 (lv_at hl 5 rfl) ?_
                    refine lv_i2l hx hb dX12_paste_99 rfl ?_
                    refine lv_ladd hx hb dX12_paste_100 ?_
                    refine lv_aload_n hx hb dX12_paste_101 rfl (lv_at hl 0 rfl) ?_
                    refine va_get (D := D) (ci := 12) (v := .ref (aM 2)) (C := RX12) (T := TX12) (N := 51) hx hb hw inW_X12 hown hK hP 0 rfl rfl 2 (by decide) (hw _ mw_6_45) (fun _ h9 => h9) rfl dX12_paste_102 ?_
                    refine lv_iload_n hx hb dX12_paste_105 rfl (lv_at hl 3 rfl) ?_
                    refine cIald hx hb hK hP 2 0 rfl rfl p3.toNatClampNeg rfl h.1 dX12_paste_106 ?_
                    have h := h.2
                    refine lv_i2l hx hb dX12_paste_107 rfl ?_
                    refine W.lcmp hx hb dX12_paste_108 ?_
                    refine lv_if_le (tgt := 115) hx hb dX12_paste_109 (by decide) (fun c14 => ?_) (fun c14 => ?_)
                    · have c14 : (p4.toInt64 + p5.toInt64) ≤ ((ma 1 p3.toNatClampNeg).toInt64) := (lg_cmp_le _ _).mp c14
                      have h := h.1 c14
                      refine lv_iconst (v := 0) hx hb dX12_paste_115 (by decide) ?_
                      refine lv_istore (lv' := [(6, .int 0), (0, .ref (aM 0)), (1, .int p1), (2, .int p2), (3, .int p3), (4, .int p4), (5, .int p5)]) hx hb dX12_paste_116 hl (by decide) rfl (fun ls hl => ?_)
                      obtain ⟨n, h⟩ := h
                      exact N118 (va_up ms 0 0) n 0 ml _ _ _ h hP hD hS (lv_sub hl [1, 2, 3, 4, 5, 6, 0] rfl)
                    · have c14 : ¬ (p4.toInt64 + p5.toInt64) ≤ ((ma 1 p3.toNatClampNeg).toInt64) := fun q => c14 ((lg_cmp_le _ _).mpr q)
                      have h := h.2 c14
                      refine lv_bipush (v := (-7)) hx hb dX12_paste_112 (by decide) ?_
                      rw [← hQ]
                      exact cRetI (v := (-7)) ((va_up ms 0 0), ml) hx hb hr hlocks hS hP hD h dX12_paste_114
          · have h := h.2 c9
            refine lv_bipush (v := (-8)) hx hb dX12_paste_60 (by decide) ?_
            rw [← hQ]
            exact cRetI (v := (-8)) ((va_up ms 0 0), ml) hx hb hr hlocks hS hP hD h dX12_paste_62
        · have h := h.2 c8
          refine lv_bipush (v := (-6)) hx hb dX12_paste_42 (by decide) ?_
          rw [← hQ]
          exact cRetI (v := (-6)) ((va_up ms 0 0), ml) hx hb hr hlocks hS hP hD h dX12_paste_44
    · have h := h.2 c6
      refine lv_bipush (v := (-2)) hx hb dX12_paste_19 (by decide) ?_
      rw [← hQ]
      exact cRetI (v := (-2)) ((va_up ms 0 0), ml) hx hb hr hlocks hS hP hD h dX12_paste_21
abbrev vsX12_four : List Cond := Cond.code yX12_four cX12_four 3 none :: WS
abbrev rmX12_four : Room := { frames := 0, cells := 0, slots := 0, locals := 0 }
set_option maxHeartbeats 4000000 in
set_option maxRecDepth 100000 in
theorem k_X12_four (l : Launch) (D : va_G) (C : Nat → ClassId) (sz : Nat) (aM : Nat → Nat)  (ms : Nat → Int32) (mw : Nat → Int64) (ma : Nat → Nat → Int32) (ml : Nat → Nat → Int64) (p1 : Int32) {post : (Nat → Int32) → (Nat → Nat → Int32) → Prop} (h : P_X12_four ms ma p1 post) : Met l yX12_four vsX12_four rmX12_four (cPre D C [.ref (aM 0), .int p1] sz (wM aM C ms mw ma ml)) (cQv D (fun (u : (Nat → Int32) × (Nat → Nat → Int32)) => post u.1 u.2) (fun u => wM aM C u.1 mw u.2 ml) (va_A (List.flatten (wM aM C ms mw ma ml)) sz)) 0 0 (va_A (List.flatten (wM aM C ms mw ma ml)) sz) := by
  refine cStart (QA := fun A => cQv D (fun (u : (Nat → Int32) × (Nat → Nat → Int32)) => post u.1 u.2) (fun u => wM aM C u.1 mw u.2 ml) A) (cc := cX12_four) (maxL := 3) (ret := none) (by decide) (Nat.le_of_ble_eq_true rfl) ?_
  intro p e s m args below meth c A ls hx hb hr hml hown hw hlocks hname hK hN hA hP hD hS hl
  generalize hQ : MQ below _ args s 0 0 A = Q
  have hl : lv_has ls 3 [(0, .ref (aM 0)), (1, .int p1)] := hl
  obtain ⟨H, hH⟩ : ∃ H, H = s.heap := ⟨_, rfl⟩
  obtain ⟨locs, hlo⟩ : ∃ z : List Loc, z = [] := ⟨_, rfl⟩
  have hP : va_P D vwCl (List.flatten (wM aM C ms mw ma ml)) H := by rw [hH]; exact hP
  have hS : va_S A s.heap H locs := by rw [hH, hlo]; exact hS
  rw [show W p l e rmX12_four s m args below meth c s.heap [] 0 0 Q (F0 m 0 ls []) = W p l e rmX12_four s m args below meth c H locs 0 0 Q (F0 m 0 ls []) from by rw [hH, hlo]]
  have N3 : ∀  (n3 : Nat) (x2_ : Int32) (ms : Nat → Int32) (ma : Nat → Nat → Int32) (H : Heap) (locs : List Loc) (ls : Array Slot), P_X12_four_3 p1 post   n3 x2_ ms ma → va_P D vwCl (List.flatten (wM aM C ms mw ma ml)) H → va_D A (List.flatten (wM aM C ms mw ma ml)) → va_S A s.heap H locs → lv_has ls 3 [(0, .ref (aM 0)), (1, .int p1), (2, .int x2_)] → W p l e rmX12_four s m args below meth c H locs 0 0 Q (F0 m 3 ls []) := by
    intro n3
    induction n3 with
    | zero => intro x2_ ms ma H locs ls h hP hD hS hl; exact False.elim h
    | succ n3 ih3 =>
      intro x2_ ms ma H locs ls h hP hD hS hl
      refine lv_iload_n hx hb dX12_four_3 rfl (lv_at hl 2 rfl) ?_
      refine lv_if_lt (tgt := 36) hx hb dX12_four_4 (by decide) (fun c1 => ?_) (fun c1 => ?_)
      · have h := h.1 c1
        rw [← hQ]
        exact cRetV (ms, ma) hx hb hr hlocks hS hP hD h dX12_four_36
      · have h := h.2 c1
        refine lv_aload_n hx hb dX12_four_7 rfl (lv_at hl 0 rfl) ?_
        refine va_get (D := D) (ci := 12) (v := .ref (aM 5)) (C := RX12) (T := TX12) (N := 51) hx hb hw inW_X12 hown hK hP 0 rfl rfl 5 (by decide) (hw _ mw_6_48) (fun _ h9 => h9) rfl dX12_four_8 ?_
        refine lv_aload_n hx hb dX12_four_11 rfl (lv_at hl 0 rfl) ?_
        refine va_get (D := D) (ci := 12) (v := .int (ms 1)) (C := RX12) (T := TX12) (N := 51) hx hb hw inW_X12 hown hK hP 0 rfl rfl 6 (by decide) (hw _ mw_6_49) (fun _ h9 => h9) rfl dX12_four_12 ?_
        refine lv_iload_n hx hb dX12_four_15 rfl (lv_at hl 1 rfl) ?_
        refine lv_iload_n hx hb dX12_four_16 rfl (lv_at hl 2 rfl) ?_
        refine lv_ishr hx hb dX12_four_17 ?_
        refine lv_i2b hx hb dX12_four_18 rfl ?_
        refine cBast hx hb hK hP hD hS 5 2 rfl rfl ((ms 1).toNatClampNeg) rfl h.1 dX12_four_19 (fun H locs hP hD hS => ?_)
        have h := h.2
        refine lv_aload_n hx hb dX12_four_20 rfl (lv_at hl 0 rfl) ?_
        refine lv_dup hx hb dX12_four_21 rfl ?_
        refine va_get (D := D) (ci := 12) (v := .int (ms 1)) (C := RX12) (T := TX12) (N := 51) hx hb hw inW_X12 hown hK hP 0 rfl rfl 6 (by decide) (hw _ mw_6_49) (fun _ h9 => h9) rfl dX12_four_22 ?_
        refine lv_iconst (v := 1) hx hb dX12_four_25 (by decide) ?_
        refine lv_iadd hx hb dX12_four_26 ?_
        refine lv_topi (fun x2 ex2 => ?_)
        have h := h x2 ex2
        refine va_put (D := D) (ci := 12) (v := .int x2) (ty := .int) (C := RX12) (T := TX12) (N := 51) hx hb hw inW_X12 tyX12 tyX12_ok nmX12 hown hK hP hD hS 0 rfl rfl 6 (by decide) (hw _ mw_6_49) (fun _ h9 => h9) rfl (by decide +kernel) rfl rfl (Nat.le_of_ble_eq_true rfl) dX12_four_27 (fun H locs hP hD hS => ?_)
        refine lv_iinc (v := (x2_ + (-8))) (lv' := [(2, .int (x2_ + (-8))), (0, .ref (aM 0)), (1, .int p1)]) hx hb dX12_four_30 hl (k := 2) rfl rfl (by decide) rfl (fun ls hl => ?_)
        refine lv_goto (tgt := 3) hx hb dX12_four_33 (by decide) ?_
        have hP : va_P D vwCl (List.flatten (wM aM C (va_up ms 1 x2) mw (va_up ma 2 (upd (ma 2) ((ms 1).toNatClampNeg) (((p1 >>> (x2_ &&& 31)).toInt8.toInt32).toInt8.toInt32))) ml)) H := hP
        have hD : va_D A (List.flatten (wM aM C (va_up ms 1 x2) mw (va_up ma 2 (upd (ma 2) ((ms 1).toNatClampNeg) (((p1 >>> (x2_ &&& 31)).toInt8.toInt32).toInt8.toInt32))) ml)) := hD
        exact ih3 (x2_ + (-8)) (va_up ms 1 x2) (va_up ma 2 (upd (ma 2) ((ms 1).toNatClampNeg) (((p1 >>> (x2_ &&& 31)).toInt8.toInt32).toInt8.toInt32))) _ _ _ h hP hD hS (lv_sub hl [1, 2, 0] rfl)
  refine lv_bipush (v := 24) hx hb dX12_four_0 (by decide) ?_
  refine lv_istore_n (lv' := [(2, .int 24), (0, .ref (aM 0)), (1, .int p1)]) hx hb dX12_four_2 rfl hl (by decide) rfl (fun ls hl => ?_)
  obtain ⟨n, h⟩ := h
  exact N3  n 24 ms ma _ _ _ h hP hD hS (lv_sub hl [1, 2, 0] rfl)
abbrev vsX12_feed : List Cond := Cond.code yX12_feed cX12_feed 6 (some .int) :: WS
abbrev rmX12_feed : Room := { frames := 1, cells := 0, slots := 0, locals := 22 }
set_option maxHeartbeats 4000000 in
set_option maxRecDepth 100000 in
theorem k_X12_feed (l : Launch) (D : va_G) (C : Nat → ClassId) (sz : Nat) (aM : Nat → Nat)  (ms : Nat → Int32) (mw : Nat → Int64) (ma : Nat → Nat → Int32) (ml : Nat → Nat → Int64) (p1 : Int32) (p2 : Int32) (p3 : Int32) (p4 : Int32) (p5 : Int32) {post : Int32 → (Nat → Int32) → (Nat → Nat → Int32) → Prop} (h : P_X12_feed ms ma p1 p2 p3 p4 p5 post) : Met l yX12_feed vsX12_feed rmX12_feed (cPre D C [.ref (aM 0), .int p1, .int p2, .int p3, .int p4, .int p5] sz (wM aM C ms mw ma ml)) (cQi D (fun (r : Int32) (u : (Nat → Int32) × (Nat → Nat → Int32)) => post r u.1 u.2) (fun u => wM aM C u.1 mw u.2 ml) (va_A (List.flatten (wM aM C ms mw ma ml)) sz)) 0 0 (va_A (List.flatten (wM aM C ms mw ma ml)) sz) := by
  refine cStart (QA := fun A => cQi D (fun (r : Int32) (u : (Nat → Int32) × (Nat → Nat → Int32)) => post r u.1 u.2) (fun u => wM aM C u.1 mw u.2 ml) A) (cc := cX12_feed) (maxL := 6) (ret := (some .int)) (by decide) (Nat.le_of_ble_eq_true rfl) ?_
  intro p e s m args below meth c A ls hx hb hr hml hown hw hlocks hname hK hN hA hP hD hS hl
  generalize hQ : MQ below _ args s 0 0 A = Q
  have hl : lv_has ls 6 [(0, .ref (aM 0)), (1, .int p1), (2, .int p2), (3, .int p3), (4, .int p4), (5, .int p5)] := hl
  obtain ⟨H, hH⟩ : ∃ H, H = s.heap := ⟨_, rfl⟩
  obtain ⟨locs, hlo⟩ : ∃ z : List Loc, z = [] := ⟨_, rfl⟩
  have hP : va_P D vwCl (List.flatten (wM aM C ms mw ma ml)) H := by rw [hH]; exact hP
  have hS : va_S A s.heap H locs := by rw [hH, hlo]; exact hS
  rw [show W p l e rmX12_feed s m args below meth c s.heap [] 0 0 Q (F0 m 0 ls []) = W p l e rmX12_feed s m args below meth c H locs 0 0 Q (F0 m 0 ls []) from by rw [hH, hlo]]
  refine lv_aload_n hx hb dX12_feed_0 rfl (lv_at hl 0 rfl) ?_
  refine lv_iconst (v := 0) hx hb dX12_feed_1 (by decide) ?_
  refine va_put (D := D) (ci := 12) (v := .int 0) (ty := .int) (C := RX12) (T := TX12) (N := 51) hx hb hw inW_X12 tyX12 tyX12_ok nmX12 hown hK hP hD hS 0 rfl rfl 0 (by decide) (hw _ mw_6_43) (fun _ h9 => h9) rfl (by decide +kernel) rfl rfl (Nat.le_of_ble_eq_true rfl) dX12_feed_2 (fun H locs hP hD hS => ?_)
  refine lv_aload_n hx hb dX12_feed_5 rfl (lv_at hl 0 rfl) ?_
  refine va_get (D := D) (ci := 12) (v := .int (ms 1)) (C := RX12) (T := TX12) (N := 51) hx hb hw inW_X12 hown hK hP 0 rfl rfl 6 (by decide) (hw _ mw_6_49) (fun _ h9 => h9) rfl dX12_feed_6 ?_
  refine lv_bipush (v := 20) hx hb dX12_feed_9 (by decide) ?_
  refine lv_iadd hx hb dX12_feed_11 ?_
  refine lv_sipush (v := 1600) hx hb dX12_feed_12 (by decide) ?_
  refine lv_icmp_le (tgt := 20) hx hb dX12_feed_15 (by decide) (fun c1 => ?_) (fun c1 => ?_)
  · have h := h.1 c1
    refine lv_aload_n hx hb dX12_feed_20 rfl (lv_at hl 0 rfl) ?_
    refine lv_iload_n hx hb dX12_feed_21 rfl (lv_at hl 1 rfl) ?_
    have hP : va_P D vwCl (List.flatten (wM aM C (va_up ms 0 0) mw ma ml)) H := hP
    have hD : va_D A (List.flatten (wM aM C (va_up ms 0 0) mw ma ml)) := hD
    refine cGoAV (cRunAV (As := [.int p1]) (rest := []) ⟨hx, hb, hml, hown, hw⟩ hK hN hP hD (k_X12_four l D C _ aM  (va_up ms 0 0) mw ma ml p1 h) (cwV 1 hw (goodV mw_6_223 mw_6_225 mw_s108 mw_1_13 mw_6_226) rfl rfl rfl (by decide +kernel) ⟨Nat.le_of_ble_eq_true rfl, Nat.le_of_ble_eq_true rfl⟩) rfl rfl rfl hl.1 rfl (Nat.le_of_ble_eq_true rfl) dX12_feed_22 ⟨Nat.zero_le _, Nat.zero_le _⟩) hP hD hS hA (fun u H locs h hP hD hS => ?_)
    obtain ⟨ms_2, ma_3⟩ := u
    have hP : va_P D vwCl (List.flatten (wM aM C ms_2 mw ma_3 ml)) H := hP
    have hD : va_D A (List.flatten (wM aM C ms_2 mw ma_3 ml)) := hD
    refine lv_aload_n hx hb dX12_feed_25 rfl (lv_at hl 0 rfl) ?_
    refine lv_iload_n hx hb dX12_feed_26 rfl (lv_at hl 2 rfl) ?_
    refine cGoAV (cRunAV (As := [.int p2]) (rest := []) ⟨hx, hb, hml, hown, hw⟩ hK hN hP hD (k_X12_four l D C _ aM  ms_2 mw ma_3 ml p2 h) (cwV 1 hw (goodV mw_6_223 mw_6_225 mw_s108 mw_1_13 mw_6_226) rfl rfl rfl (by decide +kernel) ⟨Nat.le_of_ble_eq_true rfl, Nat.le_of_ble_eq_true rfl⟩) rfl rfl rfl hl.1 rfl (Nat.le_of_ble_eq_true rfl) dX12_feed_27 ⟨Nat.zero_le _, Nat.zero_le _⟩) hP hD hS hA (fun u H locs h hP hD hS => ?_)
    obtain ⟨ms_4, ma_5⟩ := u
    have hP : va_P D vwCl (List.flatten (wM aM C ms_4 mw ma_5 ml)) H := hP
    have hD : va_D A (List.flatten (wM aM C ms_4 mw ma_5 ml)) := hD
    refine lv_aload_n hx hb dX12_feed_30 rfl (lv_at hl 0 rfl) ?_
    refine lv_iload_n hx hb dX12_feed_31 rfl (lv_at hl 3 rfl) ?_
    refine cGoAV (cRunAV (As := [.int p3]) (rest := []) ⟨hx, hb, hml, hown, hw⟩ hK hN hP hD (k_X12_four l D C _ aM  ms_4 mw ma_5 ml p3 h) (cwV 1 hw (goodV mw_6_223 mw_6_225 mw_s108 mw_1_13 mw_6_226) rfl rfl rfl (by decide +kernel) ⟨Nat.le_of_ble_eq_true rfl, Nat.le_of_ble_eq_true rfl⟩) rfl rfl rfl hl.1 rfl (Nat.le_of_ble_eq_true rfl) dX12_feed_32 ⟨Nat.zero_le _, Nat.zero_le _⟩) hP hD hS hA (fun u H locs h hP hD hS => ?_)
    obtain ⟨ms_6, ma_7⟩ := u
    have hP : va_P D vwCl (List.flatten (wM aM C ms_6 mw ma_7 ml)) H := hP
    have hD : va_D A (List.flatten (wM aM C ms_6 mw ma_7 ml)) := hD
    refine lv_aload_n hx hb dX12_feed_35 rfl (lv_at hl 0 rfl) ?_
    refine lv_iload hx hb dX12_feed_36 (lv_at hl 4 rfl) ?_
    refine cGoAV (cRunAV (As := [.int p4]) (rest := []) ⟨hx, hb, hml, hown, hw⟩ hK hN hP hD (k_X12_four l D C _ aM  ms_6 mw ma_7 ml p4 h) (cwV 1 hw (goodV mw_6_223 mw_6_225 mw_s108 mw_1_13 mw_6_226) rfl rfl rfl (by decide +kernel) ⟨Nat.le_of_ble_eq_true rfl, Nat.le_of_ble_eq_true rfl⟩) rfl rfl rfl hl.1 rfl (Nat.le_of_ble_eq_true rfl) dX12_feed_38 ⟨Nat.zero_le _, Nat.zero_le _⟩) hP hD hS hA (fun u H locs h hP hD hS => ?_)
    obtain ⟨ms_8, ma_9⟩ := u
    have hP : va_P D vwCl (List.flatten (wM aM C ms_8 mw ma_9 ml)) H := hP
    have hD : va_D A (List.flatten (wM aM C ms_8 mw ma_9 ml)) := hD
    refine lv_aload_n hx hb dX12_feed_41 rfl (lv_at hl 0 rfl) ?_
    refine lv_iload hx hb dX12_feed_42 (lv_at hl 5 rfl) ?_
    refine cGoAV (cRunAV (As := [.int p5]) (rest := []) ⟨hx, hb, hml, hown, hw⟩ hK hN hP hD (k_X12_four l D C _ aM  ms_8 mw ma_9 ml p5 h) (cwV 1 hw (goodV mw_6_223 mw_6_225 mw_s108 mw_1_13 mw_6_226) rfl rfl rfl (by decide +kernel) ⟨Nat.le_of_ble_eq_true rfl, Nat.le_of_ble_eq_true rfl⟩) rfl rfl rfl hl.1 rfl (Nat.le_of_ble_eq_true rfl) dX12_feed_44 ⟨Nat.zero_le _, Nat.zero_le _⟩) hP hD hS hA (fun u H locs h hP hD hS => ?_)
    obtain ⟨ms_10, ma_11⟩ := u
    have hP : va_P D vwCl (List.flatten (wM aM C ms_10 mw ma_11 ml)) H := hP
    have hD : va_D A (List.flatten (wM aM C ms_10 mw ma_11 ml)) := hD
    refine lv_aload_n hx hb dX12_feed_47 rfl (lv_at hl 0 rfl) ?_
    refine va_get (D := D) (ci := 12) (v := .int (ms_10 1)) (C := RX12) (T := TX12) (N := 51) hx hb hw inW_X12 hown hK hP 0 rfl rfl 6 (by decide) (hw _ mw_6_49) (fun _ h9 => h9) rfl dX12_feed_48 ?_
    rw [← hQ]
    exact cRetI (v := (ms_10 1)) (ms_10, ma_11) hx hb hr hlocks hS hP hD h dX12_feed_51
  · have h := h.2 c1
    refine lv_iconst (v := (-1)) hx hb dX12_feed_18 (by decide) ?_
    have hP : va_P D vwCl (List.flatten (wM aM C (va_up ms 0 0) mw ma ml)) H := hP
    have hD : va_D A (List.flatten (wM aM C (va_up ms 0 0) mw ma ml)) := hD
    rw [← hQ]
    exact cRetI (v := (-1)) ((va_up ms 0 0), ma) hx hb hr hlocks hS hP hD h dX12_feed_19
abbrev vsX12_end : List Cond := Cond.code yX12_end cX12_end 2 (some .int) :: WS
abbrev rmX12_end : Room := { frames := 1, cells := 0, slots := 0, locals := 25 }
set_option maxHeartbeats 4000000 in
set_option maxRecDepth 100000 in
theorem k_X12_end (l : Launch) (D : va_G) (C : Nat → ClassId) (sz : Nat) (aM : Nat → Nat)  (ms : Nat → Int32) (mw : Nat → Int64) (ma : Nat → Nat → Int32) (ml : Nat → Nat → Int64) (p1 : Int32) {post : Int32 → (Nat → Int32) → Prop} (h : P_X12_end ms p1 post) : Met l yX12_end vsX12_end rmX12_end (cPre D C [.ref (aM 0), .int p1] sz (wM aM C ms mw ma ml)) (cQi D (fun (r : Int32) (u : (Nat → Int32)) => post r u) (fun u => wM aM C u mw ma ml) (va_A (List.flatten (wM aM C ms mw ma ml)) sz)) 0 0 (va_A (List.flatten (wM aM C ms mw ma ml)) sz) := by
  refine cStart (QA := fun A => cQi D (fun (r : Int32) (u : (Nat → Int32)) => post r u) (fun u => wM aM C u mw ma ml) A) (cc := cX12_end) (maxL := 2) (ret := (some .int)) (by decide) (Nat.le_of_ble_eq_true rfl) ?_
  intro p e s m args below meth c A ls hx hb hr hml hown hw hlocks hname hK hN hA hP hD hS hl
  generalize hQ : MQ below _ args s 0 0 A = Q
  have hl : lv_has ls 2 [(0, .ref (aM 0)), (1, .int p1)] := hl
  obtain ⟨H, hH⟩ : ∃ H, H = s.heap := ⟨_, rfl⟩
  obtain ⟨locs, hlo⟩ : ∃ z : List Loc, z = [] := ⟨_, rfl⟩
  have hP : va_P D vwCl (List.flatten (wM aM C ms mw ma ml)) H := by rw [hH]; exact hP
  have hS : va_S A s.heap H locs := by rw [hH, hlo]; exact hS
  rw [show W p l e rmX12_end s m args below meth c s.heap [] 0 0 Q (F0 m 0 ls []) = W p l e rmX12_end s m args below meth c H locs 0 0 Q (F0 m 0 ls []) from by rw [hH, hlo]]
  refine lv_aload_n hx hb dX12_end_0 rfl (lv_at hl 0 rfl) ?_
  refine lv_iconst (v := 0) hx hb dX12_end_1 (by decide) ?_
  refine va_put (D := D) (ci := 12) (v := .int 0) (ty := .int) (C := RX12) (T := TX12) (N := 51) hx hb hw inW_X12 tyX12 tyX12_ok nmX12 hown hK hP hD hS 0 rfl rfl 0 (by decide) (hw _ mw_6_43) (fun _ h9 => h9) rfl (by decide +kernel) rfl rfl (Nat.le_of_ble_eq_true rfl) dX12_end_2 (fun H locs hP hD hS => ?_)
  refine lv_iload_n hx hb dX12_end_5 rfl (lv_at hl 1 rfl) ?_
  refine lv_i2l hx hb dX12_end_6 rfl ?_
  refine lv_lconst (v := 0) hx hb dX12_end_7 (by decide) ?_
  refine lv_aload_n hx hb dX12_end_8 rfl (lv_at hl 0 rfl) ?_
  refine va_get (D := D) (ci := 12) (v := .int (ms 1)) (C := RX12) (T := TX12) (N := 51) hx hb hw inW_X12 hown hK hP 0 rfl rfl 6 (by decide) (hw _ mw_6_49) (fun _ h9 => h9) rfl dX12_end_9 ?_
  refine lv_i2l hx hb dX12_end_12 rfl ?_
  have hP : va_P D vwCl (List.flatten (wM aM C (va_up ms 0 0) mw ma ml)) H := hP
  have hD : va_D A (List.flatten (wM aM C (va_up ms 0 0) mw ma ml)) := hD
  refine cGoEI (cRunES (As := [.long p1.toInt64, .long 0, .long ((ms 1).toInt64)]) (rest := []) ⟨hx, hb, hml, hown, hw⟩ hK hN hP hD (k_X12_in l D C _    p1.toInt64 0 ((ms 1).toInt64) h) (va_cwS 3 hw (goodS mw_6_205 mw_6_206 mw_1_13 mw_6_207) rfl rfl rfl (by decide +kernel) ⟨Nat.le_of_ble_eq_true rfl, Nat.le_of_ble_eq_true rfl⟩) rfl hl.1 rfl (Nat.le_of_ble_eq_true rfl) dX12_end_13 ⟨Nat.zero_le _, Nat.zero_le _⟩) hP hD hS hA (fun r1 u H locs h hP hD hS => ?_)
  have hP : va_P D vwCl (List.flatten (wM aM C (va_up ms 0 0) mw ma ml)) H := hP
  have hD : va_D A (List.flatten (wM aM C (va_up ms 0 0) mw ma ml)) := hD
  refine lv_if_ne (tgt := 21) hx hb dX12_end_16 (by decide) (fun c2 => ?_) (fun c2 => ?_)
  · have h := h.1 c2
    refine lv_aload_n hx hb dX12_end_21 rfl (lv_at hl 0 rfl) ?_
    refine lv_iload_n hx hb dX12_end_22 rfl (lv_at hl 1 rfl) ?_
    refine va_put (D := D) (ci := 12) (v := .int p1) (ty := .int) (C := RX12) (T := TX12) (N := 51) hx hb hw inW_X12 tyX12 tyX12_ok nmX12 hown hK hP hD hS 0 rfl rfl 6 (by decide) (hw _ mw_6_49) (fun _ h9 => h9) rfl (by decide +kernel) rfl rfl (Nat.le_of_ble_eq_true rfl) dX12_end_23 (fun H locs hP hD hS => ?_)
    refine lv_iload_n hx hb dX12_end_26 rfl (lv_at hl 1 rfl) ?_
    have hP : va_P D vwCl (List.flatten (wM aM C (va_up (va_up ms 0 0) 1 p1) mw ma ml)) H := hP
    have hD : va_D A (List.flatten (wM aM C (va_up (va_up ms 0 0) 1 p1) mw ma ml)) := hD
    rw [← hQ]
    exact cRetI (v := p1) ((va_up (va_up ms 0 0) 1 p1)) hx hb hr hlocks hS hP hD h dX12_end_27
  · have h := h.2 c2
    refine lv_iconst (v := (-1)) hx hb dX12_end_19 (by decide) ?_
    rw [← hQ]
    exact cRetI (v := (-1)) ((va_up ms 0 0)) hx hb hr hlocks hS hP hD h dX12_end_20
abbrev vsX12_isByte : List Cond := Cond.code yX12_isByte cX12_isByte 4 (some .boolean) :: WS
abbrev rmX12_isByte : Room := { frames := 0, cells := 0, slots := 0, locals := 0 }
set_option maxHeartbeats 4000000 in
set_option maxRecDepth 100000 in
theorem k_X12_isByte (l : Launch) (D : va_G) (C : Nat → ClassId) (sz : Nat) (aM : Nat → Nat)  (ms : Nat → Int32) (mw : Nat → Int64) (ma : Nat → Nat → Int32) (ml : Nat → Nat → Int64) (p1 : Int32) (p2 : Int32) (p3 : Int32) {post : Int32 → Prop} (h : P_X12_isByte ms ma p1 p2 p3 post) : Met l yX12_isByte vsX12_isByte rmX12_isByte (cPre D C [.ref (aM 0), .int p1, .int p2, .int p3] sz (wM aM C ms mw ma ml)) (cQi D (fun (r : Int32) (u : Unit) => post r ) (fun u => wM aM C ms mw ma ml) (va_A (List.flatten (wM aM C ms mw ma ml)) sz)) 0 0 (va_A (List.flatten (wM aM C ms mw ma ml)) sz) := by
  refine cStart (QA := fun A => cQi D (fun (r : Int32) (u : Unit) => post r ) (fun u => wM aM C ms mw ma ml) A) (cc := cX12_isByte) (maxL := 4) (ret := (some .boolean)) (by decide) (Nat.le_of_ble_eq_true rfl) ?_
  intro p e s m args below meth c A ls hx hb hr hml hown hw hlocks hname hK hN hA hP hD hS hl
  generalize hQ : MQ below _ args s 0 0 A = Q
  have hl : lv_has ls 4 [(0, .ref (aM 0)), (1, .int p1), (2, .int p2), (3, .int p3)] := hl
  obtain ⟨H, hH⟩ : ∃ H, H = s.heap := ⟨_, rfl⟩
  obtain ⟨locs, hlo⟩ : ∃ z : List Loc, z = [] := ⟨_, rfl⟩
  have hP : va_P D vwCl (List.flatten (wM aM C ms mw ma ml)) H := by rw [hH]; exact hP
  have hS : va_S A s.heap H locs := by rw [hH, hlo]; exact hS
  rw [show W p l e rmX12_isByte s m args below meth c s.heap [] 0 0 Q (F0 m 0 ls []) = W p l e rmX12_isByte s m args below meth c H locs 0 0 Q (F0 m 0 ls []) from by rw [hH, hlo]]
  refine lv_iload_n hx hb dX12_isByte_0 rfl (lv_at hl 1 rfl) ?_
  refine lv_aload_n hx hb dX12_isByte_1 rfl (lv_at hl 0 rfl) ?_
  refine va_get (D := D) (ci := 12) (v := .int (ms 1)) (C := RX12) (T := TX12) (N := 51) hx hb hw inW_X12 hown hK hP 0 rfl rfl 6 (by decide) (hw _ mw_6_49) (fun _ h9 => h9) rfl dX12_isByte_2 ?_
  refine lv_icmp_ge (tgt := 32) hx hb dX12_isByte_5 (by decide) (fun c1 => ?_) (fun c1 => ?_)
  · have h := h.1 c1
    refine lv_iconst (v := 0) hx hb dX12_isByte_32 (by decide) ?_
    rw [← hQ]
    exact cRetZ (v := 0) () hx hb hr hlocks hS hP hD (Or.inl rfl) h dX12_isByte_33
  · have h := h.2 c1
    refine lv_aload_n hx hb dX12_isByte_8 rfl (lv_at hl 0 rfl) ?_
    refine va_get (D := D) (ci := 12) (v := .ref (aM 5)) (C := RX12) (T := TX12) (N := 51) hx hb hw inW_X12 hown hK hP 0 rfl rfl 5 (by decide) (hw _ mw_6_48) (fun _ h9 => h9) rfl dX12_isByte_9 ?_
    refine lv_iload_n hx hb dX12_isByte_12 rfl (lv_at hl 1 rfl) ?_
    refine cBald hx hb hK hP 5 2 rfl rfl p1.toNatClampNeg rfl h.1 dX12_isByte_13 ?_
    have h := h.2
    refine lv_iload_n hx hb dX12_isByte_14 rfl (lv_at hl 2 rfl) ?_
    refine lv_icmp_lt (tgt := 32) hx hb dX12_isByte_15 (by decide) (fun c2 => ?_) (fun c2 => ?_)
    · have h := h.1 c2
      refine lv_iconst (v := 0) hx hb dX12_isByte_32 (by decide) ?_
      rw [← hQ]
      exact cRetZ (v := 0) () hx hb hr hlocks hS hP hD (Or.inl rfl) h dX12_isByte_33
    · have h := h.2 c2
      refine lv_aload_n hx hb dX12_isByte_18 rfl (lv_at hl 0 rfl) ?_
      refine va_get (D := D) (ci := 12) (v := .ref (aM 5)) (C := RX12) (T := TX12) (N := 51) hx hb hw inW_X12 hown hK hP 0 rfl rfl 5 (by decide) (hw _ mw_6_48) (fun _ h9 => h9) rfl dX12_isByte_19 ?_
      refine lv_iload_n hx hb dX12_isByte_22 rfl (lv_at hl 1 rfl) ?_
      refine cBald hx hb hK hP 5 2 rfl rfl p1.toNatClampNeg rfl h.1 dX12_isByte_23 ?_
      have h := h.2
      refine lv_iload_n hx hb dX12_isByte_24 rfl (lv_at hl 3 rfl) ?_
      refine lv_icmp_gt (tgt := 32) hx hb dX12_isByte_25 (by decide) (fun c3 => ?_) (fun c3 => ?_)
      · have h := h.1 c3
        refine lv_iconst (v := 0) hx hb dX12_isByte_32 (by decide) ?_
        rw [← hQ]
        exact cRetZ (v := 0) () hx hb hr hlocks hS hP hD (Or.inl rfl) h dX12_isByte_33
      · have h := h.2 c3
        refine lv_iconst (v := 1) hx hb dX12_isByte_28 (by decide) ?_
        refine lv_goto (tgt := 33) hx hb dX12_isByte_29 (by decide) ?_
        rw [← hQ]
        exact cRetZ (v := 1) () hx hb hr hlocks hS hP hD (Or.inr rfl) h dX12_isByte_33
abbrev vsX12_next : List Cond := Cond.code yX12_next cX12_next 2 none :: WS
abbrev rmX12_next : Room := { frames := 1, cells := 0, slots := 0, locals := 23 }
set_option maxHeartbeats 4000000 in
set_option maxRecDepth 100000 in
theorem k_X12_next (l : Launch) (D : va_G) (C : Nat → ClassId) (sz : Nat) (aM : Nat → Nat)  (ms : Nat → Int32) (mw : Nat → Int64) (ma : Nat → Nat → Int32) (ml : Nat → Nat → Int64)  {post : (Nat → Int32) → (Nat → Int64) → Prop} (h : P_X12_next ms mw ma post) : Met l yX12_next vsX12_next rmX12_next (cPre D C [.ref (aM 0)] sz (wM aM C ms mw ma ml)) (cQv D (fun (u : (Nat → Int32) × (Nat → Int64)) => post u.1 u.2) (fun u => wM aM C u.1 u.2 ma ml) (va_A (List.flatten (wM aM C ms mw ma ml)) sz)) 0 0 (va_A (List.flatten (wM aM C ms mw ma ml)) sz) := by
  refine cStart (QA := fun A => cQv D (fun (u : (Nat → Int32) × (Nat → Int64)) => post u.1 u.2) (fun u => wM aM C u.1 u.2 ma ml) A) (cc := cX12_next) (maxL := 2) (ret := none) (by decide) (Nat.le_of_ble_eq_true rfl) ?_
  intro p e s m args below meth c A ls hx hb hr hml hown hw hlocks hname hK hN hA hP hD hS hl
  generalize hQ : MQ below _ args s 0 0 A = Q
  have hl : lv_has ls 2 [(0, .ref (aM 0))] := hl
  obtain ⟨H, hH⟩ : ∃ H, H = s.heap := ⟨_, rfl⟩
  obtain ⟨locs, hlo⟩ : ∃ z : List Loc, z = [] := ⟨_, rfl⟩
  have hP : va_P D vwCl (List.flatten (wM aM C ms mw ma ml)) H := by rw [hH]; exact hP
  have hS : va_S A s.heap H locs := by rw [hH, hlo]; exact hS
  rw [show W p l e rmX12_next s m args below meth c s.heap [] 0 0 Q (F0 m 0 ls []) = W p l e rmX12_next s m args below meth c H locs 0 0 Q (F0 m 0 ls []) from by rw [hH, hlo]]
  have N208 : ∀ (mw : Nat → Int64) (n208 : Nat) (ms : Nat → Int32) (H : Heap) (locs : List Loc) (ls : Array Slot), P_X12_next_208 ma post  mw n208 ms → va_P D vwCl (List.flatten (wM aM C ms mw ma ml)) H → va_D A (List.flatten (wM aM C ms mw ma ml)) → va_S A s.heap H locs → lv_has ls 2 [(0, .ref (aM 0))] → W p l e rmX12_next s m args below meth c H locs 0 0 Q (F0 m 208 ls []) := by
    intro mw
    intro n208
    induction n208 with
    | zero => intro ms H locs ls h hP hD hS hl; exact False.elim h
    | succ n208 ih208 =>
      intro ms H locs ls h hP hD hS hl
      have h : P_X12_next_208_b ma post  mw (P_X12_next_208 ma post  mw n208) ms := h
      unfold P_X12_next_208_b at h
      refine lv_aload_n hx hb dX12_next_208 rfl (lv_at hl 0 rfl) ?_
      refine lv_aload_n hx hb dX12_next_209 rfl (lv_at hl 0 rfl) ?_
      refine va_get (D := D) (ci := 12) (v := .int (ms 2)) (C := RX12) (T := TX12) (N := 51) hx hb hw inW_X12 hown hK hP 0 rfl rfl 7 (by decide) (hw _ mw_6_50) (fun _ h9 => h9) rfl dX12_next_210 ?_
      refine lv_bipush (v := 48) hx hb dX12_next_213 (by decide) ?_
      refine lv_bipush (v := 57) hx hb dX12_next_215 (by decide) ?_
      refine cGoAI (cRunAV (As := [.int (ms 2), .int 48, .int 57]) (rest := []) ⟨hx, hb, hml, hown, hw⟩ hK hN hP hD (k_X12_isByte l D C _ aM  ms mw ma ml (ms 2) 48 57 h) (cwV 3 hw (goodV mw_7_11 mw_7_13 mw_s112 mw_1_13 mw_7_14) rfl rfl rfl (by decide +kernel) ⟨Nat.le_of_ble_eq_true rfl, Nat.le_of_ble_eq_true rfl⟩) rfl rfl rfl hl.1 rfl (Nat.le_of_ble_eq_true rfl) dX12_next_217 ⟨Nat.zero_le _, Nat.zero_le _⟩) hP hD hS hA (fun r4 u H locs h hP hD hS => ?_)
      have hP : va_P D vwCl (List.flatten (wM aM C ms mw ma ml)) H := hP
      have hD : va_D A (List.flatten (wM aM C ms mw ma ml)) := hD
      refine lv_if_eq (tgt := 307) hx hb dX12_next_220 (by decide) (fun c5 => ?_) (fun c5 => ?_)
      · have h := h.1 c5
        rw [← hQ]
        exact cRetV (ms, mw) hx hb hr hlocks hS hP hD h dX12_next_307
      · have h := h.2 c5
        refine lv_aload_n hx hb dX12_next_223 rfl (lv_at hl 0 rfl) ?_
        refine lv_aload_n hx hb dX12_next_224 rfl (lv_at hl 0 rfl) ?_
        refine va_get (D := D) (ci := 12) (v := .int (ms 5)) (C := RX12) (T := TX12) (N := 51) hx hb hw inW_X12 hown hK hP 0 rfl rfl 10 (by decide) (hw _ mw_6_53) (fun _ h9 => h9) rfl dX12_next_225 ?_
        refine lv_ldc (v := 100000) hx hb hown (hw _ mw_7_18) dX12_next_228 ?_
        refine lv_icmp_le (tgt := 238) hx hb dX12_next_230 (by decide) (fun c6 => ?_) (fun c6 => ?_)
        · have h := h.1 c6
          refine lv_bipush (v := 10) hx hb dX12_next_238 (by decide) ?_
          refine lv_aload_n hx hb dX12_next_240 rfl (lv_at hl 0 rfl) ?_
          refine va_get (D := D) (ci := 12) (v := .int (ms 5)) (C := RX12) (T := TX12) (N := 51) hx hb hw inW_X12 hown hK hP 0 rfl rfl 10 (by decide) (hw _ mw_6_53) (fun _ h9 => h9) rfl dX12_next_241 ?_
          refine lv_imul hx hb dX12_next_244 ?_
          refine lv_aload_n hx hb dX12_next_245 rfl (lv_at hl 0 rfl) ?_
          refine va_get (D := D) (ci := 12) (v := .ref (aM 5)) (C := RX12) (T := TX12) (N := 51) hx hb hw inW_X12 hown hK hP 0 rfl rfl 5 (by decide) (hw _ mw_6_48) (fun _ h9 => h9) rfl dX12_next_246 ?_
          refine lv_aload_n hx hb dX12_next_249 rfl (lv_at hl 0 rfl) ?_
          refine va_get (D := D) (ci := 12) (v := .int (ms 2)) (C := RX12) (T := TX12) (N := 51) hx hb hw inW_X12 hown hK hP 0 rfl rfl 7 (by decide) (hw _ mw_6_50) (fun _ h9 => h9) rfl dX12_next_250 ?_
          refine cBald hx hb hK hP 5 2 rfl rfl ((ms 2).toNatClampNeg) rfl h.1 dX12_next_253 ?_
          have h := h.2
          refine lv_iadd hx hb dX12_next_254 ?_
          refine lv_bipush (v := 48) hx hb dX12_next_255 (by decide) ?_
          refine lv_isub hx hb dX12_next_257 ?_
          refine lv_topi (fun x7 ex7 => ?_)
          have h := h x7 ex7
          refine va_put (D := D) (ci := 12) (v := .int x7) (ty := .int) (C := RX12) (T := TX12) (N := 51) hx hb hw inW_X12 tyX12 tyX12_ok nmX12 hown hK hP hD hS 0 rfl rfl 10 (by decide) (hw _ mw_6_53) (fun _ h9 => h9) rfl (by decide +kernel) rfl rfl (Nat.le_of_ble_eq_true rfl) dX12_next_258 (fun H locs hP hD hS => ?_)
          refine lv_aload_n hx hb dX12_next_261 rfl (lv_at hl 0 rfl) ?_
          refine lv_dup hx hb dX12_next_262 rfl ?_
          refine va_get (D := D) (ci := 12) (v := .int (ms 2)) (C := RX12) (T := TX12) (N := 51) hx hb hw inW_X12 hown hK hP 0 rfl rfl 7 (by decide) (hw _ mw_6_50) (fun _ h9 => h9) rfl dX12_next_263 ?_
          refine lv_iconst (v := 1) hx hb dX12_next_266 (by decide) ?_
          refine lv_iadd hx hb dX12_next_267 ?_
          refine lv_topi (fun x8 ex8 => ?_)
          have h := h x8 ex8
          refine va_put (D := D) (ci := 12) (v := .int x8) (ty := .int) (C := RX12) (T := TX12) (N := 51) hx hb hw inW_X12 tyX12 tyX12_ok nmX12 hown hK hP hD hS 0 rfl rfl 7 (by decide) (hw _ mw_6_50) (fun _ h9 => h9) rfl (by decide +kernel) rfl rfl (Nat.le_of_ble_eq_true rfl) dX12_next_268 (fun H locs hP hD hS => ?_)
          refine lv_goto (tgt := 208) hx hb dX12_next_271 (by decide) ?_
          have hP : va_P D vwCl (List.flatten (wM aM C (va_up (va_up ms 2 x8) 5 x7) mw ma ml)) H := hP
          have hD : va_D A (List.flatten (wM aM C (va_up (va_up ms 2 x8) 5 x7) mw ma ml)) := hD
          exact ih208 (va_up (va_up ms 2 x8) 5 x7) _ _ _ h hP hD hS (lv_sub hl [0] rfl)
        · have h := h.2 c6
          refine lv_ldc (v := 1000000) hx hb hown (hw _ mw_7_19) dX12_next_233 ?_
          refine lv_goto (tgt := 258) hx hb dX12_next_235 (by decide) ?_
          refine va_put (D := D) (ci := 12) (v := .int 1000000) (ty := .int) (C := RX12) (T := TX12) (N := 51) hx hb hw inW_X12 tyX12 tyX12_ok nmX12 hown hK hP hD hS 0 rfl rfl 10 (by decide) (hw _ mw_6_53) (fun _ h9 => h9) rfl (by decide +kernel) rfl rfl (Nat.le_of_ble_eq_true rfl) dX12_next_258 (fun H locs hP hD hS => ?_)
          refine lv_aload_n hx hb dX12_next_261 rfl (lv_at hl 0 rfl) ?_
          refine lv_dup hx hb dX12_next_262 rfl ?_
          refine va_get (D := D) (ci := 12) (v := .int (ms 2)) (C := RX12) (T := TX12) (N := 51) hx hb hw inW_X12 hown hK hP 0 rfl rfl 7 (by decide) (hw _ mw_6_50) (fun _ h9 => h9) rfl dX12_next_263 ?_
          refine lv_iconst (v := 1) hx hb dX12_next_266 (by decide) ?_
          refine lv_iadd hx hb dX12_next_267 ?_
          refine lv_topi (fun x9 ex9 => ?_)
          have h := h x9 ex9
          refine va_put (D := D) (ci := 12) (v := .int x9) (ty := .int) (C := RX12) (T := TX12) (N := 51) hx hb hw inW_X12 tyX12 tyX12_ok nmX12 hown hK hP hD hS 0 rfl rfl 7 (by decide) (hw _ mw_6_50) (fun _ h9 => h9) rfl (by decide +kernel) rfl rfl (Nat.le_of_ble_eq_true rfl) dX12_next_268 (fun H locs hP hD hS => ?_)
          refine lv_goto (tgt := 208) hx hb dX12_next_271 (by decide) ?_
          have hP : va_P D vwCl (List.flatten (wM aM C (va_up (va_up ms 2 x9) 5 1000000) mw ma ml)) H := hP
          have hD : va_D A (List.flatten (wM aM C (va_up (va_up ms 2 x9) 5 1000000) mw ma ml)) := hD
          exact ih208 (va_up (va_up ms 2 x9) 5 1000000) _ _ _ h hP hD hS (lv_sub hl [0] rfl)
  have N102 : ∀  (n102 : Nat) (x1_ : Int32) (ms : Nat → Int32) (mw : Nat → Int64) (H : Heap) (locs : List Loc) (ls : Array Slot), P_X12_next_102 ma post   n102 x1_ ms mw → va_P D vwCl (List.flatten (wM aM C ms mw ma ml)) H → va_D A (List.flatten (wM aM C ms mw ma ml)) → va_S A s.heap H locs → lv_has ls 2 [(0, .ref (aM 0)), (1, .int x1_)] → W p l e rmX12_next s m args below meth c H locs 0 0 Q (F0 m 102 ls []) := by
    intro n102
    induction n102 with
    | zero => intro x1_ ms mw H locs ls h hP hD hS hl; exact False.elim h
    | succ n102 ih102 =>
      have N153 : ∀ (x1_ : Int32) (k0_ : Int64) (ms : Nat → Int32) (mw : Nat → Int64) (H : Heap) (locs : List Loc) (ls : Array Slot), P_X12_next_153 ma post (P_X12_next_102 ma post   n102) x1_ k0_ ms mw → va_P D vwCl (List.flatten (wM aM C ms mw ma ml)) H → va_D A (List.flatten (wM aM C ms mw ma ml)) → va_S A s.heap H locs → lv_has ls 2 [(0, .ref (aM 0)), (1, .int x1_)] → W p l e rmX12_next s m args below meth c H locs 0 0 Q (F0 m 153 ls [.long k0_, .ref (aM 0)]) := by
        intro x1_ k0_ ms mw H locs ls h hP hD hS hl
        refine va_put (D := D) (ci := 12) (v := .long k0_) (ty := .long) (C := RX12) (T := TX12) (N := 51) hx hb hw inW_X12 tyX12 tyX12_ok nmX12 hown hK hP hD hS 0 rfl rfl 11 (by decide) (hw _ mw_6_54) (fun _ h9 => h9) rfl (by decide +kernel) rfl rfl (Nat.le_of_ble_eq_true rfl) dX12_next_153 (fun H locs hP hD hS => ?_)
        refine lv_iload_n hx hb dX12_next_156 rfl (lv_at hl 1 rfl) ?_
        refine lv_bipush (v := 11) hx hb dX12_next_157 (by decide) ?_
        refine lv_icmp_le (tgt := 169) hx hb dX12_next_159 (by decide) (fun c1 => ?_) (fun c1 => ?_)
        · have h := h.1 c1
          refine lv_aload_n hx hb dX12_next_169 rfl (lv_at hl 0 rfl) ?_
          refine lv_dup hx hb dX12_next_170 rfl ?_
          refine va_get (D := D) (ci := 12) (v := .int (ms 2)) (C := RX12) (T := TX12) (N := 51) hx hb hw inW_X12 hown hK hP 0 rfl rfl 7 (by decide) (hw _ mw_6_50) (fun _ h9 => h9) rfl dX12_next_171 ?_
          refine lv_iconst (v := 1) hx hb dX12_next_174 (by decide) ?_
          refine lv_iadd hx hb dX12_next_175 ?_
          refine lv_topi (fun x2 ex2 => ?_)
          have h := h x2 ex2
          refine va_put (D := D) (ci := 12) (v := .int x2) (ty := .int) (C := RX12) (T := TX12) (N := 51) hx hb hw inW_X12 tyX12 tyX12_ok nmX12 hown hK hP hD hS 0 rfl rfl 7 (by decide) (hw _ mw_6_50) (fun _ h9 => h9) rfl (by decide +kernel) rfl rfl (Nat.le_of_ble_eq_true rfl) dX12_next_176 (fun H locs hP hD hS => ?_)
          refine lv_iinc (v := (x1_ + 1)) (lv' := [(1, .int (x1_ + 1)), (0, .ref (aM 0))]) hx hb dX12_next_179 hl (k := 1) rfl rfl (by decide) rfl (fun ls hl => ?_)
          refine lv_goto (tgt := 102) hx hb dX12_next_182 (by decide) ?_
          have hP : va_P D vwCl (List.flatten (wM aM C (va_up ms 2 x2) (va_up mw 0 k0_) ma ml)) H := hP
          have hD : va_D A (List.flatten (wM aM C (va_up ms 2 x2) (va_up mw 0 k0_) ma ml)) := hD
          exact ih102 (x1_ + 1) (va_up ms 2 x2) (va_up mw 0 k0_) _ _ _ h hP hD hS (lv_sub hl [1, 0] rfl)
        · have h := h.2 c1
          refine lv_aload_n hx hb dX12_next_162 rfl (lv_at hl 0 rfl) ?_
          refine lv_ldc2 (v := (-1)) hx hb hown (hw _ mw_7_15) dX12_next_163 ?_
          refine va_put (D := D) (ci := 12) (v := .long (-1)) (ty := .long) (C := RX12) (T := TX12) (N := 51) hx hb hw inW_X12 tyX12 tyX12_ok nmX12 hown hK hP hD hS 0 rfl rfl 11 (by decide) (hw _ mw_6_54) (fun _ h9 => h9) rfl (by decide +kernel) rfl rfl (Nat.le_of_ble_eq_true rfl) dX12_next_166 (fun H locs hP hD hS => ?_)
          refine lv_aload_n hx hb dX12_next_169 rfl (lv_at hl 0 rfl) ?_
          refine lv_dup hx hb dX12_next_170 rfl ?_
          refine va_get (D := D) (ci := 12) (v := .int (ms 2)) (C := RX12) (T := TX12) (N := 51) hx hb hw inW_X12 hown hK hP 0 rfl rfl 7 (by decide) (hw _ mw_6_50) (fun _ h9 => h9) rfl dX12_next_171 ?_
          refine lv_iconst (v := 1) hx hb dX12_next_174 (by decide) ?_
          refine lv_iadd hx hb dX12_next_175 ?_
          refine lv_topi (fun x3 ex3 => ?_)
          have h := h x3 ex3
          refine va_put (D := D) (ci := 12) (v := .int x3) (ty := .int) (C := RX12) (T := TX12) (N := 51) hx hb hw inW_X12 tyX12 tyX12_ok nmX12 hown hK hP hD hS 0 rfl rfl 7 (by decide) (hw _ mw_6_50) (fun _ h9 => h9) rfl (by decide +kernel) rfl rfl (Nat.le_of_ble_eq_true rfl) dX12_next_176 (fun H locs hP hD hS => ?_)
          refine lv_iinc (v := (x1_ + 1)) (lv' := [(1, .int (x1_ + 1)), (0, .ref (aM 0))]) hx hb dX12_next_179 hl (k := 1) rfl rfl (by decide) rfl (fun ls hl => ?_)
          refine lv_goto (tgt := 102) hx hb dX12_next_182 (by decide) ?_
          have hP : va_P D vwCl (List.flatten (wM aM C (va_up ms 2 x3) (va_up mw 0 (-1)) ma ml)) H := hP
          have hD : va_D A (List.flatten (wM aM C (va_up ms 2 x3) (va_up mw 0 (-1)) ma ml)) := hD
          exact ih102 (x1_ + 1) (va_up ms 2 x3) (va_up mw 0 (-1)) _ _ _ h hP hD hS (lv_sub hl [1, 0] rfl)
      intro x1_ ms mw H locs ls h hP hD hS hl
      have h : P_X12_next_102_b ma post   (P_X12_next_102 ma post   n102) x1_ ms mw := h
      unfold P_X12_next_102_b at h
      refine lv_aload_n hx hb dX12_next_102 rfl (lv_at hl 0 rfl) ?_
      refine lv_aload_n hx hb dX12_next_103 rfl (lv_at hl 0 rfl) ?_
      refine va_get (D := D) (ci := 12) (v := .int (ms 2)) (C := RX12) (T := TX12) (N := 51) hx hb hw inW_X12 hown hK hP 0 rfl rfl 7 (by decide) (hw _ mw_6_50) (fun _ h9 => h9) rfl dX12_next_104 ?_
      refine lv_bipush (v := 97) hx hb dX12_next_107 (by decide) ?_
      refine lv_bipush (v := 122) hx hb dX12_next_109 (by decide) ?_
      refine cGoAI (cRunAV (As := [.int (ms 2), .int 97, .int 122]) (rest := []) ⟨hx, hb, hml, hown, hw⟩ hK hN hP hD (k_X12_isByte l D C _ aM  ms mw ma ml (ms 2) 97 122 h) (cwV 3 hw (goodV mw_7_11 mw_7_13 mw_s112 mw_1_13 mw_7_14) rfl rfl rfl (by decide +kernel) ⟨Nat.le_of_ble_eq_true rfl, Nat.le_of_ble_eq_true rfl⟩) rfl rfl rfl hl.1 rfl (Nat.le_of_ble_eq_true rfl) dX12_next_111 ⟨Nat.zero_le _, Nat.zero_le _⟩) hP hD hS hA (fun r10 u H locs h hP hD hS => ?_)
      have hP : va_P D vwCl (List.flatten (wM aM C ms mw ma ml)) H := hP
      have hD : va_D A (List.flatten (wM aM C ms mw ma ml)) := hD
      refine lv_if_eq (tgt := 185) hx hb dX12_next_114 (by decide) (fun c11 => ?_) (fun c11 => ?_)
      · have h := h.1 c11
        refine lv_goto (tgt := 307) hx hb dX12_next_185 (by decide) ?_
        rw [← hQ]
        exact cRetV (ms, mw) hx hb hr hlocks hS hP hD h dX12_next_307
      · have h := h.2 c11
        refine lv_aload_n hx hb dX12_next_117 rfl (lv_at hl 0 rfl) ?_
        refine lv_iload_n hx hb dX12_next_118 rfl (lv_at hl 1 rfl) ?_
        refine lv_bipush (v := 11) hx hb dX12_next_119 (by decide) ?_
        refine lv_icmp_le (tgt := 130) hx hb dX12_next_121 (by decide) (fun c12 => ?_) (fun c12 => ?_)
        · have h := h.1 c12
          refine lv_ldc2 (v := 27) hx hb hown (hw _ mw_7_16) dX12_next_130 ?_
          refine lv_aload_n hx hb dX12_next_133 rfl (lv_at hl 0 rfl) ?_
          refine va_get (D := D) (ci := 12) (v := .long (mw 0)) (C := RX12) (T := TX12) (N := 51) hx hb hw inW_X12 hown hK hP 0 rfl rfl 11 (by decide) (hw _ mw_6_54) (fun _ h9 => h9) rfl dX12_next_134 ?_
          refine lv_lmul hx hb dX12_next_137 ?_
          refine lv_aload_n hx hb dX12_next_138 rfl (lv_at hl 0 rfl) ?_
          refine va_get (D := D) (ci := 12) (v := .ref (aM 5)) (C := RX12) (T := TX12) (N := 51) hx hb hw inW_X12 hown hK hP 0 rfl rfl 5 (by decide) (hw _ mw_6_48) (fun _ h9 => h9) rfl dX12_next_139 ?_
          refine lv_aload_n hx hb dX12_next_142 rfl (lv_at hl 0 rfl) ?_
          refine va_get (D := D) (ci := 12) (v := .int (ms 2)) (C := RX12) (T := TX12) (N := 51) hx hb hw inW_X12 hown hK hP 0 rfl rfl 7 (by decide) (hw _ mw_6_50) (fun _ h9 => h9) rfl dX12_next_143 ?_
          refine cBald hx hb hK hP 5 2 rfl rfl ((ms 2).toNatClampNeg) rfl h.1 dX12_next_146 ?_
          have h := h.2
          refine lv_i2l hx hb dX12_next_147 rfl ?_
          refine lv_ladd hx hb dX12_next_148 ?_
          refine lv_ldc2 (v := 96) hx hb hown (hw _ mw_7_17) dX12_next_149 ?_
          refine lv_lsub hx hb dX12_next_152 ?_
          exact N153 x1_ (((27 * (mw 0)) + (ma 2 ((ms 2).toNatClampNeg)).toInt64) - 96) ms mw _ _ _ h hP hD hS (lv_sub hl [0, 1] rfl)
        · have h := h.2 c12
          refine lv_ldc2 (v := (-1)) hx hb hown (hw _ mw_7_15) dX12_next_124 ?_
          refine lv_goto (tgt := 153) hx hb dX12_next_127 (by decide) ?_
          exact N153 x1_ (-1) ms mw _ _ _ h hP hD hS (lv_sub hl [0, 1] rfl)
  have N43 : ∀ (ms : Nat → Int32) (mw : Nat → Int64) (H : Heap) (locs : List Loc) (ls : Array Slot), P_X12_next_43 ma post  ms mw → va_P D vwCl (List.flatten (wM aM C ms mw ma ml)) H → va_D A (List.flatten (wM aM C ms mw ma ml)) → va_S A s.heap H locs → lv_has ls 2 [(0, .ref (aM 0))] → W p l e rmX12_next s m args below meth c H locs 0 0 Q (F0 m 43 ls []) := by
    intro ms mw H locs ls h hP hD hS hl
    refine lv_aload_n hx hb dX12_next_43 rfl (lv_at hl 0 rfl) ?_
    refine lv_aload_n hx hb dX12_next_44 rfl (lv_at hl 0 rfl) ?_
    refine va_get (D := D) (ci := 12) (v := .int (ms 2)) (C := RX12) (T := TX12) (N := 51) hx hb hw inW_X12 hown hK hP 0 rfl rfl 7 (by decide) (hw _ mw_6_50) (fun _ h9 => h9) rfl dX12_next_45 ?_
    refine lv_topi (fun x13 ex13 => ?_)
    have h := h x13 ex13
    refine va_put (D := D) (ci := 12) (v := .int x13) (ty := .int) (C := RX12) (T := TX12) (N := 51) hx hb hw inW_X12 tyX12 tyX12_ok nmX12 hown hK hP hD hS 0 rfl rfl 9 (by decide) (hw _ mw_6_52) (fun _ h9 => h9) rfl (by decide +kernel) rfl rfl (Nat.le_of_ble_eq_true rfl) dX12_next_48 (fun H locs hP hD hS => ?_)
    refine lv_aload_n hx hb dX12_next_51 rfl (lv_at hl 0 rfl) ?_
    refine lv_iconst (v := 0) hx hb dX12_next_52 (by decide) ?_
    refine va_put (D := D) (ci := 12) (v := .int 0) (ty := .int) (C := RX12) (T := TX12) (N := 51) hx hb hw inW_X12 tyX12 tyX12_ok nmX12 hown hK hP hD hS 0 rfl rfl 10 (by decide) (hw _ mw_6_53) (fun _ h9 => h9) rfl (by decide +kernel) rfl rfl (Nat.le_of_ble_eq_true rfl) dX12_next_53 (fun H locs hP hD hS => ?_)
    refine lv_aload_n hx hb dX12_next_56 rfl (lv_at hl 0 rfl) ?_
    refine lv_lconst (v := 0) hx hb dX12_next_57 (by decide) ?_
    refine va_put (D := D) (ci := 12) (v := .long 0) (ty := .long) (C := RX12) (T := TX12) (N := 51) hx hb hw inW_X12 tyX12 tyX12_ok nmX12 hown hK hP hD hS 0 rfl rfl 11 (by decide) (hw _ mw_6_54) (fun _ h9 => h9) rfl (by decide +kernel) rfl rfl (Nat.le_of_ble_eq_true rfl) dX12_next_58 (fun H locs hP hD hS => ?_)
    refine lv_aload_n hx hb dX12_next_61 rfl (lv_at hl 0 rfl) ?_
    refine va_get (D := D) (ci := 12) (v := .int (ms 2)) (C := RX12) (T := TX12) (N := 51) hx hb hw inW_X12 hown hK hP 0 rfl rfl 7 (by decide) (hw _ mw_6_50) (fun _ h9 => h9) rfl dX12_next_62 ?_
    refine lv_aload_n hx hb dX12_next_65 rfl (lv_at hl 0 rfl) ?_
    refine va_get (D := D) (ci := 12) (v := .int (ms 1)) (C := RX12) (T := TX12) (N := 51) hx hb hw inW_X12 hown hK hP 0 rfl rfl 6 (by decide) (hw _ mw_6_49) (fun _ h9 => h9) rfl dX12_next_66 ?_
    refine lv_icmp_ne (tgt := 80) hx hb dX12_next_69 (by decide) (fun c14 => ?_) (fun c14 => ?_)
    · have h := h.1 c14
      refine lv_aload_n hx hb dX12_next_80 rfl (lv_at hl 0 rfl) ?_
      refine lv_aload_n hx hb dX12_next_81 rfl (lv_at hl 0 rfl) ?_
      refine va_get (D := D) (ci := 12) (v := .int (ms 2)) (C := RX12) (T := TX12) (N := 51) hx hb hw inW_X12 hown hK hP 0 rfl rfl 7 (by decide) (hw _ mw_6_50) (fun _ h9 => h9) rfl dX12_next_82 ?_
      refine lv_bipush (v := 97) hx hb dX12_next_85 (by decide) ?_
      refine lv_bipush (v := 122) hx hb dX12_next_87 (by decide) ?_
      have hP : va_P D vwCl (List.flatten (wM aM C (va_up (va_up ms 4 x13) 5 0) (va_up mw 0 0) ma ml)) H := hP
      have hD : va_D A (List.flatten (wM aM C (va_up (va_up ms 4 x13) 5 0) (va_up mw 0 0) ma ml)) := hD
      refine cGoAI (cRunAV (As := [.int (ms 2), .int 97, .int 122]) (rest := []) ⟨hx, hb, hml, hown, hw⟩ hK hN hP hD (k_X12_isByte l D C _ aM  (va_up (va_up ms 4 x13) 5 0) (va_up mw 0 0) ma ml (ms 2) 97 122 h) (cwV 3 hw (goodV mw_7_11 mw_7_13 mw_s112 mw_1_13 mw_7_14) rfl rfl rfl (by decide +kernel) ⟨Nat.le_of_ble_eq_true rfl, Nat.le_of_ble_eq_true rfl⟩) rfl rfl rfl hl.1 rfl (Nat.le_of_ble_eq_true rfl) dX12_next_89 ⟨Nat.zero_le _, Nat.zero_le _⟩) hP hD hS hA (fun r15 u H locs h hP hD hS => ?_)
      have hP : va_P D vwCl (List.flatten (wM aM C (va_up (va_up ms 4 x13) 5 0) (va_up mw 0 0) ma ml)) H := hP
      have hD : va_D A (List.flatten (wM aM C (va_up (va_up ms 4 x13) 5 0) (va_up mw 0 0) ma ml)) := hD
      refine lv_if_eq (tgt := 188) hx hb dX12_next_92 (by decide) (fun c16 => ?_) (fun c16 => ?_)
      · have h := h.1 c16
        refine lv_aload_n hx hb dX12_next_188 rfl (lv_at hl 0 rfl) ?_
        refine lv_aload_n hx hb dX12_next_189 rfl (lv_at hl 0 rfl) ?_
        refine va_get (D := D) (ci := 12) (v := .int (ms 2)) (C := RX12) (T := TX12) (N := 51) hx hb hw inW_X12 hown hK hP 0 rfl rfl 7 (by decide) (hw _ mw_6_50) (fun _ h9 => h9) rfl dX12_next_190 ?_
        refine lv_bipush (v := 48) hx hb dX12_next_193 (by decide) ?_
        refine lv_bipush (v := 57) hx hb dX12_next_195 (by decide) ?_
        refine cGoAI (cRunAV (As := [.int (ms 2), .int 48, .int 57]) (rest := []) ⟨hx, hb, hml, hown, hw⟩ hK hN hP hD (k_X12_isByte l D C _ aM  (va_up (va_up ms 4 x13) 5 0) (va_up mw 0 0) ma ml (ms 2) 48 57 h) (cwV 3 hw (goodV mw_7_11 mw_7_13 mw_s112 mw_1_13 mw_7_14) rfl rfl rfl (by decide +kernel) ⟨Nat.le_of_ble_eq_true rfl, Nat.le_of_ble_eq_true rfl⟩) rfl rfl rfl hl.1 rfl (Nat.le_of_ble_eq_true rfl) dX12_next_197 ⟨Nat.zero_le _, Nat.zero_le _⟩) hP hD hS hA (fun r17 u H locs h hP hD hS => ?_)
        have hP : va_P D vwCl (List.flatten (wM aM C (va_up (va_up ms 4 x13) 5 0) (va_up mw 0 0) ma ml)) H := hP
        have hD : va_D A (List.flatten (wM aM C (va_up (va_up ms 4 x13) 5 0) (va_up mw 0 0) ma ml)) := hD
        refine lv_if_eq (tgt := 274) hx hb dX12_next_200 (by decide) (fun c18 => ?_) (fun c18 => ?_)
        · have h := h.1 c18
          refine lv_aload_n hx hb dX12_next_274 rfl (lv_at hl 0 rfl) ?_
          refine lv_aload_n hx hb dX12_next_275 rfl (lv_at hl 0 rfl) ?_
          refine va_get (D := D) (ci := 12) (v := .ref (aM 5)) (C := RX12) (T := TX12) (N := 51) hx hb hw inW_X12 hown hK hP 0 rfl rfl 5 (by decide) (hw _ mw_6_48) (fun _ h9 => h9) rfl dX12_next_276 ?_
          refine lv_aload_n hx hb dX12_next_279 rfl (lv_at hl 0 rfl) ?_
          refine va_get (D := D) (ci := 12) (v := .int (ms 2)) (C := RX12) (T := TX12) (N := 51) hx hb hw inW_X12 hown hK hP 0 rfl rfl 7 (by decide) (hw _ mw_6_50) (fun _ h9 => h9) rfl dX12_next_280 ?_
          refine cBald hx hb hK hP 5 2 rfl rfl ((ms 2).toNatClampNeg) rfl h.1 dX12_next_283 ?_
          have h := h.2
          refine lv_bipush (v := 59) hx hb dX12_next_284 (by decide) ?_
          refine lv_icmp_ne (tgt := 293) hx hb dX12_next_286 (by decide) (fun c19 => ?_) (fun c19 => ?_)
          · have h := h.1 c19
            refine lv_iconst (v := 4) hx hb dX12_next_293 (by decide) ?_
            refine va_put (D := D) (ci := 12) (v := .int 4) (ty := .int) (C := RX12) (T := TX12) (N := 51) hx hb hw inW_X12 tyX12 tyX12_ok nmX12 hown hK hP hD hS 0 rfl rfl 8 (by decide) (hw _ mw_6_51) (fun _ h9 => h9) rfl (by decide +kernel) rfl rfl (Nat.le_of_ble_eq_true rfl) dX12_next_294 (fun H locs hP hD hS => ?_)
            refine lv_aload_n hx hb dX12_next_297 rfl (lv_at hl 0 rfl) ?_
            refine lv_dup hx hb dX12_next_298 rfl ?_
            refine va_get (D := D) (ci := 12) (v := .int (ms 2)) (C := RX12) (T := TX12) (N := 51) hx hb hw inW_X12 hown hK hP 0 rfl rfl 7 (by decide) (hw _ mw_6_50) (fun _ h9 => h9) rfl dX12_next_299 ?_
            refine lv_iconst (v := 1) hx hb dX12_next_302 (by decide) ?_
            refine lv_iadd hx hb dX12_next_303 ?_
            refine lv_topi (fun x20 ex20 => ?_)
            have h := h x20 ex20
            refine va_put (D := D) (ci := 12) (v := .int x20) (ty := .int) (C := RX12) (T := TX12) (N := 51) hx hb hw inW_X12 tyX12 tyX12_ok nmX12 hown hK hP hD hS 0 rfl rfl 7 (by decide) (hw _ mw_6_50) (fun _ h9 => h9) rfl (by decide +kernel) rfl rfl (Nat.le_of_ble_eq_true rfl) dX12_next_304 (fun H locs hP hD hS => ?_)
            have hP : va_P D vwCl (List.flatten (wM aM C (va_up (va_up (va_up (va_up ms 2 x20) 3 4) 4 x13) 5 0) (va_up mw 0 0) ma ml)) H := hP
            have hD : va_D A (List.flatten (wM aM C (va_up (va_up (va_up (va_up ms 2 x20) 3 4) 4 x13) 5 0) (va_up mw 0 0) ma ml)) := hD
            rw [← hQ]
            exact cRetV ((va_up (va_up (va_up (va_up ms 2 x20) 3 4) 4 x13) 5 0), (va_up mw 0 0)) hx hb hr hlocks hS hP hD h dX12_next_307
          · have h := h.2 c19
            refine lv_iconst (v := 3) hx hb dX12_next_289 (by decide) ?_
            refine lv_goto (tgt := 294) hx hb dX12_next_290 (by decide) ?_
            refine va_put (D := D) (ci := 12) (v := .int 3) (ty := .int) (C := RX12) (T := TX12) (N := 51) hx hb hw inW_X12 tyX12 tyX12_ok nmX12 hown hK hP hD hS 0 rfl rfl 8 (by decide) (hw _ mw_6_51) (fun _ h9 => h9) rfl (by decide +kernel) rfl rfl (Nat.le_of_ble_eq_true rfl) dX12_next_294 (fun H locs hP hD hS => ?_)
            refine lv_aload_n hx hb dX12_next_297 rfl (lv_at hl 0 rfl) ?_
            refine lv_dup hx hb dX12_next_298 rfl ?_
            refine va_get (D := D) (ci := 12) (v := .int (ms 2)) (C := RX12) (T := TX12) (N := 51) hx hb hw inW_X12 hown hK hP 0 rfl rfl 7 (by decide) (hw _ mw_6_50) (fun _ h9 => h9) rfl dX12_next_299 ?_
            refine lv_iconst (v := 1) hx hb dX12_next_302 (by decide) ?_
            refine lv_iadd hx hb dX12_next_303 ?_
            refine lv_topi (fun x21 ex21 => ?_)
            have h := h x21 ex21
            refine va_put (D := D) (ci := 12) (v := .int x21) (ty := .int) (C := RX12) (T := TX12) (N := 51) hx hb hw inW_X12 tyX12 tyX12_ok nmX12 hown hK hP hD hS 0 rfl rfl 7 (by decide) (hw _ mw_6_50) (fun _ h9 => h9) rfl (by decide +kernel) rfl rfl (Nat.le_of_ble_eq_true rfl) dX12_next_304 (fun H locs hP hD hS => ?_)
            have hP : va_P D vwCl (List.flatten (wM aM C (va_up (va_up (va_up (va_up ms 2 x21) 3 3) 4 x13) 5 0) (va_up mw 0 0) ma ml)) H := hP
            have hD : va_D A (List.flatten (wM aM C (va_up (va_up (va_up (va_up ms 2 x21) 3 3) 4 x13) 5 0) (va_up mw 0 0) ma ml)) := hD
            rw [← hQ]
            exact cRetV ((va_up (va_up (va_up (va_up ms 2 x21) 3 3) 4 x13) 5 0), (va_up mw 0 0)) hx hb hr hlocks hS hP hD h dX12_next_307
        · have h := h.2 c18
          refine lv_aload_n hx hb dX12_next_203 rfl (lv_at hl 0 rfl) ?_
          refine lv_iconst (v := 2) hx hb dX12_next_204 (by decide) ?_
          refine va_put (D := D) (ci := 12) (v := .int 2) (ty := .int) (C := RX12) (T := TX12) (N := 51) hx hb hw inW_X12 tyX12 tyX12_ok nmX12 hown hK hP hD hS 0 rfl rfl 8 (by decide) (hw _ mw_6_51) (fun _ h9 => h9) rfl (by decide +kernel) rfl rfl (Nat.le_of_ble_eq_true rfl) dX12_next_205 (fun H locs hP hD hS => ?_)
          have hP : va_P D vwCl (List.flatten (wM aM C (va_up (va_up (va_up ms 3 2) 4 x13) 5 0) (va_up mw 0 0) ma ml)) H := hP
          have hD : va_D A (List.flatten (wM aM C (va_up (va_up (va_up ms 3 2) 4 x13) 5 0) (va_up mw 0 0) ma ml)) := hD
          obtain ⟨n, h⟩ := h
          exact N208 (va_up mw 0 0) n (va_up (va_up (va_up ms 3 2) 4 x13) 5 0) _ _ _ h hP hD hS (lv_sub hl [0] rfl)
      · have h := h.2 c16
        refine lv_aload_n hx hb dX12_next_95 rfl (lv_at hl 0 rfl) ?_
        refine lv_iconst (v := 1) hx hb dX12_next_96 (by decide) ?_
        refine va_put (D := D) (ci := 12) (v := .int 1) (ty := .int) (C := RX12) (T := TX12) (N := 51) hx hb hw inW_X12 tyX12 tyX12_ok nmX12 hown hK hP hD hS 0 rfl rfl 8 (by decide) (hw _ mw_6_51) (fun _ h9 => h9) rfl (by decide +kernel) rfl rfl (Nat.le_of_ble_eq_true rfl) dX12_next_97 (fun H locs hP hD hS => ?_)
        refine lv_iconst (v := 0) hx hb dX12_next_100 (by decide) ?_
        refine lv_istore_n (lv' := [(1, .int 0), (0, .ref (aM 0))]) hx hb dX12_next_101 rfl hl (by decide) rfl (fun ls hl => ?_)
        have hP : va_P D vwCl (List.flatten (wM aM C (va_up (va_up (va_up ms 3 1) 4 x13) 5 0) (va_up mw 0 0) ma ml)) H := hP
        have hD : va_D A (List.flatten (wM aM C (va_up (va_up (va_up ms 3 1) 4 x13) 5 0) (va_up mw 0 0) ma ml)) := hD
        obtain ⟨n, h⟩ := h
        exact N102  n 0 (va_up (va_up (va_up ms 3 1) 4 x13) 5 0) (va_up mw 0 0) _ _ _ h hP hD hS (lv_sub hl [1, 0] rfl)
    · have h := h.2 c14
      refine lv_aload_n hx hb dX12_next_72 rfl (lv_at hl 0 rfl) ?_
      refine lv_iconst (v := 0) hx hb dX12_next_73 (by decide) ?_
      refine va_put (D := D) (ci := 12) (v := .int 0) (ty := .int) (C := RX12) (T := TX12) (N := 51) hx hb hw inW_X12 tyX12 tyX12_ok nmX12 hown hK hP hD hS 0 rfl rfl 8 (by decide) (hw _ mw_6_51) (fun _ h9 => h9) rfl (by decide +kernel) rfl rfl (Nat.le_of_ble_eq_true rfl) dX12_next_74 (fun H locs hP hD hS => ?_)
      refine lv_goto (tgt := 307) hx hb dX12_next_77 (by decide) ?_
      have hP : va_P D vwCl (List.flatten (wM aM C (va_up (va_up (va_up ms 3 0) 4 x13) 5 0) (va_up mw 0 0) ma ml)) H := hP
      have hD : va_D A (List.flatten (wM aM C (va_up (va_up (va_up ms 3 0) 4 x13) 5 0) (va_up mw 0 0) ma ml)) := hD
      rw [← hQ]
      exact cRetV ((va_up (va_up (va_up ms 3 0) 4 x13) 5 0), (va_up mw 0 0)) hx hb hr hlocks hS hP hD h dX12_next_307
  have N0 : ∀ (mw : Nat → Int64) (n0 : Nat) (ms : Nat → Int32) (H : Heap) (locs : List Loc) (ls : Array Slot), P_X12_next_0 ma post (fun (ms : Nat → Int32) (mw : Nat → Int64) => P_X12_next_43 ma post  ms mw) mw n0 ms → va_P D vwCl (List.flatten (wM aM C ms mw ma ml)) H → va_D A (List.flatten (wM aM C ms mw ma ml)) → va_S A s.heap H locs → lv_has ls 2 [(0, .ref (aM 0))] → W p l e rmX12_next s m args below meth c H locs 0 0 Q (F0 m 0 ls []) := by
    intro mw
    intro n0
    induction n0 with
    | zero => intro ms H locs ls h hP hD hS hl; exact False.elim h
    | succ n0 ih0 =>
      intro ms H locs ls h hP hD hS hl
      have h : P_X12_next_0_b ma post (fun (ms : Nat → Int32) (mw : Nat → Int64) => P_X12_next_43 ma post  ms mw) mw (P_X12_next_0 ma post (fun (ms : Nat → Int32) (mw : Nat → Int64) => P_X12_next_43 ma post  ms mw) mw n0) ms := h
      unfold P_X12_next_0_b at h
      refine lv_aload_n hx hb dX12_next_0 rfl (lv_at hl 0 rfl) ?_
      refine lv_aload_n hx hb dX12_next_1 rfl (lv_at hl 0 rfl) ?_
      refine va_get (D := D) (ci := 12) (v := .int (ms 2)) (C := RX12) (T := TX12) (N := 51) hx hb hw inW_X12 hown hK hP 0 rfl rfl 7 (by decide) (hw _ mw_6_50) (fun _ h9 => h9) rfl dX12_next_2 ?_
      refine lv_bipush (v := 32) hx hb dX12_next_5 (by decide) ?_
      refine lv_bipush (v := 32) hx hb dX12_next_7 (by decide) ?_
      refine cGoAI (cRunAV (As := [.int (ms 2), .int 32, .int 32]) (rest := []) ⟨hx, hb, hml, hown, hw⟩ hK hN hP hD (k_X12_isByte l D C _ aM  ms mw ma ml (ms 2) 32 32 h) (cwV 3 hw (goodV mw_7_11 mw_7_13 mw_s112 mw_1_13 mw_7_14) rfl rfl rfl (by decide +kernel) ⟨Nat.le_of_ble_eq_true rfl, Nat.le_of_ble_eq_true rfl⟩) rfl rfl rfl hl.1 rfl (Nat.le_of_ble_eq_true rfl) dX12_next_9 ⟨Nat.zero_le _, Nat.zero_le _⟩) hP hD hS hA (fun r22 u H locs h hP hD hS => ?_)
      have hP : va_P D vwCl (List.flatten (wM aM C ms mw ma ml)) H := hP
      have hD : va_D A (List.flatten (wM aM C ms mw ma ml)) := hD
      refine lv_if_ne (tgt := 30) hx hb dX12_next_12 (by decide) (fun c23 => ?_) (fun c23 => ?_)
      · have h := h.1 c23
        refine lv_aload_n hx hb dX12_next_30 rfl (lv_at hl 0 rfl) ?_
        refine lv_dup hx hb dX12_next_31 rfl ?_
        refine va_get (D := D) (ci := 12) (v := .int (ms 2)) (C := RX12) (T := TX12) (N := 51) hx hb hw inW_X12 hown hK hP 0 rfl rfl 7 (by decide) (hw _ mw_6_50) (fun _ h9 => h9) rfl dX12_next_32 ?_
        refine lv_iconst (v := 1) hx hb dX12_next_35 (by decide) ?_
        refine lv_iadd hx hb dX12_next_36 ?_
        refine lv_topi (fun x24 ex24 => ?_)
        have h := h x24 ex24
        refine va_put (D := D) (ci := 12) (v := .int x24) (ty := .int) (C := RX12) (T := TX12) (N := 51) hx hb hw inW_X12 tyX12 tyX12_ok nmX12 hown hK hP hD hS 0 rfl rfl 7 (by decide) (hw _ mw_6_50) (fun _ h9 => h9) rfl (by decide +kernel) rfl rfl (Nat.le_of_ble_eq_true rfl) dX12_next_37 (fun H locs hP hD hS => ?_)
        refine lv_goto (tgt := 0) hx hb dX12_next_40 (by decide) ?_
        have hP : va_P D vwCl (List.flatten (wM aM C (va_up ms 2 x24) mw ma ml)) H := hP
        have hD : va_D A (List.flatten (wM aM C (va_up ms 2 x24) mw ma ml)) := hD
        exact ih0 (va_up ms 2 x24) _ _ _ h hP hD hS (lv_sub hl [0] rfl)
      · have h := h.2 c23
        refine lv_aload_n hx hb dX12_next_15 rfl (lv_at hl 0 rfl) ?_
        refine lv_aload_n hx hb dX12_next_16 rfl (lv_at hl 0 rfl) ?_
        refine va_get (D := D) (ci := 12) (v := .int (ms 2)) (C := RX12) (T := TX12) (N := 51) hx hb hw inW_X12 hown hK hP 0 rfl rfl 7 (by decide) (hw _ mw_6_50) (fun _ h9 => h9) rfl dX12_next_17 ?_
        refine lv_bipush (v := 10) hx hb dX12_next_20 (by decide) ?_
        refine lv_bipush (v := 10) hx hb dX12_next_22 (by decide) ?_
        refine cGoAI (cRunAV (As := [.int (ms 2), .int 10, .int 10]) (rest := []) ⟨hx, hb, hml, hown, hw⟩ hK hN hP hD (k_X12_isByte l D C _ aM  ms mw ma ml (ms 2) 10 10 h) (cwV 3 hw (goodV mw_7_11 mw_7_13 mw_s112 mw_1_13 mw_7_14) rfl rfl rfl (by decide +kernel) ⟨Nat.le_of_ble_eq_true rfl, Nat.le_of_ble_eq_true rfl⟩) rfl rfl rfl hl.1 rfl (Nat.le_of_ble_eq_true rfl) dX12_next_24 ⟨Nat.zero_le _, Nat.zero_le _⟩) hP hD hS hA (fun r25 u H locs h hP hD hS => ?_)
        have hP : va_P D vwCl (List.flatten (wM aM C ms mw ma ml)) H := hP
        have hD : va_D A (List.flatten (wM aM C ms mw ma ml)) := hD
        refine lv_if_eq (tgt := 43) hx hb dX12_next_27 (by decide) (fun c26 => ?_) (fun c26 => ?_)
        · have h := h.1 c26
          exact N43 ms mw _ _ _ h hP hD hS (lv_sub hl [0] rfl)
        · have h := h.2 c26
          refine lv_aload_n hx hb dX12_next_30 rfl (lv_at hl 0 rfl) ?_
          refine lv_dup hx hb dX12_next_31 rfl ?_
          refine va_get (D := D) (ci := 12) (v := .int (ms 2)) (C := RX12) (T := TX12) (N := 51) hx hb hw inW_X12 hown hK hP 0 rfl rfl 7 (by decide) (hw _ mw_6_50) (fun _ h9 => h9) rfl dX12_next_32 ?_
          refine lv_iconst (v := 1) hx hb dX12_next_35 (by decide) ?_
          refine lv_iadd hx hb dX12_next_36 ?_
          refine lv_topi (fun x27 ex27 => ?_)
          have h := h x27 ex27
          refine va_put (D := D) (ci := 12) (v := .int x27) (ty := .int) (C := RX12) (T := TX12) (N := 51) hx hb hw inW_X12 tyX12 tyX12_ok nmX12 hown hK hP hD hS 0 rfl rfl 7 (by decide) (hw _ mw_6_50) (fun _ h9 => h9) rfl (by decide +kernel) rfl rfl (Nat.le_of_ble_eq_true rfl) dX12_next_37 (fun H locs hP hD hS => ?_)
          refine lv_goto (tgt := 0) hx hb dX12_next_40 (by decide) ?_
          have hP : va_P D vwCl (List.flatten (wM aM C (va_up ms 2 x27) mw ma ml)) H := hP
          have hD : va_D A (List.flatten (wM aM C (va_up ms 2 x27) mw ma ml)) := hD
          exact ih0 (va_up ms 2 x27) _ _ _ h hP hD hS (lv_sub hl [0] rfl)
  obtain ⟨n, h⟩ := h
  exact N0 mw n ms _ _ _ h hP hD hS (lv_sub hl [0] rfl)
abbrev vsX12_isGood : List Cond := Cond.code yX12_isGood cX12_isGood 1 (some .boolean) :: WS
abbrev rmX12_isGood : Room := { frames := 0, cells := 0, slots := 0, locals := 0 }
set_option maxHeartbeats 4000000 in
set_option maxRecDepth 100000 in
theorem k_X12_isGood (l : Launch) (D : va_G) (C : Nat → ClassId) (sz : Nat) (aM : Nat → Nat)  (ms : Nat → Int32) (mw : Nat → Int64) (ma : Nat → Nat → Int32) (ml : Nat → Nat → Int64)  {post : Int32 → Prop} (h : P_X12_isGood ms post) : Met l yX12_isGood vsX12_isGood rmX12_isGood (cPre D C [.ref (aM 0)] sz (wM aM C ms mw ma ml)) (cQi D (fun (r : Int32) (u : Unit) => post r ) (fun u => wM aM C ms mw ma ml) (va_A (List.flatten (wM aM C ms mw ma ml)) sz)) 0 0 (va_A (List.flatten (wM aM C ms mw ma ml)) sz) := by
  refine cStart (QA := fun A => cQi D (fun (r : Int32) (u : Unit) => post r ) (fun u => wM aM C ms mw ma ml) A) (cc := cX12_isGood) (maxL := 1) (ret := (some .boolean)) (by decide) (Nat.le_of_ble_eq_true rfl) ?_
  intro p e s m args below meth c A ls hx hb hr hml hown hw hlocks hname hK hN hA hP hD hS hl
  generalize hQ : MQ below _ args s 0 0 A = Q
  have hl : lv_has ls 1 [(0, .ref (aM 0))] := hl
  obtain ⟨H, hH⟩ : ∃ H, H = s.heap := ⟨_, rfl⟩
  obtain ⟨locs, hlo⟩ : ∃ z : List Loc, z = [] := ⟨_, rfl⟩
  have hP : va_P D vwCl (List.flatten (wM aM C ms mw ma ml)) H := by rw [hH]; exact hP
  have hS : va_S A s.heap H locs := by rw [hH, hlo]; exact hS
  rw [show W p l e rmX12_isGood s m args below meth c s.heap [] 0 0 Q (F0 m 0 ls []) = W p l e rmX12_isGood s m args below meth c H locs 0 0 Q (F0 m 0 ls []) from by rw [hH, hlo]]
  refine lv_aload_n hx hb dX12_isGood_0 rfl (lv_at hl 0 rfl) ?_
  refine va_get (D := D) (ci := 12) (v := .int (ms 6)) (C := RX12) (T := TX12) (N := 51) hx hb hw inW_X12 hown hK hP 0 rfl rfl 12 (by decide) (hw _ mw_6_55) (fun _ h9 => h9) rfl dX12_isGood_1 ?_
  refine lv_if_ne (tgt := 11) hx hb dX12_isGood_4 (by decide) (fun c1 => ?_) (fun c1 => ?_)
  · have h := h.1 c1
    refine lv_iconst (v := 0) hx hb dX12_isGood_11 (by decide) ?_
    rw [← hQ]
    exact cRetZ (v := 0) () hx hb hr hlocks hS hP hD (Or.inl rfl) h dX12_isGood_12
  · have h := h.2 c1
    refine lv_iconst (v := 1) hx hb dX12_isGood_7 (by decide) ?_
    refine lv_goto (tgt := 12) hx hb dX12_isGood_8 (by decide) ?_
    rw [← hQ]
    exact cRetZ (v := 1) () hx hb hr hlocks hS hP hD (Or.inr rfl) h dX12_isGood_12
abbrev vsX12_fails : List Cond := Cond.code yX12_fails cX12_fails 2 none :: WS
abbrev rmX12_fails : Room := { frames := 0, cells := 0, slots := 0, locals := 0 }
set_option maxHeartbeats 4000000 in
set_option maxRecDepth 100000 in
theorem k_X12_fails (l : Launch) (D : va_G) (C : Nat → ClassId) (sz : Nat) (aM : Nat → Nat)  (ms : Nat → Int32) (mw : Nat → Int64) (ma : Nat → Nat → Int32) (ml : Nat → Nat → Int64) (p1 : Int32) {post : (Nat → Int32) → Prop} (h : P_X12_fails ms p1 post) : Met l yX12_fails vsX12_fails rmX12_fails (cPre D C [.ref (aM 0), .int p1] sz (wM aM C ms mw ma ml)) (cQv D (fun (u : (Nat → Int32)) => post u) (fun u => wM aM C u mw ma ml) (va_A (List.flatten (wM aM C ms mw ma ml)) sz)) 0 0 (va_A (List.flatten (wM aM C ms mw ma ml)) sz) := by
  refine cStart (QA := fun A => cQv D (fun (u : (Nat → Int32)) => post u) (fun u => wM aM C u mw ma ml) A) (cc := cX12_fails) (maxL := 2) (ret := none) (by decide) (Nat.le_of_ble_eq_true rfl) ?_
  intro p e s m args below meth c A ls hx hb hr hml hown hw hlocks hname hK hN hA hP hD hS hl
  generalize hQ : MQ below _ args s 0 0 A = Q
  have hl : lv_has ls 2 [(0, .ref (aM 0)), (1, .int p1)] := hl
  obtain ⟨H, hH⟩ : ∃ H, H = s.heap := ⟨_, rfl⟩
  obtain ⟨locs, hlo⟩ : ∃ z : List Loc, z = [] := ⟨_, rfl⟩
  have hP : va_P D vwCl (List.flatten (wM aM C ms mw ma ml)) H := by rw [hH]; exact hP
  have hS : va_S A s.heap H locs := by rw [hH, hlo]; exact hS
  rw [show W p l e rmX12_fails s m args below meth c s.heap [] 0 0 Q (F0 m 0 ls []) = W p l e rmX12_fails s m args below meth c H locs 0 0 Q (F0 m 0 ls []) from by rw [hH, hlo]]
  refine lv_aload_n hx hb dX12_fails_0 rfl (lv_at hl 0 rfl) ?_
  refine va_get (D := D) (ci := 12) (v := .int (ms 6)) (C := RX12) (T := TX12) (N := 51) hx hb hw inW_X12 hown hK hP 0 rfl rfl 12 (by decide) (hw _ mw_6_55) (fun _ h9 => h9) rfl dX12_fails_1 ?_
  refine lv_if_eq (tgt := 8) hx hb dX12_fails_4 (by decide) (fun c1 => ?_) (fun c1 => ?_)
  · have h := h.1 c1
    refine lv_aload_n hx hb dX12_fails_8 rfl (lv_at hl 0 rfl) ?_
    refine lv_iload_n hx hb dX12_fails_9 rfl (lv_at hl 1 rfl) ?_
    refine va_put (D := D) (ci := 12) (v := .int p1) (ty := .int) (C := RX12) (T := TX12) (N := 51) hx hb hw inW_X12 tyX12 tyX12_ok nmX12 hown hK hP hD hS 0 rfl rfl 12 (by decide) (hw _ mw_6_55) (fun _ h9 => h9) rfl (by decide +kernel) rfl rfl (Nat.le_of_ble_eq_true rfl) dX12_fails_10 (fun H locs hP hD hS => ?_)
    refine lv_aload_n hx hb dX12_fails_13 rfl (lv_at hl 0 rfl) ?_
    refine lv_aload_n hx hb dX12_fails_14 rfl (lv_at hl 0 rfl) ?_
    refine va_get (D := D) (ci := 12) (v := .int (ms 4)) (C := RX12) (T := TX12) (N := 51) hx hb hw inW_X12 hown hK hP 0 rfl rfl 9 (by decide) (hw _ mw_6_52) (fun _ h9 => h9) rfl dX12_fails_15 ?_
    refine lv_topi (fun x2 ex2 => ?_)
    have h := h x2 ex2
    refine va_put (D := D) (ci := 12) (v := .int x2) (ty := .int) (C := RX12) (T := TX12) (N := 51) hx hb hw inW_X12 tyX12 tyX12_ok nmX12 hown hK hP hD hS 0 rfl rfl 13 (by decide) (hw _ mw_6_56) (fun _ h9 => h9) rfl (by decide +kernel) rfl rfl (Nat.le_of_ble_eq_true rfl) dX12_fails_18 (fun H locs hP hD hS => ?_)
    have hP : va_P D vwCl (List.flatten (wM aM C (va_up (va_up ms 6 p1) 7 x2) mw ma ml)) H := hP
    have hD : va_D A (List.flatten (wM aM C (va_up (va_up ms 6 p1) 7 x2) mw ma ml)) := hD
    rw [← hQ]
    exact cRetV ((va_up (va_up ms 6 p1) 7 x2)) hx hb hr hlocks hS hP hD h dX12_fails_21
  · have h := h.2 c1
    rw [← hQ]
    exact cRetV (ms) hx hb hr hlocks hS hP hD h dX12_fails_7
abbrev vsX12_is : List Cond := Cond.code yX12_is cX12_is 3 (some .boolean) :: WS
abbrev rmX12_is : Room := { frames := 0, cells := 0, slots := 0, locals := 0 }
set_option maxHeartbeats 4000000 in
set_option maxRecDepth 100000 in
theorem k_X12_is (l : Launch) (D : va_G) (C : Nat → ClassId) (sz : Nat) (aM : Nat → Nat)  (ms : Nat → Int32) (mw : Nat → Int64) (ma : Nat → Nat → Int32) (ml : Nat → Nat → Int64) (p1 : Int64) {post : Int32 → Prop} (h : P_X12_is ms mw p1 post) : Met l yX12_is vsX12_is rmX12_is (cPre D C [.ref (aM 0), .long p1] sz (wM aM C ms mw ma ml)) (cQi D (fun (r : Int32) (u : Unit) => post r ) (fun u => wM aM C ms mw ma ml) (va_A (List.flatten (wM aM C ms mw ma ml)) sz)) 0 0 (va_A (List.flatten (wM aM C ms mw ma ml)) sz) := by
  refine cStart (QA := fun A => cQi D (fun (r : Int32) (u : Unit) => post r ) (fun u => wM aM C ms mw ma ml) A) (cc := cX12_is) (maxL := 3) (ret := (some .boolean)) (by decide) (Nat.le_of_ble_eq_true rfl) ?_
  intro p e s m args below meth c A ls hx hb hr hml hown hw hlocks hname hK hN hA hP hD hS hl
  generalize hQ : MQ below _ args s 0 0 A = Q
  have hl : lv_has ls 3 [(0, .ref (aM 0)), (1, .long p1)] := hl
  obtain ⟨H, hH⟩ : ∃ H, H = s.heap := ⟨_, rfl⟩
  obtain ⟨locs, hlo⟩ : ∃ z : List Loc, z = [] := ⟨_, rfl⟩
  have hP : va_P D vwCl (List.flatten (wM aM C ms mw ma ml)) H := by rw [hH]; exact hP
  have hS : va_S A s.heap H locs := by rw [hH, hlo]; exact hS
  rw [show W p l e rmX12_is s m args below meth c s.heap [] 0 0 Q (F0 m 0 ls []) = W p l e rmX12_is s m args below meth c H locs 0 0 Q (F0 m 0 ls []) from by rw [hH, hlo]]
  refine lv_aload_n hx hb dX12_is_0 rfl (lv_at hl 0 rfl) ?_
  refine va_get (D := D) (ci := 12) (v := .int (ms 6)) (C := RX12) (T := TX12) (N := 51) hx hb hw inW_X12 hown hK hP 0 rfl rfl 12 (by decide) (hw _ mw_6_55) (fun _ h9 => h9) rfl dX12_is_1 ?_
  refine lv_if_ne (tgt := 28) hx hb dX12_is_4 (by decide) (fun c1 => ?_) (fun c1 => ?_)
  · have h := h.1 c1
    refine lv_iconst (v := 0) hx hb dX12_is_28 (by decide) ?_
    rw [← hQ]
    exact cRetZ (v := 0) () hx hb hr hlocks hS hP hD (Or.inl rfl) h dX12_is_29
  · have h := h.2 c1
    refine lv_aload_n hx hb dX12_is_7 rfl (lv_at hl 0 rfl) ?_
    refine va_get (D := D) (ci := 12) (v := .int (ms 3)) (C := RX12) (T := TX12) (N := 51) hx hb hw inW_X12 hown hK hP 0 rfl rfl 8 (by decide) (hw _ mw_6_51) (fun _ h9 => h9) rfl dX12_is_8 ?_
    refine lv_iconst (v := 1) hx hb dX12_is_11 (by decide) ?_
    refine lv_icmp_ne (tgt := 28) hx hb dX12_is_12 (by decide) (fun c2 => ?_) (fun c2 => ?_)
    · have h := h.1 c2
      refine lv_iconst (v := 0) hx hb dX12_is_28 (by decide) ?_
      rw [← hQ]
      exact cRetZ (v := 0) () hx hb hr hlocks hS hP hD (Or.inl rfl) h dX12_is_29
    · have h := h.2 c2
      refine lv_aload_n hx hb dX12_is_15 rfl (lv_at hl 0 rfl) ?_
      refine va_get (D := D) (ci := 12) (v := .long (mw 0)) (C := RX12) (T := TX12) (N := 51) hx hb hw inW_X12 hown hK hP 0 rfl rfl 11 (by decide) (hw _ mw_6_54) (fun _ h9 => h9) rfl dX12_is_16 ?_
      refine lv_lload_n hx hb dX12_is_19 rfl (lv_at hl 1 rfl) ?_
      refine W.lcmp hx hb dX12_is_20 ?_
      refine lv_if_ne (tgt := 28) hx hb dX12_is_21 (by decide) (fun c3 => ?_) (fun c3 => ?_)
      · have c3 : ¬ (mw 0) = p1 := fun q => c3 ((lg_cmp_eq _ _).mpr q)
        have h := h.1 c3
        refine lv_iconst (v := 0) hx hb dX12_is_28 (by decide) ?_
        rw [← hQ]
        exact cRetZ (v := 0) () hx hb hr hlocks hS hP hD (Or.inl rfl) h dX12_is_29
      · have c3 : (mw 0) = p1 := (lg_cmp_eq _ _).mp c3
        have h := h.2 c3
        refine lv_iconst (v := 1) hx hb dX12_is_24 (by decide) ?_
        refine lv_goto (tgt := 29) hx hb dX12_is_25 (by decide) ?_
        rw [← hQ]
        exact cRetZ (v := 1) () hx hb hr hlocks hS hP hD (Or.inr rfl) h dX12_is_29
abbrev vsX12_takes : List Cond := Cond.code yX12_takes cX12_takes 3 (some .boolean) :: WS
abbrev rmX12_takes : Room := { frames := 2, cells := 0, slots := 0, locals := 44 }
set_option maxHeartbeats 4000000 in
set_option maxRecDepth 100000 in
theorem k_X12_takes (l : Launch) (D : va_G) (C : Nat → ClassId) (sz : Nat) (aM : Nat → Nat)  (ms : Nat → Int32) (mw : Nat → Int64) (ma : Nat → Nat → Int32) (ml : Nat → Nat → Int64) (p1 : Int64) {post : Int32 → (Nat → Int32) → (Nat → Int64) → Prop} (h : P_X12_takes ms mw ma p1 post) : Met l yX12_takes vsX12_takes rmX12_takes (cPre D C [.ref (aM 0), .long p1] sz (wM aM C ms mw ma ml)) (cQi D (fun (r : Int32) (u : (Nat → Int32) × (Nat → Int64)) => post r u.1 u.2) (fun u => wM aM C u.1 u.2 ma ml) (va_A (List.flatten (wM aM C ms mw ma ml)) sz)) 0 0 (va_A (List.flatten (wM aM C ms mw ma ml)) sz) := by
  refine cStart (QA := fun A => cQi D (fun (r : Int32) (u : (Nat → Int32) × (Nat → Int64)) => post r u.1 u.2) (fun u => wM aM C u.1 u.2 ma ml) A) (cc := cX12_takes) (maxL := 3) (ret := (some .boolean)) (by decide) (Nat.le_of_ble_eq_true rfl) ?_
  intro p e s m args below meth c A ls hx hb hr hml hown hw hlocks hname hK hN hA hP hD hS hl
  generalize hQ : MQ below _ args s 0 0 A = Q
  have hl : lv_has ls 3 [(0, .ref (aM 0)), (1, .long p1)] := hl
  obtain ⟨H, hH⟩ : ∃ H, H = s.heap := ⟨_, rfl⟩
  obtain ⟨locs, hlo⟩ : ∃ z : List Loc, z = [] := ⟨_, rfl⟩
  have hP : va_P D vwCl (List.flatten (wM aM C ms mw ma ml)) H := by rw [hH]; exact hP
  have hS : va_S A s.heap H locs := by rw [hH, hlo]; exact hS
  rw [show W p l e rmX12_takes s m args below meth c s.heap [] 0 0 Q (F0 m 0 ls []) = W p l e rmX12_takes s m args below meth c H locs 0 0 Q (F0 m 0 ls []) from by rw [hH, hlo]]
  refine lv_aload_n hx hb dX12_takes_0 rfl (lv_at hl 0 rfl) ?_
  refine lv_lload_n hx hb dX12_takes_1 rfl (lv_at hl 1 rfl) ?_
  refine cGoAI (cRunAV (As := [.long p1]) (rest := []) ⟨hx, hb, hml, hown, hw⟩ hK hN hP hD (k_X12_is l D C _ aM  ms mw ma ml p1 h) (cwV 1 hw (goodV mw_7_37 mw_7_39 mw_s117 mw_1_13 mw_7_40) rfl rfl rfl (by decide +kernel) ⟨Nat.le_of_ble_eq_true rfl, Nat.le_of_ble_eq_true rfl⟩) rfl rfl rfl hl.1 rfl (Nat.le_of_ble_eq_true rfl) dX12_takes_2 ⟨Nat.zero_le _, Nat.zero_le _⟩) hP hD hS hA (fun r1 u H locs h hP hD hS => ?_)
  have hP : va_P D vwCl (List.flatten (wM aM C ms mw ma ml)) H := hP
  have hD : va_D A (List.flatten (wM aM C ms mw ma ml)) := hD
  refine lv_if_ne (tgt := 10) hx hb dX12_takes_5 (by decide) (fun c2 => ?_) (fun c2 => ?_)
  · have h := h.1 c2
    refine lv_aload_n hx hb dX12_takes_10 rfl (lv_at hl 0 rfl) ?_
    refine cGoAV (cRunAV (As := []) (rest := []) ⟨hx, hb, hml, hown, hw⟩ hK hN hP hD (k_X12_next l D C _ aM  ms mw ma ml  h) (cwV 0 hw (goodV mw_7_7 mw_7_9 mw_s111 mw_1_13 mw_7_10) rfl rfl rfl (by decide +kernel) ⟨Nat.le_of_ble_eq_true rfl, Nat.le_of_ble_eq_true rfl⟩) rfl rfl rfl hl.1 rfl (Nat.le_of_ble_eq_true rfl) dX12_takes_11 ⟨Nat.zero_le _, Nat.zero_le _⟩) hP hD hS hA (fun u H locs h hP hD hS => ?_)
    obtain ⟨ms_3, mw_4⟩ := u
    have hP : va_P D vwCl (List.flatten (wM aM C ms_3 mw_4 ma ml)) H := hP
    have hD : va_D A (List.flatten (wM aM C ms_3 mw_4 ma ml)) := hD
    refine lv_iconst (v := 1) hx hb dX12_takes_14 (by decide) ?_
    rw [← hQ]
    exact cRetZ (v := 1) (ms_3, mw_4) hx hb hr hlocks hS hP hD (Or.inr rfl) h dX12_takes_15
  · have h := h.2 c2
    refine lv_iconst (v := 0) hx hb dX12_takes_8 (by decide) ?_
    rw [← hQ]
    exact cRetZ (v := 0) (ms, mw) hx hb hr hlocks hS hP hD (Or.inl rfl) h dX12_takes_9
abbrev vsX12_asks : List Cond := Cond.code yX12_asks cX12_asks 3 none :: WS
abbrev rmX12_asks : Room := { frames := 3, cells := 0, slots := 0, locals := 66 }
set_option maxHeartbeats 4000000 in
set_option maxRecDepth 100000 in
theorem k_X12_asks (l : Launch) (D : va_G) (C : Nat → ClassId) (sz : Nat) (aM : Nat → Nat)  (ms : Nat → Int32) (mw : Nat → Int64) (ma : Nat → Nat → Int32) (ml : Nat → Nat → Int64) (p1 : Int64) {post : (Nat → Int32) → (Nat → Int64) → Prop} (h : P_X12_asks ms mw ma p1 post) : Met l yX12_asks vsX12_asks rmX12_asks (cPre D C [.ref (aM 0), .long p1] sz (wM aM C ms mw ma ml)) (cQv D (fun (u : (Nat → Int32) × (Nat → Int64)) => post u.1 u.2) (fun u => wM aM C u.1 u.2 ma ml) (va_A (List.flatten (wM aM C ms mw ma ml)) sz)) 0 0 (va_A (List.flatten (wM aM C ms mw ma ml)) sz) := by
  refine cStart (QA := fun A => cQv D (fun (u : (Nat → Int32) × (Nat → Int64)) => post u.1 u.2) (fun u => wM aM C u.1 u.2 ma ml) A) (cc := cX12_asks) (maxL := 3) (ret := none) (by decide) (Nat.le_of_ble_eq_true rfl) ?_
  intro p e s m args below meth c A ls hx hb hr hml hown hw hlocks hname hK hN hA hP hD hS hl
  generalize hQ : MQ below _ args s 0 0 A = Q
  have hl : lv_has ls 3 [(0, .ref (aM 0)), (1, .long p1)] := hl
  obtain ⟨H, hH⟩ : ∃ H, H = s.heap := ⟨_, rfl⟩
  obtain ⟨locs, hlo⟩ : ∃ z : List Loc, z = [] := ⟨_, rfl⟩
  have hP : va_P D vwCl (List.flatten (wM aM C ms mw ma ml)) H := by rw [hH]; exact hP
  have hS : va_S A s.heap H locs := by rw [hH, hlo]; exact hS
  rw [show W p l e rmX12_asks s m args below meth c s.heap [] 0 0 Q (F0 m 0 ls []) = W p l e rmX12_asks s m args below meth c H locs 0 0 Q (F0 m 0 ls []) from by rw [hH, hlo]]
  refine lv_aload_n hx hb dX12_asks_0 rfl (lv_at hl 0 rfl) ?_
  refine lv_lload_n hx hb dX12_asks_1 rfl (lv_at hl 1 rfl) ?_
  refine cGoAI (cRunAV (As := [.long p1]) (rest := []) ⟨hx, hb, hml, hown, hw⟩ hK hN hP hD (k_X12_takes l D C _ aM  ms mw ma ml p1 h) (cwV 1 hw (goodV mw_7_33 mw_7_35 mw_s116 mw_1_13 mw_7_36) rfl rfl rfl (by decide +kernel) ⟨Nat.le_of_ble_eq_true rfl, Nat.le_of_ble_eq_true rfl⟩) rfl rfl rfl hl.1 rfl (Nat.le_of_ble_eq_true rfl) dX12_asks_2 ⟨Nat.zero_le _, Nat.zero_le _⟩) hP hD hS hA (fun r3 u H locs h hP hD hS => ?_)
  obtain ⟨ms_1, mw_2⟩ := u
  have hP : va_P D vwCl (List.flatten (wM aM C ms_1 mw_2 ma ml)) H := hP
  have hD : va_D A (List.flatten (wM aM C ms_1 mw_2 ma ml)) := hD
  refine lv_if_ne (tgt := 13) hx hb dX12_asks_5 (by decide) (fun c4 => ?_) (fun c4 => ?_)
  · have h := h.1 c4
    rw [← hQ]
    exact cRetV (ms_1, mw_2) hx hb hr hlocks hS hP hD h dX12_asks_13
  · have h := h.2 c4
    refine lv_aload_n hx hb dX12_asks_8 rfl (lv_at hl 0 rfl) ?_
    refine lv_iconst (v := 1) hx hb dX12_asks_9 (by decide) ?_
    refine cGoAV (cRunAV (As := [.int 1]) (rest := []) ⟨hx, hb, hml, hown, hw⟩ hK hN hP hD (k_X12_fails l D C _ aM  ms_1 mw_2 ma ml 1 h) (cwV 1 hw (goodV mw_7_41 mw_7_43 mw_s118 mw_1_13 mw_7_44) rfl rfl rfl (by decide +kernel) ⟨Nat.le_of_ble_eq_true rfl, Nat.le_of_ble_eq_true rfl⟩) rfl rfl rfl hl.1 rfl (Nat.le_of_ble_eq_true rfl) dX12_asks_10 ⟨Nat.zero_le _, Nat.zero_le _⟩) hP hD hS hA (fun ms_5 H locs h hP hD hS => ?_)
    have hP : va_P D vwCl (List.flatten (wM aM C ms_5 mw_2 ma ml)) H := hP
    have hD : va_D A (List.flatten (wM aM C ms_5 mw_2 ma ml)) := hD
    rw [← hQ]
    exact cRetV (ms_5, mw_2) hx hb hr hlocks hS hP hD h dX12_asks_13
abbrev vsX12_number : List Cond := Cond.code yX12_number cX12_number 4 (some .int) :: WS
abbrev rmX12_number : Room := { frames := 2, cells := 0, slots := 0, locals := 44 }
set_option maxHeartbeats 4000000 in
set_option maxRecDepth 100000 in
theorem k_X12_number (l : Launch) (D : va_G) (C : Nat → ClassId) (sz : Nat) (aM : Nat → Nat)  (ms : Nat → Int32) (mw : Nat → Int64) (ma : Nat → Nat → Int32) (ml : Nat → Nat → Int64) (p1 : Int32) (p2 : Int32) {post : Int32 → (Nat → Int32) → (Nat → Int64) → Prop} (h : P_X12_number ms mw ma p1 p2 post) : Met l yX12_number vsX12_number rmX12_number (cPre D C [.ref (aM 0), .int p1, .int p2] sz (wM aM C ms mw ma ml)) (cQi D (fun (r : Int32) (u : (Nat → Int32) × (Nat → Int64)) => post r u.1 u.2) (fun u => wM aM C u.1 u.2 ma ml) (va_A (List.flatten (wM aM C ms mw ma ml)) sz)) 0 0 (va_A (List.flatten (wM aM C ms mw ma ml)) sz) := by
  refine cStart (QA := fun A => cQi D (fun (r : Int32) (u : (Nat → Int32) × (Nat → Int64)) => post r u.1 u.2) (fun u => wM aM C u.1 u.2 ma ml) A) (cc := cX12_number) (maxL := 4) (ret := (some .int)) (by decide) (Nat.le_of_ble_eq_true rfl) ?_
  intro p e s m args below meth c A ls hx hb hr hml hown hw hlocks hname hK hN hA hP hD hS hl
  generalize hQ : MQ below _ args s 0 0 A = Q
  have hl : lv_has ls 4 [(0, .ref (aM 0)), (1, .int p1), (2, .int p2)] := hl
  obtain ⟨H, hH⟩ : ∃ H, H = s.heap := ⟨_, rfl⟩
  obtain ⟨locs, hlo⟩ : ∃ z : List Loc, z = [] := ⟨_, rfl⟩
  have hP : va_P D vwCl (List.flatten (wM aM C ms mw ma ml)) H := by rw [hH]; exact hP
  have hS : va_S A s.heap H locs := by rw [hH, hlo]; exact hS
  rw [show W p l e rmX12_number s m args below meth c s.heap [] 0 0 Q (F0 m 0 ls []) = W p l e rmX12_number s m args below meth c H locs 0 0 Q (F0 m 0 ls []) from by rw [hH, hlo]]
  refine lv_aload_n hx hb dX12_number_0 rfl (lv_at hl 0 rfl) ?_
  refine va_get (D := D) (ci := 12) (v := .int (ms 6)) (C := RX12) (T := TX12) (N := 51) hx hb hw inW_X12 hown hK hP 0 rfl rfl 12 (by decide) (hw _ mw_6_55) (fun _ h9 => h9) rfl dX12_number_1 ?_
  refine lv_if_eq (tgt := 9) hx hb dX12_number_4 (by decide) (fun c1 => ?_) (fun c1 => ?_)
  · have h := h.1 c1
    refine lv_aload_n hx hb dX12_number_9 rfl (lv_at hl 0 rfl) ?_
    refine va_get (D := D) (ci := 12) (v := .int (ms 3)) (C := RX12) (T := TX12) (N := 51) hx hb hw inW_X12 hown hK hP 0 rfl rfl 8 (by decide) (hw _ mw_6_51) (fun _ h9 => h9) rfl dX12_number_10 ?_
    refine lv_iconst (v := 2) hx hb dX12_number_13 (by decide) ?_
    refine lv_icmp_eq (tgt := 24) hx hb dX12_number_14 (by decide) (fun c2 => ?_) (fun c2 => ?_)
    · have h := h.1 c2
      refine lv_aload_n hx hb dX12_number_24 rfl (lv_at hl 0 rfl) ?_
      refine va_get (D := D) (ci := 12) (v := .int (ms 5)) (C := RX12) (T := TX12) (N := 51) hx hb hw inW_X12 hown hK hP 0 rfl rfl 10 (by decide) (hw _ mw_6_53) (fun _ h9 => h9) rfl dX12_number_25 ?_
      refine lv_i2l hx hb dX12_number_28 rfl ?_
      refine lv_iload_n hx hb dX12_number_29 rfl (lv_at hl 1 rfl) ?_
      refine lv_i2l hx hb dX12_number_30 rfl ?_
      refine lv_iload_n hx hb dX12_number_31 rfl (lv_at hl 2 rfl) ?_
      refine lv_i2l hx hb dX12_number_32 rfl ?_
      refine cGoEI (cRunES (As := [.long ((ms 5).toInt64), .long p1.toInt64, .long p2.toInt64]) (rest := []) ⟨hx, hb, hml, hown, hw⟩ hK hN hP hD (k_X12_in l D C _    ((ms 5).toInt64) p1.toInt64 p2.toInt64 h) (va_cwS 3 hw (goodS mw_6_205 mw_6_206 mw_1_13 mw_6_207) rfl rfl rfl (by decide +kernel) ⟨Nat.le_of_ble_eq_true rfl, Nat.le_of_ble_eq_true rfl⟩) rfl hl.1 rfl (Nat.le_of_ble_eq_true rfl) dX12_number_33 ⟨Nat.zero_le _, Nat.zero_le _⟩) hP hD hS hA (fun r3 u H locs h hP hD hS => ?_)
      have hP : va_P D vwCl (List.flatten (wM aM C ms mw ma ml)) H := hP
      have hD : va_D A (List.flatten (wM aM C ms mw ma ml)) := hD
      refine lv_if_ne (tgt := 46) hx hb dX12_number_36 (by decide) (fun c4 => ?_) (fun c4 => ?_)
      · have h := h.1 c4
        refine lv_aload_n hx hb dX12_number_46 rfl (lv_at hl 0 rfl) ?_
        refine va_get (D := D) (ci := 12) (v := .int (ms 5)) (C := RX12) (T := TX12) (N := 51) hx hb hw inW_X12 hown hK hP 0 rfl rfl 10 (by decide) (hw _ mw_6_53) (fun _ h9 => h9) rfl dX12_number_47 ?_
        refine lv_topi (fun x5 ex5 => ?_)
        have h := h x5 ex5
        refine lv_istore_n (lv' := [(3, .int x5), (0, .ref (aM 0)), (1, .int p1), (2, .int p2)]) hx hb dX12_number_50 rfl hl (by decide) rfl (fun ls hl => ?_)
        refine lv_aload_n hx hb dX12_number_51 rfl (lv_at hl 1 rfl) ?_
        refine cGoAV (cRunAV (As := []) (rest := []) ⟨hx, hb, hml, hown, hw⟩ hK hN hP hD (k_X12_next l D C _ aM  ms mw ma ml  h) (cwV 0 hw (goodV mw_7_7 mw_7_9 mw_s111 mw_1_13 mw_7_10) rfl rfl rfl (by decide +kernel) ⟨Nat.le_of_ble_eq_true rfl, Nat.le_of_ble_eq_true rfl⟩) rfl rfl rfl hl.1 rfl (Nat.le_of_ble_eq_true rfl) dX12_number_52 ⟨Nat.zero_le _, Nat.zero_le _⟩) hP hD hS hA (fun u H locs h hP hD hS => ?_)
        obtain ⟨ms_6, mw_7⟩ := u
        have hP : va_P D vwCl (List.flatten (wM aM C ms_6 mw_7 ma ml)) H := hP
        have hD : va_D A (List.flatten (wM aM C ms_6 mw_7 ma ml)) := hD
        refine lv_iload_n hx hb dX12_number_55 rfl (lv_at hl 0 rfl) ?_
        rw [← hQ]
        exact cRetI (v := x5) (ms_6, mw_7) hx hb hr hlocks hS hP hD h dX12_number_56
      · have h := h.2 c4
        refine lv_aload_n hx hb dX12_number_39 rfl (lv_at hl 0 rfl) ?_
        refine lv_iconst (v := 2) hx hb dX12_number_40 (by decide) ?_
        refine cGoAV (cRunAV (As := [.int 2]) (rest := []) ⟨hx, hb, hml, hown, hw⟩ hK hN hP hD (k_X12_fails l D C _ aM  ms mw ma ml 2 h) (cwV 1 hw (goodV mw_7_41 mw_7_43 mw_s118 mw_1_13 mw_7_44) rfl rfl rfl (by decide +kernel) ⟨Nat.le_of_ble_eq_true rfl, Nat.le_of_ble_eq_true rfl⟩) rfl rfl rfl hl.1 rfl (Nat.le_of_ble_eq_true rfl) dX12_number_41 ⟨Nat.zero_le _, Nat.zero_le _⟩) hP hD hS hA (fun ms_8 H locs h hP hD hS => ?_)
        have hP : va_P D vwCl (List.flatten (wM aM C ms_8 mw ma ml)) H := hP
        have hD : va_D A (List.flatten (wM aM C ms_8 mw ma ml)) := hD
        refine lv_iload_n hx hb dX12_number_44 rfl (lv_at hl 1 rfl) ?_
        rw [← hQ]
        exact cRetI (v := p1) (ms_8, mw) hx hb hr hlocks hS hP hD h dX12_number_45
    · have h := h.2 c2
      refine lv_aload_n hx hb dX12_number_17 rfl (lv_at hl 0 rfl) ?_
      refine lv_iconst (v := 1) hx hb dX12_number_18 (by decide) ?_
      refine cGoAV (cRunAV (As := [.int 1]) (rest := []) ⟨hx, hb, hml, hown, hw⟩ hK hN hP hD (k_X12_fails l D C _ aM  ms mw ma ml 1 h) (cwV 1 hw (goodV mw_7_41 mw_7_43 mw_s118 mw_1_13 mw_7_44) rfl rfl rfl (by decide +kernel) ⟨Nat.le_of_ble_eq_true rfl, Nat.le_of_ble_eq_true rfl⟩) rfl rfl rfl hl.1 rfl (Nat.le_of_ble_eq_true rfl) dX12_number_19 ⟨Nat.zero_le _, Nat.zero_le _⟩) hP hD hS hA (fun ms_9 H locs h hP hD hS => ?_)
      have hP : va_P D vwCl (List.flatten (wM aM C ms_9 mw ma ml)) H := hP
      have hD : va_D A (List.flatten (wM aM C ms_9 mw ma ml)) := hD
      refine lv_iload_n hx hb dX12_number_22 rfl (lv_at hl 1 rfl) ?_
      rw [← hQ]
      exact cRetI (v := p1) (ms_9, mw) hx hb hr hlocks hS hP hD h dX12_number_23
  · have h := h.2 c1
    refine lv_iload_n hx hb dX12_number_7 rfl (lv_at hl 1 rfl) ?_
    rw [← hQ]
    exact cRetI (v := p1) (ms, mw) hx hb hr hlocks hS hP hD h dX12_number_8
abbrev vsX12_number_ : List Cond := Cond.code yX12_number_ cX12_number_ 5 (some .int) :: WS
abbrev rmX12_number_ : Room := { frames := 4, cells := 0, slots := 0, locals := 88 }
set_option maxHeartbeats 4000000 in
set_option maxRecDepth 100000 in
theorem k_X12_number_ (l : Launch) (D : va_G) (C : Nat → ClassId) (sz : Nat) (aM : Nat → Nat)  (ms : Nat → Int32) (mw : Nat → Int64) (ma : Nat → Nat → Int32) (ml : Nat → Nat → Int64) (p1 : Int64) (p2 : Int32) (p3 : Int32) {post : Int32 → (Nat → Int32) → (Nat → Int64) → Prop} (h : P_X12_number_ ms mw ma p1 p2 p3 post) : Met l yX12_number_ vsX12_number_ rmX12_number_ (cPre D C [.ref (aM 0), .long p1, .int p2, .int p3] sz (wM aM C ms mw ma ml)) (cQi D (fun (r : Int32) (u : (Nat → Int32) × (Nat → Int64)) => post r u.1 u.2) (fun u => wM aM C u.1 u.2 ma ml) (va_A (List.flatten (wM aM C ms mw ma ml)) sz)) 0 0 (va_A (List.flatten (wM aM C ms mw ma ml)) sz) := by
  refine cStart (QA := fun A => cQi D (fun (r : Int32) (u : (Nat → Int32) × (Nat → Int64)) => post r u.1 u.2) (fun u => wM aM C u.1 u.2 ma ml) A) (cc := cX12_number_) (maxL := 5) (ret := (some .int)) (by decide) (Nat.le_of_ble_eq_true rfl) ?_
  intro p e s m args below meth c A ls hx hb hr hml hown hw hlocks hname hK hN hA hP hD hS hl
  generalize hQ : MQ below _ args s 0 0 A = Q
  have hl : lv_has ls 5 [(0, .ref (aM 0)), (1, .long p1), (3, .int p2), (4, .int p3)] := hl
  obtain ⟨H, hH⟩ : ∃ H, H = s.heap := ⟨_, rfl⟩
  obtain ⟨locs, hlo⟩ : ∃ z : List Loc, z = [] := ⟨_, rfl⟩
  have hP : va_P D vwCl (List.flatten (wM aM C ms mw ma ml)) H := by rw [hH]; exact hP
  have hS : va_S A s.heap H locs := by rw [hH, hlo]; exact hS
  rw [show W p l e rmX12_number_ s m args below meth c s.heap [] 0 0 Q (F0 m 0 ls []) = W p l e rmX12_number_ s m args below meth c H locs 0 0 Q (F0 m 0 ls []) from by rw [hH, hlo]]
  refine lv_aload_n hx hb dX12_number__0 rfl (lv_at hl 0 rfl) ?_
  refine lv_lload_n hx hb dX12_number__1 rfl (lv_at hl 1 rfl) ?_
  refine cGoAV (cRunAV (As := [.long p1]) (rest := []) ⟨hx, hb, hml, hown, hw⟩ hK hN hP hD (k_X12_asks l D C _ aM  ms mw ma ml p1 h) (cwV 1 hw (goodV mw_7_29 mw_7_31 mw_s115 mw_1_13 mw_7_32) rfl rfl rfl (by decide +kernel) ⟨Nat.le_of_ble_eq_true rfl, Nat.le_of_ble_eq_true rfl⟩) rfl rfl rfl hl.1 rfl (Nat.le_of_ble_eq_true rfl) dX12_number__2 ⟨Nat.zero_le _, Nat.zero_le _⟩) hP hD hS hA (fun u H locs h hP hD hS => ?_)
  obtain ⟨ms_1, mw_2⟩ := u
  have hP : va_P D vwCl (List.flatten (wM aM C ms_1 mw_2 ma ml)) H := hP
  have hD : va_D A (List.flatten (wM aM C ms_1 mw_2 ma ml)) := hD
  refine lv_aload_n hx hb dX12_number__5 rfl (lv_at hl 0 rfl) ?_
  refine lv_iload_n hx hb dX12_number__6 rfl (lv_at hl 2 rfl) ?_
  refine lv_iload hx hb dX12_number__7 (lv_at hl 3 rfl) ?_
  refine cGoAI (cRunAV (As := [.int p2, .int p3]) (rest := []) ⟨hx, hb, hml, hown, hw⟩ hK hN hP hD (k_X12_number l D C _ aM  ms_1 mw_2 ma ml p2 p3 h) (cwV 2 hw (goodV mw_7_50 mw_7_52 mw_s120 mw_1_13 mw_7_53) rfl rfl rfl (by decide +kernel) ⟨Nat.le_of_ble_eq_true rfl, Nat.le_of_ble_eq_true rfl⟩) rfl rfl rfl hl.1 rfl (Nat.le_of_ble_eq_true rfl) dX12_number__9 ⟨Nat.zero_le _, Nat.zero_le _⟩) hP hD hS hA (fun r5 u H locs h hP hD hS => ?_)
  obtain ⟨ms_3, mw_4⟩ := u
  have hP : va_P D vwCl (List.flatten (wM aM C ms_3 mw_4 ma ml)) H := hP
  have hD : va_D A (List.flatten (wM aM C ms_3 mw_4 ma ml)) := hD
  rw [← hQ]
  exact cRetI (v := r5) (ms_3, mw_4) hx hb hr hlocks hS hP hD h dX12_number__12
abbrev vsX12_ends : List Cond := Cond.code yX12_ends cX12_ends 1 none :: WS
abbrev rmX12_ends : Room := { frames := 2, cells := 0, slots := 0, locals := 44 }
set_option maxHeartbeats 4000000 in
set_option maxRecDepth 100000 in
theorem k_X12_ends (l : Launch) (D : va_G) (C : Nat → ClassId) (sz : Nat) (aM : Nat → Nat)  (ms : Nat → Int32) (mw : Nat → Int64) (ma : Nat → Nat → Int32) (ml : Nat → Nat → Int64)  {post : (Nat → Int32) → (Nat → Int64) → Prop} (h : P_X12_ends ms mw ma post) : Met l yX12_ends vsX12_ends rmX12_ends (cPre D C [.ref (aM 0)] sz (wM aM C ms mw ma ml)) (cQv D (fun (u : (Nat → Int32) × (Nat → Int64)) => post u.1 u.2) (fun u => wM aM C u.1 u.2 ma ml) (va_A (List.flatten (wM aM C ms mw ma ml)) sz)) 0 0 (va_A (List.flatten (wM aM C ms mw ma ml)) sz) := by
  refine cStart (QA := fun A => cQv D (fun (u : (Nat → Int32) × (Nat → Int64)) => post u.1 u.2) (fun u => wM aM C u.1 u.2 ma ml) A) (cc := cX12_ends) (maxL := 1) (ret := none) (by decide) (Nat.le_of_ble_eq_true rfl) ?_
  intro p e s m args below meth c A ls hx hb hr hml hown hw hlocks hname hK hN hA hP hD hS hl
  generalize hQ : MQ below _ args s 0 0 A = Q
  have hl : lv_has ls 1 [(0, .ref (aM 0))] := hl
  obtain ⟨H, hH⟩ : ∃ H, H = s.heap := ⟨_, rfl⟩
  obtain ⟨locs, hlo⟩ : ∃ z : List Loc, z = [] := ⟨_, rfl⟩
  have hP : va_P D vwCl (List.flatten (wM aM C ms mw ma ml)) H := by rw [hH]; exact hP
  have hS : va_S A s.heap H locs := by rw [hH, hlo]; exact hS
  rw [show W p l e rmX12_ends s m args below meth c s.heap [] 0 0 Q (F0 m 0 ls []) = W p l e rmX12_ends s m args below meth c H locs 0 0 Q (F0 m 0 ls []) from by rw [hH, hlo]]
  have N13 : ∀ (ms : Nat → Int32) (mw : Nat → Int64) (H : Heap) (locs : List Loc) (ls : Array Slot), P_X12_ends_13 ma post  ms mw → va_P D vwCl (List.flatten (wM aM C ms mw ma ml)) H → va_D A (List.flatten (wM aM C ms mw ma ml)) → va_S A s.heap H locs → lv_has ls 1 [(0, .ref (aM 0))] → W p l e rmX12_ends s m args below meth c H locs 0 0 Q (F0 m 13 ls []) := by
    intro ms mw H locs ls h hP hD hS hl
    refine lv_aload_n hx hb dX12_ends_13 rfl (lv_at hl 0 rfl) ?_
    refine va_get (D := D) (ci := 12) (v := .int (ms 6)) (C := RX12) (T := TX12) (N := 51) hx hb hw inW_X12 hown hK hP 0 rfl rfl 12 (by decide) (hw _ mw_6_55) (fun _ h9 => h9) rfl dX12_ends_14 ?_
    refine lv_if_ne (tgt := 24) hx hb dX12_ends_17 (by decide) (fun c1 => ?_) (fun c1 => ?_)
    · have h := h.1 c1
      rw [← hQ]
      exact cRetV (ms, mw) hx hb hr hlocks hS hP hD h dX12_ends_24
    · have h := h.2 c1
      refine lv_aload_n hx hb dX12_ends_20 rfl (lv_at hl 0 rfl) ?_
      refine cGoAV (cRunAV (As := []) (rest := []) ⟨hx, hb, hml, hown, hw⟩ hK hN hP hD (k_X12_next l D C _ aM  ms mw ma ml  h) (cwV 0 hw (goodV mw_7_7 mw_7_9 mw_s111 mw_1_13 mw_7_10) rfl rfl rfl (by decide +kernel) ⟨Nat.le_of_ble_eq_true rfl, Nat.le_of_ble_eq_true rfl⟩) rfl rfl rfl hl.1 rfl (Nat.le_of_ble_eq_true rfl) dX12_ends_21 ⟨Nat.zero_le _, Nat.zero_le _⟩) hP hD hS hA (fun u H locs h hP hD hS => ?_)
      obtain ⟨ms_2, mw_3⟩ := u
      have hP : va_P D vwCl (List.flatten (wM aM C ms_2 mw_3 ma ml)) H := hP
      have hD : va_D A (List.flatten (wM aM C ms_2 mw_3 ma ml)) := hD
      rw [← hQ]
      exact cRetV (ms_2, mw_3) hx hb hr hlocks hS hP hD h dX12_ends_24
  refine lv_aload_n hx hb dX12_ends_0 rfl (lv_at hl 0 rfl) ?_
  refine va_get (D := D) (ci := 12) (v := .int (ms 3)) (C := RX12) (T := TX12) (N := 51) hx hb hw inW_X12 hown hK hP 0 rfl rfl 8 (by decide) (hw _ mw_6_51) (fun _ h9 => h9) rfl dX12_ends_1 ?_
  refine lv_iconst (v := 3) hx hb dX12_ends_4 (by decide) ?_
  refine lv_icmp_eq (tgt := 13) hx hb dX12_ends_5 (by decide) (fun c4 => ?_) (fun c4 => ?_)
  · have h := h.1 c4
    exact N13 ms mw _ _ _ h hP hD hS (lv_sub hl [0] rfl)
  · have h := h.2 c4
    refine lv_aload_n hx hb dX12_ends_8 rfl (lv_at hl 0 rfl) ?_
    refine lv_iconst (v := 1) hx hb dX12_ends_9 (by decide) ?_
    refine cGoAV (cRunAV (As := [.int 1]) (rest := []) ⟨hx, hb, hml, hown, hw⟩ hK hN hP hD (k_X12_fails l D C _ aM  ms mw ma ml 1 h) (cwV 1 hw (goodV mw_7_41 mw_7_43 mw_s118 mw_1_13 mw_7_44) rfl rfl rfl (by decide +kernel) ⟨Nat.le_of_ble_eq_true rfl, Nat.le_of_ble_eq_true rfl⟩) rfl rfl rfl hl.1 rfl (Nat.le_of_ble_eq_true rfl) dX12_ends_10 ⟨Nat.zero_le _, Nat.zero_le _⟩) hP hD hS hA (fun ms_5 H locs h hP hD hS => ?_)
    have hP : va_P D vwCl (List.flatten (wM aM C ms_5 mw ma ml)) H := hP
    have hD : va_D A (List.flatten (wM aM C ms_5 mw ma ml)) := hD
    exact N13 ms_5 mw _ _ _ h hP hD hS (lv_sub hl [0] rfl)
abbrev vsX12_begins : List Cond := Cond.code yX12_begins cX12_begins 1 none :: WS
abbrev rmX12_begins : Room := { frames := 2, cells := 0, slots := 0, locals := 44 }
set_option maxHeartbeats 4000000 in
set_option maxRecDepth 100000 in
theorem k_X12_begins (l : Launch) (D : va_G) (C : Nat → ClassId) (sz : Nat) (aM : Nat → Nat)  (ms : Nat → Int32) (mw : Nat → Int64) (ma : Nat → Nat → Int32) (ml : Nat → Nat → Int64)  {post : (Nat → Int32) → (Nat → Int64) → Prop} (h : P_X12_begins ms mw ma post) : Met l yX12_begins vsX12_begins rmX12_begins (cPre D C [.ref (aM 0)] sz (wM aM C ms mw ma ml)) (cQv D (fun (u : (Nat → Int32) × (Nat → Int64)) => post u.1 u.2) (fun u => wM aM C u.1 u.2 ma ml) (va_A (List.flatten (wM aM C ms mw ma ml)) sz)) 0 0 (va_A (List.flatten (wM aM C ms mw ma ml)) sz) := by
  refine cStart (QA := fun A => cQv D (fun (u : (Nat → Int32) × (Nat → Int64)) => post u.1 u.2) (fun u => wM aM C u.1 u.2 ma ml) A) (cc := cX12_begins) (maxL := 1) (ret := none) (by decide) (Nat.le_of_ble_eq_true rfl) ?_
  intro p e s m args below meth c A ls hx hb hr hml hown hw hlocks hname hK hN hA hP hD hS hl
  generalize hQ : MQ below _ args s 0 0 A = Q
  have hl : lv_has ls 1 [(0, .ref (aM 0))] := hl
  obtain ⟨H, hH⟩ : ∃ H, H = s.heap := ⟨_, rfl⟩
  obtain ⟨locs, hlo⟩ : ∃ z : List Loc, z = [] := ⟨_, rfl⟩
  have hP : va_P D vwCl (List.flatten (wM aM C ms mw ma ml)) H := by rw [hH]; exact hP
  have hS : va_S A s.heap H locs := by rw [hH, hlo]; exact hS
  rw [show W p l e rmX12_begins s m args below meth c s.heap [] 0 0 Q (F0 m 0 ls []) = W p l e rmX12_begins s m args below meth c H locs 0 0 Q (F0 m 0 ls []) from by rw [hH, hlo]]
  refine lv_aload_n hx hb dX12_begins_0 rfl (lv_at hl 0 rfl) ?_
  refine lv_iconst (v := 0) hx hb dX12_begins_1 (by decide) ?_
  refine va_put (D := D) (ci := 12) (v := .int 0) (ty := .int) (C := RX12) (T := TX12) (N := 51) hx hb hw inW_X12 tyX12 tyX12_ok nmX12 hown hK hP hD hS 0 rfl rfl 12 (by decide) (hw _ mw_6_55) (fun _ h9 => h9) rfl (by decide +kernel) rfl rfl (Nat.le_of_ble_eq_true rfl) dX12_begins_2 (fun H locs hP hD hS => ?_)
  refine lv_aload_n hx hb dX12_begins_5 rfl (lv_at hl 0 rfl) ?_
  refine lv_iconst (v := (-1)) hx hb dX12_begins_6 (by decide) ?_
  refine va_put (D := D) (ci := 12) (v := .int (-1)) (ty := .int) (C := RX12) (T := TX12) (N := 51) hx hb hw inW_X12 tyX12 tyX12_ok nmX12 hown hK hP hD hS 0 rfl rfl 13 (by decide) (hw _ mw_6_56) (fun _ h9 => h9) rfl (by decide +kernel) rfl rfl (Nat.le_of_ble_eq_true rfl) dX12_begins_7 (fun H locs hP hD hS => ?_)
  refine lv_aload_n hx hb dX12_begins_10 rfl (lv_at hl 0 rfl) ?_
  refine lv_iconst (v := 0) hx hb dX12_begins_11 (by decide) ?_
  refine va_put (D := D) (ci := 12) (v := .int 0) (ty := .int) (C := RX12) (T := TX12) (N := 51) hx hb hw inW_X12 tyX12 tyX12_ok nmX12 hown hK hP hD hS 0 rfl rfl 7 (by decide) (hw _ mw_6_50) (fun _ h9 => h9) rfl (by decide +kernel) rfl rfl (Nat.le_of_ble_eq_true rfl) dX12_begins_12 (fun H locs hP hD hS => ?_)
  refine lv_aload_n hx hb dX12_begins_15 rfl (lv_at hl 0 rfl) ?_
  have hP : va_P D vwCl (List.flatten (wM aM C (va_up (va_up (va_up ms 2 0) 6 0) 7 (-1)) mw ma ml)) H := hP
  have hD : va_D A (List.flatten (wM aM C (va_up (va_up (va_up ms 2 0) 6 0) 7 (-1)) mw ma ml)) := hD
  refine cGoAV (cRunAV (As := []) (rest := []) ⟨hx, hb, hml, hown, hw⟩ hK hN hP hD (k_X12_next l D C _ aM  (va_up (va_up (va_up ms 2 0) 6 0) 7 (-1)) mw ma ml  h) (cwV 0 hw (goodV mw_7_7 mw_7_9 mw_s111 mw_1_13 mw_7_10) rfl rfl rfl (by decide +kernel) ⟨Nat.le_of_ble_eq_true rfl, Nat.le_of_ble_eq_true rfl⟩) rfl rfl rfl hl.1 rfl (Nat.le_of_ble_eq_true rfl) dX12_begins_16 ⟨Nat.zero_le _, Nat.zero_le _⟩) hP hD hS hA (fun u H locs h hP hD hS => ?_)
  obtain ⟨ms_1, mw_2⟩ := u
  have hP : va_P D vwCl (List.flatten (wM aM C ms_1 mw_2 ma ml)) H := hP
  have hD : va_D A (List.flatten (wM aM C ms_1 mw_2 ma ml)) := hD
  rw [← hQ]
  exact cRetV (ms_1, mw_2) hx hb hr hlocks hS hP hD h dX12_begins_19
