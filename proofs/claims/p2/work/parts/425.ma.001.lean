abbrev vsX12_paste : List Cond := Cond.code yX12_paste cX12_paste 7 (some .int) :: WS
abbrev rmX12_paste : Room := { frames := 2, cells := 0, slots := 0, locals := 45 }
set_option maxHeartbeats 4000000 in
set_option maxRecDepth 100000 in
theorem k_X12_paste (l : Launch) (D : va_G) (C : Nat → ClassId) (sz : Nat) (aM : Nat → Nat)  (ms : Nat → Int32) (mw : Nat → Int64) (ma : Nat → Nat → Int32) (ml : Nat → Nat → Int64) (p1 : Int32) (p2 : Int32) (p3 : Int32) (p4 : Int32) (p5 : Int32) {post : Int32 → (Nat → Int32) → (Nat → Nat → Int64) → Prop} (h : P_X12_paste ms ma ml p1 p2 p3 p4 p5 post) : Met l yX12_paste vsX12_paste rmX12_paste (cPre D C [.ref (aM 0), .int p1, .int p2, .int p3, .int p4, .int p5] sz (wM aM C ms mw ma ml)) (cQi D (fun (r : Int32) (u : (Nat → Int32) × (Nat → Nat → Int64)) => post r u.1 u.2) (fun u => wM aM C u.1 mw ma u.2) (va_A (List.flatten (wM aM C ms mw ma ml)) sz)) 0 0 (va_A (List.flatten (wM aM C ms mw ma ml)) sz) := by
  refine cStart (QA := fun A => cQi D (fun (r : Int32) (u : (Nat → Int32) × (Nat → Nat → Int64)) => post r u.1 u.2) (fun u => wM aM C u.1 mw ma u.2) A) (cc := cX12_paste) (maxL := 7) (ret := (some .int)) (by decide) (Nat.le_of_ble_eq_true rfl) ?_
  intro p e s m args below meth c A ls hx hb hr hml hown hw hlocks hname hK hN hA hP hD hS hl
  generalize hQ : MQ below _ args s 0 0 A = Q
  have hl : lv_has ls 7 [(0, .ref (aM 0)), (1, .int p1), (2, .int p2), (3, .int p3), (4, .int p4), (5, .int p5)] := hl
  obtain ⟨H, hH⟩ : ∃ H, H = s.heap := ⟨_, rfl⟩
  obtain ⟨locs, hlo⟩ : ∃ z : List Loc, z = [] := ⟨_, rfl⟩
  have hP : va_P D vwCl (List.flatten (wM aM C ms mw ma ml)) H := by rw [hH]; exact hP
  have hS : va_S A s.heap H locs := by rw [hH, hlo]; exact hS
  rw [show W p l e rmX12_paste s m args below meth c s.heap [] 0 0 Q (F0 m 0 ls []) = W p l e rmX12_paste s m args below meth c H locs 0 0 Q (F0 m 0 ls []) from by rw [hH, hlo]]
  have N155 : ∀ (ms : Nat → Int32) (n155 : Nat) (x6_ : Int32) (ml : Nat → Nat → Int64) (H : Heap) (locs : List Loc) (ls : Array Slot), P_X12_paste_155 ma p1 p2 p3 p4 p5 post  ms n155 x6_ ml → va_P D vwCl (List.flatten (wM aM C ms mw ma ml)) H → va_D A (List.flatten (wM aM C ms mw ma ml)) → va_S A s.heap H locs → lv_has ls 7 [(0, .ref (aM 0)), (3, .int p3), (4, .int p4), (5, .int p5), (6, .int x6_)] → W p l e rmX12_paste s m args below meth c H locs 0 0 Q (F0 m 155 ls []) := by
    intro ms
    intro n155
    induction n155 with
    | zero => intro x6_ ml H locs ls h hP hD hS hl; exact False.elim h
    | succ n155 ih155 =>
      intro x6_ ml H locs ls h hP hD hS hl
      refine lv_iload hx hb dX12_paste_155 (lv_at hl 4 rfl) ?_
      refine lv_iload hx hb dX12_paste_157 (lv_at hl 3 rfl) ?_
      refine lv_icmp_ge (tgt := 190) hx hb dX12_paste_159 (by decide) (fun c1 => ?_) (fun c1 => ?_)
      · have h := h.1 c1
        refine lv_iconst (v := 0) hx hb dX12_paste_190 (by decide) ?_
        rw [← hQ]
        exact cRetI (v := 0) (ms, ml) hx hb hr hlocks hS hP hD h dX12_paste_191
      · have h := h.2 c1
        refine lv_aload_n hx hb dX12_paste_162 rfl (lv_at hl 0 rfl) ?_
        refine va_get (D := D) (ci := 12) (v := .ref (aM 3)) (C := RX12) (T := TX12) (N := 51) hx hb hw inW_X12 hown hK hP 0 rfl rfl 3 (by decide) (hw _ mw_6_46) (fun _ h9 => h9) rfl dX12_paste_163 ?_
        refine lv_bipush (v := 60) hx hb dX12_paste_166 (by decide) ?_
        refine lv_iload_n hx hb dX12_paste_168 rfl (lv_at hl 1 rfl) ?_
        refine lv_imul hx hb dX12_paste_169 ?_
        refine lv_iload hx hb dX12_paste_170 (lv_at hl 2 rfl) ?_
        refine lv_iadd hx hb dX12_paste_172 ?_
        refine lv_iload hx hb dX12_paste_173 (lv_at hl 4 rfl) ?_
        refine lv_iadd hx hb dX12_paste_175 ?_
        refine lv_aload_n hx hb dX12_paste_176 rfl (lv_at hl 0 rfl) ?_
        refine va_get (D := D) (ci := 12) (v := .ref (aM 4)) (C := RX12) (T := TX12) (N := 51) hx hb hw inW_X12 hown hK hP 0 rfl rfl 4 (by decide) (hw _ mw_6_47) (fun _ h9 => h9) rfl dX12_paste_177 ?_
        refine lv_iload hx hb dX12_paste_180 (lv_at hl 4 rfl) ?_
        refine cLald hx hb hK hP 4 1 rfl rfl x6_.toNatClampNeg rfl h.1 dX12_paste_182 ?_
        have h := h.2
        refine cLast hx hb hK hP hD hS 3 1 rfl rfl ((((60 * p3) + p4) + x6_).toNatClampNeg) rfl h.1 dX12_paste_183 (fun H locs hP hD hS => ?_)
        have h := h.2
        refine lv_iinc (v := (x6_ + 1)) (lv' := [(6, .int (x6_ + 1)), (0, .ref (aM 0)), (3, .int p3), (4, .int p4), (5, .int p5)]) hx hb dX12_paste_184 hl (k := 4) rfl rfl (by decide) rfl (fun ls hl => ?_)
        refine lv_goto (tgt := 155) hx hb dX12_paste_187 (by decide) ?_
        have hP : va_P D vwCl (List.flatten (wM aM C ms mw ma (va_up ml 0 (vp_updL (ml 0) ((((60 * p3) + p4) + x6_).toNatClampNeg) (ml 1 x6_.toNatClampNeg))))) H := hP
        have hD : va_D A (List.flatten (wM aM C ms mw ma (va_up ml 0 (vp_updL (ml 0) ((((60 * p3) + p4) + x6_).toNatClampNeg) (ml 1 x6_.toNatClampNeg))))) := hD
        exact ih155 (x6_ + 1) (va_up ml 0 (vp_updL (ml 0) ((((60 * p3) + p4) + x6_).toNatClampNeg) (ml 1 x6_.toNatClampNeg))) _ _ _ h hP hD hS (lv_sub hl [1, 2, 3, 4, 0] rfl)
  have N118 : ∀ (ms : Nat → Int32) (n118 : Nat) (x6_ : Int32) (ml : Nat → Nat → Int64) (H : Heap) (locs : List Loc) (ls : Array Slot), P_X12_paste_118 ma p1 p2 p3 p4 p5 post (fun (ms : Nat → Int32) (x6_ : Int32) (ml : Nat → Nat → Int64) => ∃ n : Nat, P_X12_paste_155 ma p1 p2 p3 p4 p5 post  ms n x6_ ml) ms n118 x6_ ml → va_P D vwCl (List.flatten (wM aM C ms mw ma ml)) H → va_D A (List.flatten (wM aM C ms mw ma ml)) → va_S A s.heap H locs → lv_has ls 7 [(0, .ref (aM 0)), (1, .int p1), (2, .int p2), (3, .int p3), (4, .int p4), (5, .int p5), (6, .int x6_)] → W p l e rmX12_paste s m args below meth c H locs 0 0 Q (F0 m 118 ls []) := by
    intro ms
    intro n118
    induction n118 with
    | zero => intro x6_ ml H locs ls h hP hD hS hl; exact False.elim h
    | succ n118 ih118 =>
      intro x6_ ml H locs ls h hP hD hS hl
      refine lv_iload hx hb dX12_paste_118 (lv_at hl 6 rfl) ?_
      refine lv_iload hx hb dX12_paste_120 (lv_at hl 5 rfl) ?_
      refine lv_icmp_ge (tgt := 152) hx hb dX12_paste_122 (by decide) (fun c2 => ?_) (fun c2 => ?_)
      · have h := h.1 c2
        refine lv_iconst (v := 0) hx hb dX12_paste_152 (by decide) ?_
        refine lv_istore (lv' := [(6, .int 0), (0, .ref (aM 0)), (1, .int p1), (2, .int p2), (3, .int p3), (4, .int p4), (5, .int p5)]) hx hb dX12_paste_153 hl (by decide) rfl (fun ls hl => ?_)
        obtain ⟨n, h⟩ := h
        exact N155 ms n 0 ml _ _ _ h hP hD hS (lv_sub hl [1, 4, 5, 6, 0] rfl)
      · have h := h.2 c2
        refine lv_aload_n hx hb dX12_paste_125 rfl (lv_at hl 0 rfl) ?_
        refine va_get (D := D) (ci := 12) (v := .ref (aM 4)) (C := RX12) (T := TX12) (N := 51) hx hb hw inW_X12 hown hK hP 0 rfl rfl 4 (by decide) (hw _ mw_6_47) (fun _ h9 => h9) rfl dX12_paste_126 ?_
        refine lv_iload hx hb dX12_paste_129 (lv_at hl 6 rfl) ?_
        refine lv_aload_n hx hb dX12_paste_131 rfl (lv_at hl 0 rfl) ?_
        refine va_get (D := D) (ci := 12) (v := .ref (aM 3)) (C := RX12) (T := TX12) (N := 51) hx hb hw inW_X12 hown hK hP 0 rfl rfl 3 (by decide) (hw _ mw_6_46) (fun _ h9 => h9) rfl dX12_paste_132 ?_
        refine lv_bipush (v := 60) hx hb dX12_paste_135 (by decide) ?_
        refine lv_iload_n hx hb dX12_paste_137 rfl (lv_at hl 1 rfl) ?_
        refine lv_imul hx hb dX12_paste_138 ?_
        refine lv_iload_n hx hb dX12_paste_139 rfl (lv_at hl 2 rfl) ?_
        refine lv_iadd hx hb dX12_paste_140 ?_
        refine lv_iload hx hb dX12_paste_141 (lv_at hl 6 rfl) ?_
        refine lv_iadd hx hb dX12_paste_143 ?_
        refine cLald hx hb hK hP 3 1 rfl rfl ((((60 * p1) + p2) + x6_).toNatClampNeg) rfl h.1 dX12_paste_144 ?_
        have h := h.2
        refine cLast hx hb hK hP hD hS 4 1 rfl rfl x6_.toNatClampNeg rfl h.1 dX12_paste_145 (fun H locs hP hD hS => ?_)
        have h := h.2
        refine lv_iinc (v := (x6_ + 1)) (lv' := [(6, .int (x6_ + 1)), (0, .ref (aM 0)), (1, .int p1), (2, .int p2), (3, .int p3), (4, .int p4), (5, .int p5)]) hx hb dX12_paste_146 hl (k := 6) rfl rfl (by decide) rfl (fun ls hl => ?_)
        refine lv_goto (tgt := 118) hx hb dX12_paste_149 (by decide) ?_
        have hP : va_P D vwCl (List.flatten (wM aM C ms mw ma (va_up ml 1 (vp_updL (ml 1) x6_.toNatClampNeg (ml 0 ((((60 * p1) + p2) + x6_).toNatClampNeg)))))) H := hP
        have hD : va_D A (List.flatten (wM aM C ms mw ma (va_up ml 1 (vp_updL (ml 1) x6_.toNatClampNeg (ml 0 ((((60 * p1) + p2) + x6_).toNatClampNeg)))))) := hD
        exact ih118 (x6_ + 1) (va_up ml 1 (vp_updL (ml 1) x6_.toNatClampNeg (ml 0 ((((60 * p1) + p2) + x6_).toNatClampNeg)))) _ _ _ h hP hD hS (lv_sub hl [1, 2, 3, 4, 5, 6, 0] rfl)
  refine lv_aload_n hx hb dX12_paste_0 rfl (lv_at hl 0 rfl) ?_
  refine lv_iconst (v := 0) hx hb dX12_paste_1 (by decide) ?_
  refine va_put (D := D) (ci := 12) (v := .int 0) (ty := .int) (C := RX12) (T := TX12) (N := 51) hx hb hw inW_X12 tyX12 tyX12_ok nmX12 hown hK hP hD hS 0 rfl rfl 0 (by decide) (hw _ mw_6_43) (fun _ h9 => h9) rfl (by decide +kernel) rfl rfl (Nat.le_of_ble_eq_true rfl) dX12_paste_2 (fun H locs hP hD hS => ?_)
  refine lv_iload_n hx hb dX12_paste_5 rfl (lv_at hl 1 rfl) ?_
  have hP : va_P D vwCl (List.flatten (wM aM C (va_up ms 0 0) mw ma ml)) H := hP
  have hD : va_D A (List.flatten (wM aM C (va_up ms 0 0) mw ma ml)) := hD
  refine cGoI (wo := fun u => wM aM C (va_up ms 0 0) mw ma ml) (cRunS (As := [.int p1]) (rest := []) ⟨hx, hb, hml, hown, hw⟩ hK hN hP hD [] rfl rfl (k_X12_isSlot l D C _    p1 h) (va_cwS 1 hw (goodS mw_6_201 mw_6_202 mw_1_13 mw_6_203) rfl rfl rfl (by decide +kernel) ⟨Nat.le_of_ble_eq_true rfl, Nat.le_of_ble_eq_true rfl⟩) rfl hl.1 rfl (Nat.le_of_ble_eq_true rfl) dX12_paste_6 ⟨Nat.zero_le _, Nat.zero_le _⟩) hP hD hS hA [] [0, 1, 2, 3, 4, 5, 6, 7, 8, 9, 10, 11, 12, 13, 14, 15, 16, 17, 18, 19, 20, 21, 22, 23, 24, 25, 26, 27, 28, 29, 30, 31, 32] [0, 1, 2, 3, 4, 5, 6, 7, 8, 9, 10, 11, 12, 13, 14, 15, 16, 17, 18, 19, 20, 21, 22, 23, 24, 25, 26, 27, 28, 29, 30, 31, 32] rfl rfl rfl (by decide) rfl (fun _ => rfl) (fun r3 u H locs h hP hD hS => ?_)
  have hP : va_P D vwCl (List.flatten (wM aM C (va_up ms 0 0) mw ma ml)) H := hP
  have hD : va_D A (List.flatten (wM aM C (va_up ms 0 0) mw ma ml)) := hD
  refine lv_if_eq (tgt := 19) hx hb dX12_paste_9 (by decide) (fun c4 => ?_) (fun c4 => ?_)
  · have h := h.1 c4
    refine lv_bipush (v := (-2)) hx hb dX12_paste_19 (by decide) ?_
    rw [← hQ]
    exact cRetI (v := (-2)) ((va_up ms 0 0), ml) hx hb hr hlocks hS hP hD h dX12_paste_21
  · have h := h.2 c4
    refine lv_iload_n hx hb dX12_paste_12 rfl (lv_at hl 3 rfl) ?_
    refine cGoI (wo := fun u => wM aM C (va_up ms 0 0) mw ma ml) (cRunS (As := [.int p3]) (rest := []) ⟨hx, hb, hml, hown, hw⟩ hK hN hP hD [] rfl rfl (k_X12_isSlot l D C _    p3 h) (va_cwS 1 hw (goodS mw_6_201 mw_6_202 mw_1_13 mw_6_203) rfl rfl rfl (by decide +kernel) ⟨Nat.le_of_ble_eq_true rfl, Nat.le_of_ble_eq_true rfl⟩) rfl hl.1 rfl (Nat.le_of_ble_eq_true rfl) dX12_paste_13 ⟨Nat.zero_le _, Nat.zero_le _⟩) hP hD hS hA [] [0, 1, 2, 3, 4, 5, 6, 7, 8, 9, 10, 11, 12, 13, 14, 15, 16, 17, 18, 19, 20, 21, 22, 23, 24, 25, 26, 27, 28, 29, 30, 31, 32] [0, 1, 2, 3, 4, 5, 6, 7, 8, 9, 10, 11, 12, 13, 14, 15, 16, 17, 18, 19, 20, 21, 22, 23, 24, 25, 26, 27, 28, 29, 30, 31, 32] rfl rfl rfl (by decide) rfl (fun _ => rfl) (fun r5 u H locs h hP hD hS => ?_)
    have hP : va_P D vwCl (List.flatten (wM aM C (va_up ms 0 0) mw ma ml)) H := hP
    have hD : va_D A (List.flatten (wM aM C (va_up ms 0 0) mw ma ml)) := hD
    refine lv_if_ne (tgt := 22) hx hb dX12_paste_16 (by decide) (fun c6 => ?_) (fun c6 => ?_)
    · have h := h.1 c6
      refine lv_aload_n hx hb dX12_paste_22 rfl (lv_at hl 0 rfl) ?_
      refine va_get (D := D) (ci := 12) (v := .ref (aM 1)) (C := RX12) (T := TX12) (N := 51) hx hb hw inW_X12 hown hK hP 0 rfl rfl 1 (by decide) (hw _ mw_6_44) (fun _ h9 => h9) rfl dX12_paste_23 ?_
      refine lv_iload_n hx hb dX12_paste_26 rfl (lv_at hl 1 rfl) ?_
      refine cIald hx hb hK hP 1 0 rfl rfl p1.toNatClampNeg rfl h.1 dX12_paste_27 ?_
      have h := h.2
      refine lv_iconst (v := (-1)) hx hb dX12_paste_28 (by decide) ?_
      refine lv_icmp_eq (tgt := 42) hx hb dX12_paste_29 (by decide) (fun c7 => ?_) (fun c7 => ?_)
      · have h := h.1 c7
        refine lv_bipush (v := (-6)) hx hb dX12_paste_42 (by decide) ?_
        rw [← hQ]
        exact cRetI (v := (-6)) ((va_up ms 0 0), ml) hx hb hr hlocks hS hP hD h dX12_paste_44
      · have h := h.2 c7
        refine lv_aload_n hx hb dX12_paste_32 rfl (lv_at hl 0 rfl) ?_
        refine va_get (D := D) (ci := 12) (v := .ref (aM 1)) (C := RX12) (T := TX12) (N := 51) hx hb hw inW_X12 hown hK hP 0 rfl rfl 1 (by decide) (hw _ mw_6_44) (fun _ h9 => h9) rfl dX12_paste_33 ?_
        refine lv_iload_n hx hb dX12_paste_36 rfl (lv_at hl 3 rfl) ?_
        refine cIald hx hb hK hP 1 0 rfl rfl p3.toNatClampNeg rfl h.1 dX12_paste_37 ?_
        have h := h.2
        refine lv_iconst (v := (-1)) hx hb dX12_paste_38 (by decide) ?_
        refine lv_icmp_ne (tgt := 45) hx hb dX12_paste_39 (by decide) (fun c8 => ?_) (fun c8 => ?_)
        · have h := h.1 c8
          refine lv_aload_n hx hb dX12_paste_45 rfl (lv_at hl 0 rfl) ?_
          refine va_get (D := D) (ci := 12) (v := .ref (aM 1)) (C := RX12) (T := TX12) (N := 51) hx hb hw inW_X12 hown hK hP 0 rfl rfl 1 (by decide) (hw _ mw_6_44) (fun _ h9 => h9) rfl dX12_paste_46 ?_
          refine lv_iload_n hx hb dX12_paste_49 rfl (lv_at hl 1 rfl) ?_
          refine cIald hx hb hK hP 1 0 rfl rfl p1.toNatClampNeg rfl h.1 dX12_paste_50 ?_
          have h := h.2
          refine lv_aload_n hx hb dX12_paste_51 rfl (lv_at hl 0 rfl) ?_
          refine va_get (D := D) (ci := 12) (v := .ref (aM 1)) (C := RX12) (T := TX12) (N := 51) hx hb hw inW_X12 hown hK hP 0 rfl rfl 1 (by decide) (hw _ mw_6_44) (fun _ h9 => h9) rfl dX12_paste_52 ?_
          refine lv_iload_n hx hb dX12_paste_55 rfl (lv_at hl 3 rfl) ?_
          refine cIald hx hb hK hP 1 0 rfl rfl p3.toNatClampNeg rfl h.1 dX12_paste_56 ?_
          have h := h.2
          refine lv_icmp_eq (tgt := 63) hx hb dX12_paste_57 (by decide) (fun c9 => ?_) (fun c9 => ?_)
          · have h := h.1 c9
            refine lv_iload_n hx hb dX12_paste_63 rfl (lv_at hl 2 rfl) ?_
            refine lv_if_lt (tgt := 112) hx hb dX12_paste_64 (by decide) (fun c10 => ?_) (fun c10 => ?_)
            · have h := h.1 c10
              refine lv_bipush (v := (-7)) hx hb dX12_paste_112 (by decide) ?_
              rw [← hQ]
              exact cRetI (v := (-7)) ((va_up ms 0 0), ml) hx hb hr hlocks hS hP hD h dX12_paste_114
            · have h := h.2 c10
              refine lv_iload hx hb dX12_paste_67 (lv_at hl 4 rfl) ?_
              refine lv_if_lt (tgt := 112) hx hb dX12_paste_69 (by decide) (fun c11 => ?_) (fun c11 => ?_)
              · have h := h.1 c11
                refine lv_bipush (v := (-7)) hx hb dX12_paste_112 (by decide) ?_
                rw [← hQ]
                exact cRetI (v := (-7)) ((va_up ms 0 0), ml) hx hb hr hlocks hS hP hD h dX12_paste_114
              · have h := h.2 c11
                refine lv_iload hx hb dX12_paste_72 (lv_at hl 5 rfl) ?_
                refine lv_if_lt (tgt := 112) hx hb dX12_paste_74 (by decide) (fun c12 => ?_) (fun c12 => ?_)
                · have h := h.1 c12
                  refine lv_bipush (v := (-7)) hx hb dX12_paste_112 (by decide) ?_
                  rw [← hQ]
                  exact cRetI (v := (-7)) ((va_up ms 0 0), ml) hx hb hr hlocks hS hP hD h dX12_paste_114
                · have h := h.2 c12
                  refine lv_iload_n hx hb dX12_paste_77 rfl (lv_at hl 2 rfl) ?_
                  refine lv_i2l hx hb dX12_paste_78 rfl ?_
                  refine lv_iload hx hb dX12_paste_79 (lv_at hl 5 rfl) ?_
                  refine lv_i2l hx hb dX12_paste_81 rfl ?_
                  refine lv_ladd hx hb dX12_paste_82 ?_
                  refine lv_aload_n hx hb dX12_paste_83 rfl (lv_at hl 0 rfl) ?_
                  refine va_get (D := D) (ci := 12) (v := .ref (aM 2)) (C := RX12) (T := TX12) (N := 51) hx hb hw inW_X12 hown hK hP 0 rfl rfl 2 (by decide) (hw _ mw_6_45) (fun _ h9 => h9) rfl dX12_paste_84 ?_
                  refine lv_iload_n hx hb dX12_paste_87 rfl (lv_at hl 1 rfl) ?_
                  refine cIald hx hb hK hP 2 0 rfl rfl p1.toNatClampNeg rfl h.1 dX12_paste_88 ?_
                  have h := h.2
                  refine lv_i2l hx hb dX12_paste_89 rfl ?_
                  refine W.lcmp hx hb dX12_paste_90 ?_
                  refine lv_if_gt (tgt := 112) hx hb dX12_paste_91 (by decide) (fun c13 => ?_) (fun c13 => ?_)
                  · have c13 : ((ma 1 p1.toNatClampNeg).toInt64) < (p2.toInt64 + p5.toInt64) := (lg_cmp_gt _ _).mp c13
                    have h := h.1 c13
                    refine lv_bipush (v := (-7)) hx hb dX12_paste_112 (by decide) ?_
                    rw [← hQ]
                    exact cRetI (v := (-7)) ((va_up ms 0 0), ml) hx hb hr hlocks hS hP hD h dX12_paste_114
                  · have c13 : ¬ ((ma 1 p1.toNatClampNeg).toInt64) < (p2.toInt64 + p5.toInt64) := fun q => c13 ((lg_cmp_gt _ _).mpr q)
                    have h := h.2 c13
                    refine lv_iload hx hb dX12_paste_94 (lv_at hl 4 rfl) ?_
                    refine lv_i2l hx hb dX12_paste_96 rfl ?_
                    refine lv_iload hx hb dX12_paste_97 (lv_at hl 5 rfl) ?_
                    refine lv_i2l hx hb dX12_paste_99 rfl ?_
                    refine lv_ladd hx hb dX12_paste_100 ?_
                    refine lv_aload_n hx hb dX12_paste_101 rfl (lv_at hl 0 rfl) ?_
                    refine va_get (D := D) (ci := 12) (v := .ref (aM 2)) (C := RX12) (T := TX12) (N := 51) hx hb hw inW_X12 hown hK hP 0 rfl rfl 2 (by decide) (hw _ mw_6_45) (fun _ h9 => h9) rfl dX12_paste_102 ?_
                    refine lv_iload_n hx hb dX12_paste_105 rfl (lv_at hl 3 rfl) ?_
                    refine cIald hx hb hK hP 2 0 rfl rfl p3.toNatClampNeg rfl h.1 dX12_paste_106 ?_
                    have h := h.2
                    refine lv_i2l hx hb dX12_paste_107 rfl ?_
                    refine W.lcmp hx hb dX12_paste_108 ?_
                    refine lv_if_le (tgt := 115) hx hb dX12_paste_109 (by decide) (fun c14 => ?_) (fun c14 => ?_)
                    · have c14 : (p4.toInt64 + p5.toInt64) ≤ ((ma 1 p3.toNatClampNeg).toInt64) := (lg_cmp_le _ _).mp c14
                      have h := h.1 c14
                      refine lv_iconst (v := 0) hx hb dX12_paste_115 (by decide) ?_
                      refine lv_istore (lv' := [(6, .int 0), (0, .ref (aM 0)), (1, .int p1), (2, .int p2), (3, .int p3), (4, .int p4), (5, .int p5)]) hx hb dX12_paste_116 hl (by decide) rfl (fun ls hl => ?_)
                      obtain ⟨n, h⟩ := h
                      exact N118 (va_up ms 0 0) n 0 ml _ _ _ h hP hD hS (lv_sub hl [1, 2, 3, 4, 5, 6, 0] rfl)
                    · have c14 : ¬ (p4.toInt64 + p5.toInt64) ≤ ((ma 1 p3.toNatClampNeg).toInt64) := fun q => c14 ((lg_cmp_le _ _).mpr q)
                      have h := h.2 c14
                      refine lv_bipush (v := (-7)) hx hb dX12_paste_112 (by decide) ?_
                      rw [← hQ]
                      exact cRetI (v := (-7)) ((va_up ms 0 0), ml) hx hb hr hlocks hS hP hD h dX12_paste_114
          · have h := h.2 c9
            refine lv_bipush (v := (-8)) hx hb dX12_paste_60 (by decide) ?_
            rw [← hQ]
            exact cRetI (v := (-8)) ((va_up ms 0 0), ml) hx hb hr hlocks hS hP hD h dX12_paste_62
        · have h := h.2 c8
          refine lv_bipush (v := (-6)) hx hb dX12_paste_42 (by decide) ?_
          rw [← hQ]
          exact cRetI (v := (-6)) ((va_up ms 0 0), ml) hx hb hr hlocks hS hP hD h dX12_paste_44
    · have h := h.2 c6
      refine lv_bipush (v := (-2)) hx hb dX12_paste_19 (by decide) ?_
      rw [← hQ]
      exact cRetI (v := (-2)) ((va_up ms 0 0), ml) hx hb hr hlocks hS hP hD h dX12_paste_21
abbrev vsX12_four : List Cond := Cond.code yX12_four cX12_four 3 none :: WS
abbrev rmX12_four : Room := { frames := 0, cells := 0, slots := 0, locals := 0 }
set_option maxHeartbeats 4000000 in
set_option maxRecDepth 100000 in
theorem k_X12_four (l : Launch) (D : va_G) (C : Nat → ClassId) (sz : Nat) (aM : Nat → Nat)  (ms : Nat → Int32) (mw : Nat → Int64) (ma : Nat → Nat → Int32) (ml : Nat → Nat → Int64) (p1 : Int32) {post : (Nat → Int32) → (Nat → Nat → Int32) → Prop} (h : P_X12_four ms ma p1 post) : Met l yX12_four vsX12_four rmX12_four (cPre D C [.ref (aM 0), .int p1] sz (wM aM C ms mw ma ml)) (cQv D (fun (u : (Nat → Int32) × (Nat → Nat → Int32)) => post u.1 u.2) (fun u => wM aM C u.1 mw u.2 ml) (va_A (List.flatten (wM aM C ms mw ma ml)) sz)) 0 0 (va_A (List.flatten (wM aM C ms mw ma ml)) sz) := by
  refine cStart (QA := fun A => cQv D (fun (u : (Nat → Int32) × (Nat → Nat → Int32)) => post u.1 u.2) (fun u => wM aM C u.1 mw u.2 ml) A) (cc := cX12_four) (maxL := 3) (ret := none) (by decide) (Nat.le_of_ble_eq_true rfl) ?_
  intro p e s m args below meth c A ls hx hb hr hml hown hw hlocks hname hK hN hA hP hD hS hl
  generalize hQ : MQ below _ args s 0 0 A = Q
  have hl : lv_has ls 3 [(0, .ref (aM 0)), (1, .int p1)] := hl
  obtain ⟨H, hH⟩ : ∃ H, H = s.heap := ⟨_, rfl⟩
  obtain ⟨locs, hlo⟩ : ∃ z : List Loc, z = [] := ⟨_, rfl⟩
  have hP : va_P D vwCl (List.flatten (wM aM C ms mw ma ml)) H := by rw [hH]; exact hP
  have hS : va_S A s.heap H locs := by rw [hH, hlo]; exact hS
  rw [show W p l e rmX12_four s m args below meth c s.heap [] 0 0 Q (F0 m 0 ls []) = W p l e rmX12_four s m args below meth c H locs 0 0 Q (F0 m 0 ls []) from by rw [hH, hlo]]
  have N3 : ∀  (n3 : Nat) (x2_ : Int32) (ms : Nat → Int32) (ma : Nat → Nat → Int32) (H : Heap) (locs : List Loc) (ls : Array Slot), P_X12_four_3 p1 post   n3 x2_ ms ma → va_P D vwCl (List.flatten (wM aM C ms mw ma ml)) H → va_D A (List.flatten (wM aM C ms mw ma ml)) → va_S A s.heap H locs → lv_has ls 3 [(0, .ref (aM 0)), (1, .int p1), (2, .int x2_)] → W p l e rmX12_four s m args below meth c H locs 0 0 Q (F0 m 3 ls []) := by
    intro n3
    induction n3 with
    | zero => intro x2_ ms ma H locs ls h hP hD hS hl; exact False.elim h
    | succ n3 ih3 =>
      intro x2_ ms ma H locs ls h hP hD hS hl
      refine lv_iload_n hx hb dX12_four_3 rfl (lv_at hl 2 rfl) ?_
      refine lv_if_lt (tgt := 36) hx hb dX12_four_4 (by decide) (fun c1 => ?_) (fun c1 => ?_)
      · have h := h.1 c1
        rw [← hQ]
        exact cRetV (ms, ma) hx hb hr hlocks hS hP hD h dX12_four_36
      · have h := h.2 c1
        refine lv_aload_n hx hb dX12_four_7 rfl (lv_at hl 0 rfl) ?_
        refine va_get (D := D) (ci := 12) (v := .ref (aM 5)) (C := RX12) (T := TX12) (N := 51) hx hb hw inW_X12 hown hK hP 0 rfl rfl 5 (by decide) (hw _ mw_6_48) (fun _ h9 => h9) rfl dX12_four_8 ?_
        refine lv_aload_n hx hb dX12_four_11 rfl (lv_at hl 0 rfl) ?_
        refine va_get (D := D) (ci := 12) (v := .int (ms 1)) (C := RX12) (T := TX12) (N := 51) hx hb hw inW_X12 hown hK hP 0 rfl rfl 6 (by decide) (hw _ mw_6_49) (fun _ h9 => h9) rfl dX12_four_12 ?_
        refine lv_iload_n hx hb dX12_four_15 rfl (lv_at hl 1 rfl) ?_
        refine lv_iload_n hx hb dX12_four_16 rfl (lv_at hl 2 rfl) ?_
        refine lv_ishr hx hb dX12_four_17 ?_
        refine lv_i2b hx hb dX12_four_18 rfl ?_
        refine cBast hx hb hK hP hD hS 5 2 rfl rfl ((ms 1).toNatClampNeg) rfl h.1 dX12_four_19 (fun H locs hP hD hS => ?_)
        have h := h.2
        refine lv_aload_n hx hb dX12_four_20 rfl (lv_at hl 0 rfl) ?_
        refine lv_dup hx hb dX12_four_21 rfl ?_
        refine va_get (D := D) (ci := 12) (v := .int (ms 1)) (C := RX12) (T := TX12) (N := 51) hx hb hw inW_X12 hown hK hP 0 rfl rfl 6 (by decide) (hw _ mw_6_49) (fun _ h9 => h9) rfl dX12_four_22 ?_
        refine lv_iconst (v := 1) hx hb dX12_four_25 (by decide) ?_
        refine lv_iadd hx hb dX12_four_26 ?_
        refine lv_topi (fun x2 ex2 => ?_)
        have h := h x2 ex2
        refine va_put (D := D) (ci := 12) (v := .int x2) (ty := .int) (C := RX12) (T := TX12) (N := 51) hx hb hw inW_X12 tyX12 tyX12_ok nmX12 hown hK hP hD hS 0 rfl rfl 6 (by decide) (hw _ mw_6_49) (fun _ h9 => h9) rfl (by decide +kernel) rfl rfl (Nat.le_of_ble_eq_true rfl) dX12_four_27 (fun H locs hP hD hS => ?_)
        refine lv_iinc (v := (x2_ + (-8))) (lv' := [(2, .int (x2_ + (-8))), (0, .ref (aM 0)), (1, .int p1)]) hx hb dX12_four_30 hl (k := 2) rfl rfl (by decide) rfl (fun ls hl => ?_)
        refine lv_goto (tgt := 3) hx hb dX12_four_33 (by decide) ?_
        have hP : va_P D vwCl (List.flatten (wM aM C (va_up ms 1 x2) mw (va_up ma 2 (upd (ma 2) ((ms 1).toNatClampNeg) (((p1 >>> (x2_ &&& 31)).toInt8.toInt32).toInt8.toInt32))) ml)) H := hP
        have hD : va_D A (List.flatten (wM aM C (va_up ms 1 x2) mw (va_up ma 2 (upd (ma 2) ((ms 1).toNatClampNeg) (((p1 >>> (x2_ &&& 31)).toInt8.toInt32).toInt8.toInt32))) ml)) := hD
        exact ih3 (x2_ + (-8)) (va_up ms 1 x2) (va_up ma 2 (upd (ma 2) ((ms 1).toNatClampNeg) (((p1 >>> (x2_ &&& 31)).toInt8.toInt32).toInt8.toInt32))) _ _ _ h hP hD hS (lv_sub hl [1, 2, 0] rfl)
  refine lv_bipush (v := 24) hx hb dX12_four_0 (by decide) ?_
  refine lv_istore_n (lv' := [(2, .int 24), (0, .ref (aM 0)), (1, .int p1)]) hx hb dX12_four_2 rfl hl (by decide) rfl (fun ls hl => ?_)
  obtain ⟨n, h⟩ := h
  exact N3  n 24 ms ma _ _ _ h hP hD hS (lv_sub hl [1, 2, 0] rfl)
abbrev vsX12_feed : List Cond := Cond.code yX12_feed cX12_feed 6 (some .int) :: WS
abbrev rmX12_feed : Room := { frames := 1, cells := 0, slots := 0, locals := 22 }
set_option maxHeartbeats 4000000 in
set_option maxRecDepth 100000 in
theorem k_X12_feed (l : Launch) (D : va_G) (C : Nat → ClassId) (sz : Nat) (aM : Nat → Nat)  (ms : Nat → Int32) (mw : Nat → Int64) (ma : Nat → Nat → Int32) (ml : Nat → Nat → Int64) (p1 : Int32) (p2 : Int32) (p3 : Int32) (p4 : Int32) (p5 : Int32) {post : Int32 → (Nat → Int32) → (Nat → Nat → Int32) → Prop} (h : P_X12_feed ms ma p1 p2 p3 p4 p5 post) : Met l yX12_feed vsX12_feed rmX12_feed (cPre D C [.ref (aM 0), .int p1, .int p2, .int p3, .int p4, .int p5] sz (wM aM C ms mw ma ml)) (cQi D (fun (r : Int32) (u : (Nat → Int32) × (Nat → Nat → Int32)) => post r u.1 u.2) (fun u => wM aM C u.1 mw u.2 ml) (va_A (List.flatten (wM aM C ms mw ma ml)) sz)) 0 0 (va_A (List.flatten (wM aM C ms mw ma ml)) sz) := by
  refine cStart (QA := fun A => cQi D (fun (r : Int32) (u : (Nat → Int32) × (Nat → Nat → Int32)) => post r u.1 u.2) (fun u => wM aM C u.1 mw u.2 ml) A) (cc := cX12_feed) (maxL := 6) (ret := (some .int)) (by decide) (Nat.le_of_ble_eq_true rfl) ?_
  intro p e s m args below meth c A ls hx hb hr hml hown hw hlocks hname hK hN hA hP hD hS hl
  generalize hQ : MQ below _ args s 0 0 A = Q
  have hl : lv_has ls 6 [(0, .ref (aM 0)), (1, .int p1), (2, .int p2), (3, .int p3), (4, .int p4), (5, .int p5)] := hl
  obtain ⟨H, hH⟩ : ∃ H, H = s.heap := ⟨_, rfl⟩
  obtain ⟨locs, hlo⟩ : ∃ z : List Loc, z = [] := ⟨_, rfl⟩
  have hP : va_P D vwCl (List.flatten (wM aM C ms mw ma ml)) H := by rw [hH]; exact hP
  have hS : va_S A s.heap H locs := by rw [hH, hlo]; exact hS
  rw [show W p l e rmX12_feed s m args below meth c s.heap [] 0 0 Q (F0 m 0 ls []) = W p l e rmX12_feed s m args below meth c H locs 0 0 Q (F0 m 0 ls []) from by rw [hH, hlo]]
  refine lv_aload_n hx hb dX12_feed_0 rfl (lv_at hl 0 rfl) ?_
  refine lv_iconst (v := 0) hx hb dX12_feed_1 (by decide) ?_
  refine va_put (D := D) (ci := 12) (v := .int 0) (ty := .int) (C := RX12) (T := TX12) (N := 51) hx hb hw inW_X12 tyX12 tyX12_ok nmX12 hown hK hP hD hS 0 rfl rfl 0 (by decide) (hw _ mw_6_43) (fun _ h9 => h9) rfl (by decide +kernel) rfl rfl (Nat.le_of_ble_eq_true rfl) dX12_feed_2 (fun H locs hP hD hS => ?_)
  refine lv_aload_n hx hb dX12_feed_5 rfl (lv_at hl 0 rfl) ?_
  refine va_get (D := D) (ci := 12) (v := .int (ms 1)) (C := RX12) (T := TX12) (N := 51) hx hb hw inW_X12 hown hK hP 0 rfl rfl 6 (by decide) (hw _ mw_6_49) (fun _ h9 => h9) rfl dX12_feed_6 ?_
  refine lv_bipush (v := 20) hx hb dX12_feed_9 (by decide) ?_
  refine lv_iadd hx hb dX12_feed_11 ?_
  refine lv_sipush (v := 1600) hx hb dX12_feed_12 (by decide) ?_
  refine lv_icmp_le (tgt := 20) hx hb dX12_feed_15 (by decide) (fun c1 => ?_) (fun c1 => ?_)
  · have h := h.1 c1
    refine lv_aload_n hx hb dX12_feed_20 rfl (lv_at hl 0 rfl) ?_
    refine lv_iload_n hx hb dX12_feed_21 rfl (lv_at hl 1 rfl) ?_
    have hP : va_P D vwCl (List.flatten (wM aM C (va_up ms 0 0) mw ma ml)) H := hP
    have hD : va_D A (List.flatten (wM aM C (va_up ms 0 0) mw ma ml)) := hD
    refine cGoV (wo := fun u => wM aM C u.1 mw u.2 ml) (cRunV (As := [.int p1]) (rest := []) ⟨hx, hb, hml, hown, hw⟩ hK hN hP hD [0, 1, 2, 3, 4, 5, 6, 7, 8, 9, 10, 11, 12, 13, 14, 15, 16, 17, 18, 19, 20, 21, 22, 23, 24, 25, 26, 27, 28, 29, 30, 31, 32] rfl rfl (k_X12_four l D C _ aM  (va_up ms 0 0) mw ma ml p1 h) (cwV 1 hw (goodV mw_6_223 mw_6_225 mw_s108 mw_1_13 mw_6_226) rfl rfl rfl (by decide +kernel) ⟨Nat.le_of_ble_eq_true rfl, Nat.le_of_ble_eq_true rfl⟩) rfl rfl rfl hl.1 rfl (Nat.le_of_ble_eq_true rfl) dX12_feed_22 ⟨Nat.zero_le _, Nat.zero_le _⟩) hP hD hS hA [0, 1, 2, 3, 4, 5, 6, 7, 8, 9, 10, 11, 12, 13, 14, 15, 16, 17, 18, 19, 20, 21, 22, 23, 24, 25, 26, 27, 28, 29, 30, 31, 32] [] [0, 1, 2, 3, 4, 5, 6, 7, 8, 9, 10, 11, 12, 13, 14, 15, 16, 17, 18, 19, 20, 21, 22, 23, 24, 25, 26, 27, 28, 29, 30, 31, 32] rfl rfl rfl (by decide) rfl (fun _ => rfl) (fun u H locs h hP hD hS => ?_)
    obtain ⟨ms_2, ma_3⟩ := u
    have hP : va_P D vwCl (List.flatten (wM aM C ms_2 mw ma_3 ml)) H := hP
    have hD : va_D A (List.flatten (wM aM C ms_2 mw ma_3 ml)) := hD
    refine lv_aload_n hx hb dX12_feed_25 rfl (lv_at hl 0 rfl) ?_
    refine lv_iload_n hx hb dX12_feed_26 rfl (lv_at hl 2 rfl) ?_
    refine cGoV (wo := fun u => wM aM C u.1 mw u.2 ml) (cRunV (As := [.int p2]) (rest := []) ⟨hx, hb, hml, hown, hw⟩ hK hN hP hD [0, 1, 2, 3, 4, 5, 6, 7, 8, 9, 10, 11, 12, 13, 14, 15, 16, 17, 18, 19, 20, 21, 22, 23, 24, 25, 26, 27, 28, 29, 30, 31, 32] rfl rfl (k_X12_four l D C _ aM  ms_2 mw ma_3 ml p2 h) (cwV 1 hw (goodV mw_6_223 mw_6_225 mw_s108 mw_1_13 mw_6_226) rfl rfl rfl (by decide +kernel) ⟨Nat.le_of_ble_eq_true rfl, Nat.le_of_ble_eq_true rfl⟩) rfl rfl rfl hl.1 rfl (Nat.le_of_ble_eq_true rfl) dX12_feed_27 ⟨Nat.zero_le _, Nat.zero_le _⟩) hP hD hS hA [0, 1, 2, 3, 4, 5, 6, 7, 8, 9, 10, 11, 12, 13, 14, 15, 16, 17, 18, 19, 20, 21, 22, 23, 24, 25, 26, 27, 28, 29, 30, 31, 32] [] [0, 1, 2, 3, 4, 5, 6, 7, 8, 9, 10, 11, 12, 13, 14, 15, 16, 17, 18, 19, 20, 21, 22, 23, 24, 25, 26, 27, 28, 29, 30, 31, 32] rfl rfl rfl (by decide) rfl (fun _ => rfl) (fun u H locs h hP hD hS => ?_)
    obtain ⟨ms_4, ma_5⟩ := u
    have hP : va_P D vwCl (List.flatten (wM aM C ms_4 mw ma_5 ml)) H := hP
    have hD : va_D A (List.flatten (wM aM C ms_4 mw ma_5 ml)) := hD
    refine lv_aload_n hx hb dX12_feed_30 rfl (lv_at hl 0 rfl) ?_
    refine lv_iload_n hx hb dX12_feed_31 rfl (lv_at hl 3 rfl) ?_
    refine cGoV (wo := fun u => wM aM C u.1 mw u.2 ml) (cRunV (As := [.int p3]) (rest := []) ⟨hx, hb, hml, hown, hw⟩ hK hN hP hD [0, 1, 2, 3, 4, 5, 6, 7, 8, 9, 10, 11, 12, 13, 14, 15, 16, 17, 18, 19, 20, 21, 22, 23, 24, 25, 26, 27, 28, 29, 30, 31, 32] rfl rfl (k_X12_four l D C _ aM  ms_4 mw ma_5 ml p3 h) (cwV 1 hw (goodV mw_6_223 mw_6_225 mw_s108 mw_1_13 mw_6_226) rfl rfl rfl (by decide +kernel) ⟨Nat.le_of_ble_eq_true rfl, Nat.le_of_ble_eq_true rfl⟩) rfl rfl rfl hl.1 rfl (Nat.le_of_ble_eq_true rfl) dX12_feed_32 ⟨Nat.zero_le _, Nat.zero_le _⟩) hP hD hS hA [0, 1, 2, 3, 4, 5, 6, 7, 8, 9, 10, 11, 12, 13, 14, 15, 16, 17, 18, 19, 20, 21, 22, 23, 24, 25, 26, 27, 28, 29, 30, 31, 32] [] [0, 1, 2, 3, 4, 5, 6, 7, 8, 9, 10, 11, 12, 13, 14, 15, 16, 17, 18, 19, 20, 21, 22, 23, 24, 25, 26, 27, 28, 29, 30, 31, 32] rfl rfl rfl (by decide) rfl (fun _ => rfl) (fun u H locs h hP hD hS => ?_)
    obtain ⟨ms_6, ma_7⟩ := u
    have hP : va_P D vwCl (List.flatten (wM aM C ms_6 mw ma_7 ml)) H := hP
    have hD : va_D A (List.flatten (wM aM C ms_6 mw ma_7 ml)) := hD
    refine lv_aload_n hx hb dX12_feed_35 rfl (lv_at hl 0 rfl) ?_
    refine lv_iload hx hb dX12_feed_36 (lv_at hl 4 rfl) ?_
    refine cGoV (wo := fun u => wM aM C u.1 mw u.2 ml) (cRunV (As := [.int p4]) (rest := []) ⟨hx, hb, hml, hown, hw⟩ hK hN hP hD [0, 1, 2, 3, 4, 5, 6, 7, 8, 9, 10, 11, 12, 13, 14, 15, 16, 17, 18, 19, 20, 21, 22, 23, 24, 25, 26, 27, 28, 29, 30, 31, 32] rfl rfl (k_X12_four l D C _ aM  ms_6 mw ma_7 ml p4 h) (cwV 1 hw (goodV mw_6_223 mw_6_225 mw_s108 mw_1_13 mw_6_226) rfl rfl rfl (by decide +kernel) ⟨Nat.le_of_ble_eq_true rfl, Nat.le_of_ble_eq_true rfl⟩) rfl rfl rfl hl.1 rfl (Nat.le_of_ble_eq_true rfl) dX12_feed_38 ⟨Nat.zero_le _, Nat.zero_le _⟩) hP hD hS hA [0, 1, 2, 3, 4, 5, 6, 7, 8, 9, 10, 11, 12, 13, 14, 15, 16, 17, 18, 19, 20, 21, 22, 23, 24, 25, 26, 27, 28, 29, 30, 31, 32] [] [0, 1, 2, 3, 4, 5, 6, 7, 8, 9, 10, 11, 12, 13, 14, 15, 16, 17, 18, 19, 20, 21, 22, 23, 24, 25, 26, 27, 28, 29, 30, 31, 32] rfl rfl rfl (by decide) rfl (fun _ => rfl) (fun u H locs h hP hD hS => ?_)
    obtain ⟨ms_8, ma_9⟩ := u
    have hP : va_P D vwCl (List.flatten (wM aM C ms_8 mw ma_9 ml)) H := hP
    have hD : va_D A (List.flatten (wM aM C ms_8 mw ma_9 ml)) := hD
    refine lv_aload_n hx hb dX12_feed_41 rfl (lv_at hl 0 rfl) ?_
    refine lv_iload hx hb dX12_feed_42 (lv_at hl 5 rfl) ?_
    refine cGoV (wo := fun u => wM aM C u.1 mw u.2 ml) (cRunV (As := [.int p5]) (rest := []) ⟨hx, hb, hml, hown, hw⟩ hK hN hP hD [0, 1, 2, 3, 4, 5, 6, 7, 8, 9, 10, 11, 12, 13, 14, 15, 16, 17, 18, 19, 20, 21, 22, 23, 24, 25, 26, 27, 28, 29, 30, 31, 32] rfl rfl (k_X12_four l D C _ aM  ms_8 mw ma_9 ml p5 h) (cwV 1 hw (goodV mw_6_223 mw_6_225 mw_s108 mw_1_13 mw_6_226) rfl rfl rfl (by decide +kernel) ⟨Nat.le_of_ble_eq_true rfl, Nat.le_of_ble_eq_true rfl⟩) rfl rfl rfl hl.1 rfl (Nat.le_of_ble_eq_true rfl) dX12_feed_44 ⟨Nat.zero_le _, Nat.zero_le _⟩) hP hD hS hA [0, 1, 2, 3, 4, 5, 6, 7, 8, 9, 10, 11, 12, 13, 14, 15, 16, 17, 18, 19, 20, 21, 22, 23, 24, 25, 26, 27, 28, 29, 30, 31, 32] [] [0, 1, 2, 3, 4, 5, 6, 7, 8, 9, 10, 11, 12, 13, 14, 15, 16, 17, 18, 19, 20, 21, 22, 23, 24, 25, 26, 27, 28, 29, 30, 31, 32] rfl rfl rfl (by decide) rfl (fun _ => rfl) (fun u H locs h hP hD hS => ?_)
    obtain ⟨ms_10, ma_11⟩ := u
    have hP : va_P D vwCl (List.flatten (wM aM C ms_10 mw ma_11 ml)) H := hP
    have hD : va_D A (List.flatten (wM aM C ms_10 mw ma_11 ml)) := hD
    refine lv_aload_n hx hb dX12_feed_47 rfl (lv_at hl 0 rfl) ?_
    refine va_get (D := D) (ci := 12) (v := .int (ms_10 1)) (C := RX12) (T := TX12) (N := 51) hx hb hw inW_X12 hown hK hP 0 rfl rfl 6 (by decide) (hw _ mw_6_49) (fun _ h9 => h9) rfl dX12_feed_48 ?_
    rw [← hQ]
    exact cRetI (v := (ms_10 1)) (ms_10, ma_11) hx hb hr hlocks hS hP hD h dX12_feed_51
  · have h := h.2 c1
    refine lv_iconst (v := (-1)) hx hb dX12_feed_18 (by decide) ?_
    have hP : va_P D vwCl (List.flatten (wM aM C (va_up ms 0 0) mw ma ml)) H := hP
    have hD : va_D A (List.flatten (wM aM C (va_up ms 0 0) mw ma ml)) := hD
    rw [← hQ]
    exact cRetI (v := (-1)) ((va_up ms 0 0), ma) hx hb hr hlocks hS hP hD h dX12_feed_19
abbrev vsX12_end : List Cond := Cond.code yX12_end cX12_end 2 (some .int) :: WS
abbrev rmX12_end : Room := { frames := 1, cells := 0, slots := 0, locals := 25 }
set_option maxHeartbeats 4000000 in
set_option maxRecDepth 100000 in
theorem k_X12_end (l : Launch) (D : va_G) (C : Nat → ClassId) (sz : Nat) (aM : Nat → Nat)  (ms : Nat → Int32) (mw : Nat → Int64) (ma : Nat → Nat → Int32) (ml : Nat → Nat → Int64) (p1 : Int32) {post : Int32 → (Nat → Int32) → Prop} (h : P_X12_end ms p1 post) : Met l yX12_end vsX12_end rmX12_end (cPre D C [.ref (aM 0), .int p1] sz (wM aM C ms mw ma ml)) (cQi D (fun (r : Int32) (u : (Nat → Int32)) => post r u) (fun u => wM aM C u mw ma ml) (va_A (List.flatten (wM aM C ms mw ma ml)) sz)) 0 0 (va_A (List.flatten (wM aM C ms mw ma ml)) sz) := by
  refine cStart (QA := fun A => cQi D (fun (r : Int32) (u : (Nat → Int32)) => post r u) (fun u => wM aM C u mw ma ml) A) (cc := cX12_end) (maxL := 2) (ret := (some .int)) (by decide) (Nat.le_of_ble_eq_true rfl) ?_
  intro p e s m args below meth c A ls hx hb hr hml hown hw hlocks hname hK hN hA hP hD hS hl
  generalize hQ : MQ below _ args s 0 0 A = Q
  have hl : lv_has ls 2 [(0, .ref (aM 0)), (1, .int p1)] := hl
  obtain ⟨H, hH⟩ : ∃ H, H = s.heap := ⟨_, rfl⟩
  obtain ⟨locs, hlo⟩ : ∃ z : List Loc, z = [] := ⟨_, rfl⟩
  have hP : va_P D vwCl (List.flatten (wM aM C ms mw ma ml)) H := by rw [hH]; exact hP
  have hS : va_S A s.heap H locs := by rw [hH, hlo]; exact hS
  rw [show W p l e rmX12_end s m args below meth c s.heap [] 0 0 Q (F0 m 0 ls []) = W p l e rmX12_end s m args below meth c H locs 0 0 Q (F0 m 0 ls []) from by rw [hH, hlo]]
  refine lv_aload_n hx hb dX12_end_0 rfl (lv_at hl 0 rfl) ?_
  refine lv_iconst (v := 0) hx hb dX12_end_1 (by decide) ?_
  refine va_put (D := D) (ci := 12) (v := .int 0) (ty := .int) (C := RX12) (T := TX12) (N := 51) hx hb hw inW_X12 tyX12 tyX12_ok nmX12 hown hK hP hD hS 0 rfl rfl 0 (by decide) (hw _ mw_6_43) (fun _ h9 => h9) rfl (by decide +kernel) rfl rfl (Nat.le_of_ble_eq_true rfl) dX12_end_2 (fun H locs hP hD hS => ?_)
  refine lv_iload_n hx hb dX12_end_5 rfl (lv_at hl 1 rfl) ?_
  refine lv_i2l hx hb dX12_end_6 rfl ?_
  refine lv_lconst (v := 0) hx hb dX12_end_7 (by decide) ?_
  refine lv_aload_n hx hb dX12_end_8 rfl (lv_at hl 0 rfl) ?_
  refine va_get (D := D) (ci := 12) (v := .int (ms 1)) (C := RX12) (T := TX12) (N := 51) hx hb hw inW_X12 hown hK hP 0 rfl rfl 6 (by decide) (hw _ mw_6_49) (fun _ h9 => h9) rfl dX12_end_9 ?_
  refine lv_i2l hx hb dX12_end_12 rfl ?_
  have hP : va_P D vwCl (List.flatten (wM aM C (va_up ms 0 0) mw ma ml)) H := hP
  have hD : va_D A (List.flatten (wM aM C (va_up ms 0 0) mw ma ml)) := hD
  refine cGoI (wo := fun u => wM aM C (va_up ms 0 0) mw ma ml) (cRunS (As := [.long p1.toInt64, .long 0, .long ((ms 1).toInt64)]) (rest := []) ⟨hx, hb, hml, hown, hw⟩ hK hN hP hD [] rfl rfl (k_X12_in l D C _    p1.toInt64 0 ((ms 1).toInt64) h) (va_cwS 3 hw (goodS mw_6_205 mw_6_206 mw_1_13 mw_6_207) rfl rfl rfl (by decide +kernel) ⟨Nat.le_of_ble_eq_true rfl, Nat.le_of_ble_eq_true rfl⟩) rfl hl.1 rfl (Nat.le_of_ble_eq_true rfl) dX12_end_13 ⟨Nat.zero_le _, Nat.zero_le _⟩) hP hD hS hA [] [0, 1, 2, 3, 4, 5, 6, 7, 8, 9, 10, 11, 12, 13, 14, 15, 16, 17, 18, 19, 20, 21, 22, 23, 24, 25, 26, 27, 28, 29, 30, 31, 32] [0, 1, 2, 3, 4, 5, 6, 7, 8, 9, 10, 11, 12, 13, 14, 15, 16, 17, 18, 19, 20, 21, 22, 23, 24, 25, 26, 27, 28, 29, 30, 31, 32] rfl rfl rfl (by decide) rfl (fun _ => rfl) (fun r1 u H locs h hP hD hS => ?_)
  have hP : va_P D vwCl (List.flatten (wM aM C (va_up ms 0 0) mw ma ml)) H := hP
  have hD : va_D A (List.flatten (wM aM C (va_up ms 0 0) mw ma ml)) := hD
  refine lv_if_ne (tgt := 21) hx hb dX12_end_16 (by decide) (fun c2 => ?_) (fun c2 => ?_)
  · have h := h.1 c2
    refine lv_aload_n hx hb dX12_end_21 rfl (lv_at hl 0 rfl) ?_
    refine lv_iload_n hx hb dX12_end_22 rfl (lv_at hl 1 rfl) ?_
    refine va_put (D := D) (ci := 12) (v := .int p1) (ty := .int) (C := RX12) (T := TX12) (N := 51) hx hb hw inW_X12 tyX12 tyX12_ok nmX12 hown hK hP hD hS 0 rfl rfl 6 (by decide) (hw _ mw_6_49) (fun _ h9 => h9) rfl (by decide +kernel) rfl rfl (Nat.le_of_ble_eq_true rfl) dX12_end_23 (fun H locs hP hD hS => ?_)
    refine lv_iload_n hx hb dX12_end_26 rfl (lv_at hl 1 rfl) ?_
    have hP : va_P D vwCl (List.flatten (wM aM C (va_up (va_up ms 0 0) 1 p1) mw ma ml)) H := hP
    have hD : va_D A (List.flatten (wM aM C (va_up (va_up ms 0 0) 1 p1) mw ma ml)) := hD
    rw [← hQ]
    exact cRetI (v := p1) ((va_up (va_up ms 0 0) 1 p1)) hx hb hr hlocks hS hP hD h dX12_end_27
  · have h := h.2 c2
    refine lv_iconst (v := (-1)) hx hb dX12_end_19 (by decide) ?_
    rw [← hQ]
    exact cRetI (v := (-1)) ((va_up ms 0 0)) hx hb hr hlocks hS hP hD h dX12_end_20
abbrev vsX12_isByte : List Cond := Cond.code yX12_isByte cX12_isByte 4 (some .boolean) :: WS
abbrev rmX12_isByte : Room := { frames := 0, cells := 0, slots := 0, locals := 0 }
set_option maxHeartbeats 4000000 in
set_option maxRecDepth 100000 in
theorem k_X12_isByte (l : Launch) (D : va_G) (C : Nat → ClassId) (sz : Nat) (aM : Nat → Nat)  (ms : Nat → Int32) (mw : Nat → Int64) (ma : Nat → Nat → Int32) (ml : Nat → Nat → Int64) (p1 : Int32) (p2 : Int32) (p3 : Int32) {post : Int32 → Prop} (h : P_X12_isByte ms ma p1 p2 p3 post) : Met l yX12_isByte vsX12_isByte rmX12_isByte (cPre D C [.ref (aM 0), .int p1, .int p2, .int p3] sz (wM aM C ms mw ma ml)) (cQi D (fun (r : Int32) (u : Unit) => post r ) (fun u => wM aM C ms mw ma ml) (va_A (List.flatten (wM aM C ms mw ma ml)) sz)) 0 0 (va_A (List.flatten (wM aM C ms mw ma ml)) sz) := by
  refine cStart (QA := fun A => cQi D (fun (r : Int32) (u : Unit) => post r ) (fun u => wM aM C ms mw ma ml) A) (cc := cX12_isByte) (maxL := 4) (ret := (some .boolean)) (by decide) (Nat.le_of_ble_eq_true rfl) ?_
  intro p e s m args below meth c A ls hx hb hr hml hown hw hlocks hname hK hN hA hP hD hS hl
  generalize hQ : MQ below _ args s 0 0 A = Q
  have hl : lv_has ls 4 [(0, .ref (aM 0)), (1, .int p1), (2, .int p2), (3, .int p3)] := hl
  obtain ⟨H, hH⟩ : ∃ H, H = s.heap := ⟨_, rfl⟩
  obtain ⟨locs, hlo⟩ : ∃ z : List Loc, z = [] := ⟨_, rfl⟩
  have hP : va_P D vwCl (List.flatten (wM aM C ms mw ma ml)) H := by rw [hH]; exact hP
  have hS : va_S A s.heap H locs := by rw [hH, hlo]; exact hS
  rw [show W p l e rmX12_isByte s m args below meth c s.heap [] 0 0 Q (F0 m 0 ls []) = W p l e rmX12_isByte s m args below meth c H locs 0 0 Q (F0 m 0 ls []) from by rw [hH, hlo]]
  refine lv_iload_n hx hb dX12_isByte_0 rfl (lv_at hl 1 rfl) ?_
  refine lv_aload_n hx hb dX12_isByte_1 rfl (lv_at hl 0 rfl) ?_
  refine va_get (D := D) (ci := 12) (v := .int (ms 1)) (C := RX12) (T := TX12) (N := 51) hx hb hw inW_X12 hown hK hP 0 rfl rfl 6 (by decide) (hw _ mw_6_49) (fun _ h9 => h9) rfl dX12_isByte_2 ?_
  refine lv_icmp_ge (tgt := 32) hx hb dX12_isByte_5 (by decide) (fun c1 => ?_) (fun c1 => ?_)
  · have h := h.1 c1
    refine lv_iconst (v := 0) hx hb dX12_isByte_32 (by decide) ?_
    rw [← hQ]
    exact cRetZ (v := 0) () hx hb hr hlocks hS hP hD (Or.inl rfl) h dX12_isByte_33
  · have h := h.2 c1
    refine lv_aload_n hx hb dX12_isByte_8 rfl (lv_at hl 0 rfl) ?_
    refine va_get (D := D) (ci := 12) (v := .ref (aM 5)) (C := RX12) (T := TX12) (N := 51) hx hb hw inW_X12 hown hK hP 0 rfl rfl 5 (by decide) (hw _ mw_6_48) (fun _ h9 => h9) rfl dX12_isByte_9 ?_
    refine lv_iload_n hx hb dX12_isByte_12 rfl (lv_at hl 1 rfl) ?_
    refine cBald hx hb hK hP 5 2 rfl rfl p1.toNatClampNeg rfl h.1 dX12_isByte_13 ?_
    have h := h.2
    refine lv_iload_n hx hb dX12_isByte_14 rfl (lv_at hl 2 rfl) ?_
    refine lv_icmp_lt (tgt := 32) hx hb dX12_isByte_15 (by decide) (fun c2 => ?_) (fun c2 => ?_)
    · have h := h.1 c2
      refine lv_iconst (v := 0) hx hb dX12_isByte_32 (by decide) ?_
      rw [← hQ]
      exact cRetZ (v := 0) () hx hb hr hlocks hS hP hD (Or.inl rfl) h dX12_isByte_33
    · have h := h.2 c2
      refine lv_aload_n hx hb dX12_isByte_18 rfl (lv_at hl 0 rfl) ?_
      refine va_get (D := D) (ci := 12) (v := .ref (aM 5)) (C := RX12) (T := TX12) (N := 51) hx hb hw inW_X12 hown hK hP 0 rfl rfl 5 (by decide) (hw _ mw_6_48) (fun _ h9 => h9) rfl dX12_isByte_19 ?_
      refine lv_iload_n hx hb dX12_isByte_22 rfl (lv_at hl 1 rfl) ?_
      refine cBald hx hb hK hP 5 2 rfl rfl p1.toNatClampNeg rfl h.1 dX12_isByte_23 ?_
      have h := h.2
      refine lv_iload_n hx hb dX12_isByte_24 rfl (lv_at hl 3 rfl) ?_
      refine lv_icmp_gt (tgt := 32) hx hb dX12_isByte_25 (by decide) (fun c3 => ?_) (fun c3 => ?_)
      · have h := h.1 c3
        refine lv_iconst (v := 0) hx hb dX12_isByte_32 (by decide) ?_
        rw [← hQ]
        exact cRetZ (v := 0) () hx hb hr hlocks hS hP hD (Or.inl rfl) h dX12_isByte_33
      · have h := h.2 c3
        refine lv_iconst (v := 1) hx hb dX12_isByte_28 (by decide) ?_
        refine lv_goto (tgt := 33) hx hb dX12_isByte_29 (by decide) ?_
        rw [← hQ]
        exact cRetZ (v := 1) () hx hb hr hlocks hS hP hD (Or.inr rfl) h dX12_isByte_33
