abbrev vsX12_enough : List Cond := Cond.code yX12_enough cX12_enough 7 (some .int) :: WS
abbrev rmX12_enough : Room := { frames := 6, cells := 0, slots := 0, locals := 141 }
set_option maxHeartbeats 4000000 in
set_option maxRecDepth 100000 in
theorem k_X12_enough (l : Launch) (D : va_G) (C : Nat → ClassId) (sz : Nat) (aM : Nat → Nat)  (ms : Nat → Int32) (mw : Nat → Int64) (ma : Nat → Nat → Int32) (ml : Nat → Nat → Int64)  {post : Int32 → (Nat → Int32) → (Nat → Nat → Int32) → (Nat → Nat → Int64) → Prop} (h : P_X12_enough ms ma ml post) : Met l yX12_enough vsX12_enough rmX12_enough (cPre D C [.ref (aM 0)] sz (wM aM C ms mw ma ml)) (cQi D (fun (r : Int32) (u : (Nat → Int32) × (Nat → Nat → Int32) × (Nat → Nat → Int64)) => post r u.1 u.2.1 u.2.2) (fun u => wM aM C u.1 mw u.2.1 u.2.2) (va_A (List.flatten (wM aM C ms mw ma ml)) sz)) 0 0 (va_A (List.flatten (wM aM C ms mw ma ml)) sz) := by
  refine cStart (QA := fun A => cQi D (fun (r : Int32) (u : (Nat → Int32) × (Nat → Nat → Int32) × (Nat → Nat → Int64)) => post r u.1 u.2.1 u.2.2) (fun u => wM aM C u.1 mw u.2.1 u.2.2) A) (cc := cX12_enough) (maxL := 7) (ret := (some .int)) (by decide) (Nat.le_of_ble_eq_true rfl) ?_
  intro p e s m args below meth c A ls hx hb hr hml hown hw hlocks hname hK hN hA hP hD hS hl
  generalize hQ : MQ below _ args s 0 0 A = Q
  have hl : lv_has ls 7 [(0, .ref (aM 0))] := hl
  obtain ⟨H, hH⟩ : ∃ H, H = s.heap := ⟨_, rfl⟩
  obtain ⟨locs, hlo⟩ : ∃ z : List Loc, z = [] := ⟨_, rfl⟩
  have hP : va_P D vwCl (List.flatten (wM aM C ms mw ma ml)) H := by rw [hH]; exact hP
  have hS : va_S A s.heap H locs := by rw [hH, hlo]; exact hS
  rw [show W p l e rmX12_enough s m args below meth c s.heap [] 0 0 Q (F0 m 0 ls []) = W p l e rmX12_enough s m args below meth c H locs 0 0 Q (F0 m 0 ls []) from by rw [hH, hlo]]
  have N31 : ∀ (ms : Nat → Int32) (ma : Nat → Nat → Int32) (ml : Nat → Nat → Int64) (n31 : Nat) (x1_ : Int64) (x3_ : Int32) (x4_ : Int32) (H : Heap) (locs : List Loc) (ls : Array Slot), P_X12_enough_31  post  ms ma ml n31 x1_ x3_ x4_ → va_P D vwCl (List.flatten (wM aM C ms mw ma ml)) H → va_D A (List.flatten (wM aM C ms mw ma ml)) → va_S A s.heap H locs → lv_has ls 7 [(0, .ref (aM 0)), (1, .long x1_), (3, .int x3_), (4, .int x4_)] → W p l e rmX12_enough s m args below meth c H locs 0 0 Q (F0 m 31 ls []) := by
    intro ms ma ml
    intro n31
    induction n31 with
    | zero => intro x1_ x3_ x4_ H locs ls h hP hD hS hl; exact False.elim h
    | succ n31 ih31 =>
      have N111 : ∀ (x1_ : Int64) (x3_ : Int32) (x4_ : Int32) (x5_ : Int32) (H : Heap) (locs : List Loc) (ls : Array Slot), P_X12_enough_111 ms ma ml post (P_X12_enough_31  post  ms ma ml n31) x1_ x3_ x4_ x5_ → va_P D vwCl (List.flatten (wM aM C ms mw ma ml)) H → va_D A (List.flatten (wM aM C ms mw ma ml)) → va_S A s.heap H locs → lv_has ls 7 [(0, .ref (aM 0)), (1, .long x1_), (3, .int x3_), (4, .int x4_), (5, .int x5_)] → W p l e rmX12_enough s m args below meth c H locs 0 0 Q (F0 m 111 ls []) := by
        intro x1_ x3_ x4_ x5_ H locs ls h hP hD hS hl
        refine lv_iload hx hb dX12_enough_111 (lv_at hl 4 rfl) ?_
        refine lv_iconst (v := (-1)) hx hb dX12_enough_113 (by decide) ?_
        refine lv_icmp_ne (tgt := 119) hx hb dX12_enough_114 (by decide) (fun c1 => ?_) (fun c1 => ?_)
        · have h := h.1 c1
          refine lv_iload_n hx hb dX12_enough_119 rfl (lv_at hl 2 rfl) ?_
          refine lv_iconst (v := 1) hx hb dX12_enough_120 (by decide) ?_
          refine lv_iload hx hb dX12_enough_121 (lv_at hl 4 rfl) ?_
          refine lv_ishl hx hb dX12_enough_123 ?_
          refine lv_ior hx hb dX12_enough_124 ?_
          refine lv_topi (fun x2 ex2 => ?_)
          have h := h x2 ex2
          refine lv_istore_n (lv' := [(3, .int x2), (0, .ref (aM 0)), (1, .long x1_), (4, .int x4_), (5, .int x5_)]) hx hb dX12_enough_125 rfl hl (by decide) rfl (fun ls hl => ?_)
          refine lv_lload_n hx hb dX12_enough_126 rfl (lv_at hl 2 rfl) ?_
          refine lv_aload_n hx hb dX12_enough_127 rfl (lv_at hl 1 rfl) ?_
          refine va_get (D := D) (ci := 12) (v := .ref (aM 28)) (C := RX12) (T := TX12) (N := 51) hx hb hw inW_X12 hown hK hP 0 rfl rfl 43 (by decide) (hw _ mw_6_86) (fun _ h9 => h9) rfl dX12_enough_128 ?_
          refine lv_iload hx hb dX12_enough_131 (lv_at hl 4 rfl) ?_
          refine cLald hx hb hK hP 28 1 rfl rfl x5_.toNatClampNeg rfl h.1 dX12_enough_133 ?_
          have h := h.2
          refine lv_lsub hx hb dX12_enough_134 ?_
          refine lv_topl (fun x3 ex3 => ?_)
          have h := h x3 ex3
          refine lv_lstore_n (lv' := [(1, .long x3), (3, .int x2), (0, .ref (aM 0)), (4, .int x4_), (5, .int x5_)]) hx hb dX12_enough_135 rfl hl (by decide) rfl (fun ls hl => ?_)
          refine lv_iinc (v := (x4_ + 1)) (lv' := [(4, .int (x4_ + 1)), (1, .long x3), (3, .int x2), (0, .ref (aM 0)), (5, .int x5_)]) hx hb dX12_enough_136 hl (k := 3) rfl rfl (by decide) rfl (fun ls hl => ?_)
          refine lv_goto (tgt := 31) hx hb dX12_enough_139 (by decide) ?_
          exact ih31 x3 x2 (x4_ + 1) _ _ _ h hP hD hS (lv_sub hl [3, 1, 2, 0] rfl)
        · have h := h.2 c1
          refine lv_iconst (v := (-1)) hx hb dX12_enough_117 (by decide) ?_
          rw [← hQ]
          exact cRetI (v := (-1)) (ms, ma, ml) hx hb hr hlocks hS hP hD h dX12_enough_118
      have N57 : ∀ (x1_ : Int64) (x3_ : Int32) (x4_ : Int32) (n57 : Nat) (x5_ : Int32) (x6_ : Int32) (H : Heap) (locs : List Loc) (ls : Array Slot), P_X12_enough_57 ms ma ml post (fun (x1_ : Int64) (x3_ : Int32) (x4_ : Int32) (x5_ : Int32) => P_X12_enough_111 ms ma ml post (P_X12_enough_31  post  ms ma ml n31) x1_ x3_ x4_ x5_) x1_ x3_ x4_ n57 x5_ x6_ → va_P D vwCl (List.flatten (wM aM C ms mw ma ml)) H → va_D A (List.flatten (wM aM C ms mw ma ml)) → va_S A s.heap H locs → lv_has ls 7 [(0, .ref (aM 0)), (1, .long x1_), (3, .int x3_), (4, .int x4_), (5, .int x5_), (6, .int x6_)] → W p l e rmX12_enough s m args below meth c H locs 0 0 Q (F0 m 57 ls []) := by
        intro x1_ x3_ x4_
        intro n57
        induction n57 with
        | zero => intro x5_ x6_ H locs ls h hP hD hS hl; exact False.elim h
        | succ n57 ih57 =>
          intro x5_ x6_ H locs ls h hP hD hS hl
          refine lv_iload hx hb dX12_enough_57 (lv_at hl 5 rfl) ?_
          refine lv_aload_n hx hb dX12_enough_59 rfl (lv_at hl 0 rfl) ?_
          refine va_get (D := D) (ci := 12) (v := .ref (aM 13)) (C := RX12) (T := TX12) (N := 51) hx hb hw inW_X12 hown hK hP 0 rfl rfl 23 (by decide) (hw _ mw_6_66) (fun _ h9 => h9) rfl dX12_enough_60 ?_
          refine lv_iconst (v := 0) hx hb dX12_enough_63 (by decide) ?_
          refine cIald hx hb hK hP 13 0 rfl rfl 0 (by decide +kernel) (cIn (by decide +kernel)) dX12_enough_64 ?_
          refine lv_icmp_ge (tgt := 111) hx hb dX12_enough_65 (by decide) (fun c4 => ?_) (fun c4 => ?_)
          · have h := h.1 c4
            exact N111 x1_ x3_ x4_ x5_ _ _ _ h hP hD hS (lv_sub hl [0, 1, 2, 3, 4] rfl)
          · have h := h.2 c4
            refine lv_iload_n hx hb dX12_enough_68 rfl (lv_at hl 2 rfl) ?_
            refine lv_iload hx hb dX12_enough_69 (lv_at hl 5 rfl) ?_
            refine lv_ishr hx hb dX12_enough_71 ?_
            refine lv_iconst (v := 1) hx hb dX12_enough_72 (by decide) ?_
            refine lv_iand hx hb dX12_enough_73 ?_
            refine lv_if_ne (tgt := 105) hx hb dX12_enough_74 (by decide) (fun c5 => ?_) (fun c5 => ?_)
            · have h := h.1 c5
              refine lv_iinc (v := (x6_ + 1)) (lv' := [(6, .int (x6_ + 1)), (0, .ref (aM 0)), (1, .long x1_), (3, .int x3_), (4, .int x4_), (5, .int x5_)]) hx hb dX12_enough_105 hl (k := 5) rfl rfl (by decide) rfl (fun ls hl => ?_)
              refine lv_goto (tgt := 57) hx hb dX12_enough_108 (by decide) ?_
              exact ih57 x5_ (x6_ + 1) _ _ _ h hP hD hS (lv_sub hl [1, 2, 3, 4, 5, 0] rfl)
            · have h := h.2 c5
              refine lv_iload hx hb dX12_enough_77 (lv_at hl 4 rfl) ?_
              refine lv_iconst (v := (-1)) hx hb dX12_enough_79 (by decide) ?_
              refine lv_icmp_eq (tgt := 101) hx hb dX12_enough_80 (by decide) (fun c6 => ?_) (fun c6 => ?_)
              · have h := h.1 c6
                refine lv_iload hx hb dX12_enough_101 (lv_at hl 5 rfl) ?_
                refine lv_istore (lv' := [(5, .int x6_), (0, .ref (aM 0)), (1, .long x1_), (3, .int x3_), (4, .int x4_), (6, .int x6_)]) hx hb dX12_enough_103 hl (by decide) rfl (fun ls hl => ?_)
                refine lv_iinc (v := (x6_ + 1)) (lv' := [(6, .int (x6_ + 1)), (5, .int x6_), (0, .ref (aM 0)), (1, .long x1_), (3, .int x3_), (4, .int x4_)]) hx hb dX12_enough_105 hl (k := 5) rfl rfl (by decide) rfl (fun ls hl => ?_)
                refine lv_goto (tgt := 57) hx hb dX12_enough_108 (by decide) ?_
                exact ih57 x6_ (x6_ + 1) _ _ _ h hP hD hS (lv_sub hl [2, 3, 4, 5, 1, 0] rfl)
              · have h := h.2 c6
                refine lv_aload_n hx hb dX12_enough_83 rfl (lv_at hl 0 rfl) ?_
                refine va_get (D := D) (ci := 12) (v := .ref (aM 28)) (C := RX12) (T := TX12) (N := 51) hx hb hw inW_X12 hown hK hP 0 rfl rfl 43 (by decide) (hw _ mw_6_86) (fun _ h9 => h9) rfl dX12_enough_84 ?_
                refine lv_iload hx hb dX12_enough_87 (lv_at hl 5 rfl) ?_
                refine cLald hx hb hK hP 28 1 rfl rfl x6_.toNatClampNeg rfl h.1 dX12_enough_89 ?_
                have h := h.2
                refine lv_aload_n hx hb dX12_enough_90 rfl (lv_at hl 0 rfl) ?_
                refine va_get (D := D) (ci := 12) (v := .ref (aM 28)) (C := RX12) (T := TX12) (N := 51) hx hb hw inW_X12 hown hK hP 0 rfl rfl 43 (by decide) (hw _ mw_6_86) (fun _ h9 => h9) rfl dX12_enough_91 ?_
                refine lv_iload hx hb dX12_enough_94 (lv_at hl 4 rfl) ?_
                refine cLald hx hb hK hP 28 1 rfl rfl x5_.toNatClampNeg rfl h.1 dX12_enough_96 ?_
                have h := h.2
                refine W.lcmp hx hb dX12_enough_97 ?_
                refine lv_if_le (tgt := 105) hx hb dX12_enough_98 (by decide) (fun c7 => ?_) (fun c7 => ?_)
                · have c7 : (ml 6 x6_.toNatClampNeg) ≤ (ml 6 x5_.toNatClampNeg) := (lg_cmp_le _ _).mp c7
                  have h := h.1 c7
                  refine lv_iinc (v := (x6_ + 1)) (lv' := [(6, .int (x6_ + 1)), (0, .ref (aM 0)), (1, .long x1_), (3, .int x3_), (4, .int x4_), (5, .int x5_)]) hx hb dX12_enough_105 hl (k := 5) rfl rfl (by decide) rfl (fun ls hl => ?_)
                  refine lv_goto (tgt := 57) hx hb dX12_enough_108 (by decide) ?_
                  exact ih57 x5_ (x6_ + 1) _ _ _ h hP hD hS (lv_sub hl [1, 2, 3, 4, 5, 0] rfl)
                · have c7 : ¬ (ml 6 x6_.toNatClampNeg) ≤ (ml 6 x5_.toNatClampNeg) := fun q => c7 ((lg_cmp_le _ _).mpr q)
                  have h := h.2 c7
                  refine lv_iload hx hb dX12_enough_101 (lv_at hl 5 rfl) ?_
                  refine lv_istore (lv' := [(5, .int x6_), (0, .ref (aM 0)), (1, .long x1_), (3, .int x3_), (4, .int x4_), (6, .int x6_)]) hx hb dX12_enough_103 hl (by decide) rfl (fun ls hl => ?_)
                  refine lv_iinc (v := (x6_ + 1)) (lv' := [(6, .int (x6_ + 1)), (5, .int x6_), (0, .ref (aM 0)), (1, .long x1_), (3, .int x3_), (4, .int x4_)]) hx hb dX12_enough_105 hl (k := 5) rfl rfl (by decide) rfl (fun ls hl => ?_)
                  refine lv_goto (tgt := 57) hx hb dX12_enough_108 (by decide) ?_
                  exact ih57 x6_ (x6_ + 1) _ _ _ h hP hD hS (lv_sub hl [2, 3, 4, 5, 1, 0] rfl)
      intro x1_ x3_ x4_ H locs ls h hP hD hS hl
      refine lv_iload hx hb dX12_enough_31 (lv_at hl 3 rfl) ?_
      refine lv_aload_n hx hb dX12_enough_33 rfl (lv_at hl 0 rfl) ?_
      refine va_get (D := D) (ci := 12) (v := .ref (aM 13)) (C := RX12) (T := TX12) (N := 51) hx hb hw inW_X12 hown hK hP 0 rfl rfl 23 (by decide) (hw _ mw_6_66) (fun _ h9 => h9) rfl dX12_enough_34 ?_
      refine lv_iconst (v := 0) hx hb dX12_enough_37 (by decide) ?_
      refine cIald hx hb hK hP 13 0 rfl rfl 0 (by decide +kernel) (cIn (by decide +kernel)) dX12_enough_38 ?_
      refine lv_icmp_gt (tgt := 142) hx hb dX12_enough_39 (by decide) (fun c8 => ?_) (fun c8 => ?_)
      · have h := h.1 c8
        refine lv_iconst (v := (-1)) hx hb dX12_enough_142 (by decide) ?_
        rw [← hQ]
        exact cRetI (v := (-1)) (ms, ma, ml) hx hb hr hlocks hS hP hD h dX12_enough_143
      · have h := h.2 c8
        refine lv_lload_n hx hb dX12_enough_42 rfl (lv_at hl 1 rfl) ?_
        refine lv_lconst (v := 0) hx hb dX12_enough_43 (by decide) ?_
        refine W.lcmp hx hb dX12_enough_44 ?_
        refine lv_if_gt (tgt := 51) hx hb dX12_enough_45 (by decide) (fun c9 => ?_) (fun c9 => ?_)
        · have c9 : 0 < x1_ := (lg_cmp_gt _ _).mp c9
          have h := h.1 c9
          refine lv_iconst (v := (-1)) hx hb dX12_enough_51 (by decide) ?_
          refine lv_istore (lv' := [(5, .int (-1)), (0, .ref (aM 0)), (1, .long x1_), (3, .int x3_), (4, .int x4_)]) hx hb dX12_enough_52 hl (by decide) rfl (fun ls hl => ?_)
          refine lv_iconst (v := 0) hx hb dX12_enough_54 (by decide) ?_
          refine lv_istore (lv' := [(6, .int 0), (5, .int (-1)), (0, .ref (aM 0)), (1, .long x1_), (3, .int x3_), (4, .int x4_)]) hx hb dX12_enough_55 hl (by decide) rfl (fun ls hl => ?_)
          obtain ⟨n, h⟩ := h
          exact N57 x1_ x3_ x4_ n (-1) 0 _ _ _ h hP hD hS (lv_sub hl [2, 3, 4, 5, 1, 0] rfl)
        · have c9 : ¬ 0 < x1_ := fun q => c9 ((lg_cmp_gt _ _).mpr q)
          have h := h.2 c9
          refine lv_iload hx hb dX12_enough_48 (lv_at hl 3 rfl) ?_
          rw [← hQ]
          exact cRetI (v := x4_) (ms, ma, ml) hx hb hr hlocks hS hP hD h dX12_enough_50
  refine lv_aload_n hx hb dX12_enough_0 rfl (lv_at hl 0 rfl) ?_
  refine lv_iconst (v := 0) hx hb dX12_enough_1 (by decide) ?_
  refine va_put (D := D) (ci := 12) (v := .int 0) (ty := .int) (C := RX12) (T := TX12) (N := 51) hx hb hw inW_X12 tyX12 tyX12_ok nmX12 hown hK hP hD hS 0 rfl rfl 0 (by decide) (hw _ mw_6_43) (fun _ h9 => h9) rfl (by decide +kernel) rfl rfl (Nat.le_of_ble_eq_true rfl) dX12_enough_2 (fun H locs hP hD hS => ?_)
  refine lv_aload_n hx hb dX12_enough_5 rfl (lv_at hl 0 rfl) ?_
  refine va_get (D := D) (ci := 12) (v := .ref (aM 17)) (C := RX12) (T := TX12) (N := 51) hx hb hw inW_X12 hown hK hP 0 rfl rfl 27 (by decide) (hw _ mw_6_70) (fun _ h9 => h9) rfl dX12_enough_6 ?_
  refine lv_iconst (v := 3) hx hb dX12_enough_9 (by decide) ?_
  refine cIald hx hb hK hP 17 0 rfl rfl 3 (by decide +kernel) (cIn (by decide +kernel)) dX12_enough_10 ?_
  refine lv_if_ne (tgt := 17) hx hb dX12_enough_11 (by decide) (fun c10 => ?_) (fun c10 => ?_)
  · have h := h.1 c10
    refine lv_aload_n hx hb dX12_enough_17 rfl (lv_at hl 0 rfl) ?_
    have hP : va_P D vwCl (List.flatten (wM aM C (va_up ms 0 0) mw ma ml)) H := hP
    have hD : va_D A (List.flatten (wM aM C (va_up ms 0 0) mw ma ml)) := hD
    refine cGoV (wo := fun u => wM aM C u.1 mw u.2.1 u.2.2) (cRunV (As := []) (rest := []) ⟨hx, hb, hml, hown, hw⟩ hK hN hP hD [0, 1, 2, 3, 4, 5, 6, 7, 8, 9, 10, 11, 12, 13, 14, 15, 16, 17, 18, 19, 20, 21, 22, 23, 24, 25, 26, 27, 28, 29, 30, 31, 32] rfl rfl (k_X12_laysWatch l D C _ aM  (va_up ms 0 0) mw ma ml  h) (cwV 0 hw (goodV mw_8_191 mw_8_193 mw_s169 mw_1_13 mw_8_194) rfl rfl rfl (by decide +kernel) ⟨Nat.le_of_ble_eq_true rfl, Nat.le_of_ble_eq_true rfl⟩) rfl rfl rfl hl.1 rfl (Nat.le_of_ble_eq_true rfl) dX12_enough_18 ⟨Nat.zero_le _, Nat.zero_le _⟩) hP hD hS hA [0, 1, 2, 3, 4, 5, 6, 7, 8, 9, 10, 11, 12, 13, 14, 15, 16, 17, 18, 19, 20, 21, 22, 23, 24, 25, 26, 27, 28, 29, 30, 31, 32] [] [0, 1, 2, 3, 4, 5, 6, 7, 8, 9, 10, 11, 12, 13, 14, 15, 16, 17, 18, 19, 20, 21, 22, 23, 24, 25, 26, 27, 28, 29, 30, 31, 32] rfl rfl rfl (by decide) rfl (fun _ => rfl) (fun u H locs h hP hD hS => ?_)
    obtain ⟨ms_11, ma_12, ml_13⟩ := u
    have hP : va_P D vwCl (List.flatten (wM aM C ms_11 mw ma_12 ml_13)) H := hP
    have hD : va_D A (List.flatten (wM aM C ms_11 mw ma_12 ml_13)) := hD
    refine lv_aload_n hx hb dX12_enough_21 rfl (lv_at hl 0 rfl) ?_
    refine cGoL (wo := fun u => wM aM C ms_11 mw ma_12 ml_13) (cRunV (As := []) (rest := []) ⟨hx, hb, hml, hown, hw⟩ hK hN hP hD [0, 1, 2, 3, 4, 5, 6, 7, 8, 9, 10, 11, 12, 13, 14, 15, 16, 17, 18, 19, 20, 21, 22, 23, 24, 25, 26, 27, 28, 29, 30, 31, 32] rfl rfl (k_X12_wages l D C _ aM  ms_11 mw ma_12 ml_13  h) (cwV 0 hw (goodV mw_8_20 mw_8_22 mw_s150 mw_1_13 mw_8_23) rfl rfl rfl (by decide +kernel) ⟨Nat.le_of_ble_eq_true rfl, Nat.le_of_ble_eq_true rfl⟩) rfl rfl rfl hl.1 rfl (Nat.le_of_ble_eq_true rfl) dX12_enough_22 ⟨Nat.zero_le _, Nat.zero_le _⟩) hP hD hS hA [0, 1, 2, 3, 4, 5, 6, 7, 8, 9, 10, 11, 12, 13, 14, 15, 16, 17, 18, 19, 20, 21, 22, 23, 24, 25, 26, 27, 28, 29, 30, 31, 32] [] [0, 1, 2, 3, 4, 5, 6, 7, 8, 9, 10, 11, 12, 13, 14, 15, 16, 17, 18, 19, 20, 21, 22, 23, 24, 25, 26, 27, 28, 29, 30, 31, 32] rfl rfl rfl (by decide) rfl (fun _ => rfl) (fun r14 u H locs h hP hD hS => ?_)
    have hP : va_P D vwCl (List.flatten (wM aM C ms_11 mw ma_12 ml_13)) H := hP
    have hD : va_D A (List.flatten (wM aM C ms_11 mw ma_12 ml_13)) := hD
    refine lv_lstore_n (lv' := [(1, .long r14), (0, .ref (aM 0))]) hx hb dX12_enough_25 rfl hl (by decide) rfl (fun ls hl => ?_)
    refine lv_iconst (v := 0) hx hb dX12_enough_26 (by decide) ?_
    refine lv_istore_n (lv' := [(3, .int 0), (1, .long r14), (0, .ref (aM 0))]) hx hb dX12_enough_27 rfl hl (by decide) rfl (fun ls hl => ?_)
    refine lv_iconst (v := 0) hx hb dX12_enough_28 (by decide) ?_
    refine lv_istore (lv' := [(4, .int 0), (3, .int 0), (1, .long r14), (0, .ref (aM 0))]) hx hb dX12_enough_29 hl (by decide) rfl (fun ls hl => ?_)
    obtain ⟨n, h⟩ := h
    exact N31 ms_11 ma_12 ml_13 n r14 0 0 _ _ _ h hP hD hS (lv_sub hl [3, 2, 1, 0] rfl)
  · have h := h.2 c10
    refine lv_bipush (v := (-2)) hx hb dX12_enough_14 (by decide) ?_
    have hP : va_P D vwCl (List.flatten (wM aM C (va_up ms 0 0) mw ma ml)) H := hP
    have hD : va_D A (List.flatten (wM aM C (va_up ms 0 0) mw ma ml)) := hD
    rw [← hQ]
    exact cRetI (v := (-2)) ((va_up ms 0 0), ma, ml) hx hb hr hlocks hS hP hD h dX12_enough_16
abbrev vsX12_marksSet : List Cond := Cond.code yX12_marksSet cX12_marksSet 3 none :: WS
abbrev rmX12_marksSet : Room := { frames := 1, cells := 0, slots := 0, locals := 21 }
set_option maxHeartbeats 4000000 in
set_option maxRecDepth 100000 in
theorem k_X12_marksSet (l : Launch) (D : va_G) (C : Nat → ClassId) (sz : Nat) (aM : Nat → Nat)  (ms : Nat → Int32) (mw : Nat → Int64) (ma : Nat → Nat → Int32) (ml : Nat → Nat → Int64) (p1 : Int32) {post : (Nat → Nat → Int32) → Prop} (h : P_X12_marksSet ma p1 post) : Met l yX12_marksSet vsX12_marksSet rmX12_marksSet (cPre D C [.ref (aM 0), .int p1] sz (wM aM C ms mw ma ml)) (cQv D (fun (u : (Nat → Nat → Int32)) => post u) (fun u => wM aM C ms mw u ml) (va_A (List.flatten (wM aM C ms mw ma ml)) sz)) 0 0 (va_A (List.flatten (wM aM C ms mw ma ml)) sz) := by
  refine cStart (QA := fun A => cQv D (fun (u : (Nat → Nat → Int32)) => post u) (fun u => wM aM C ms mw u ml) A) (cc := cX12_marksSet) (maxL := 3) (ret := none) (by decide) (Nat.le_of_ble_eq_true rfl) ?_
  intro p e s m args below meth c A ls hx hb hr hml hown hw hlocks hname hK hN hA hP hD hS hl
  generalize hQ : MQ below _ args s 0 0 A = Q
  have hl : lv_has ls 3 [(0, .ref (aM 0)), (1, .int p1)] := hl
  obtain ⟨H, hH⟩ : ∃ H, H = s.heap := ⟨_, rfl⟩
  obtain ⟨locs, hlo⟩ : ∃ z : List Loc, z = [] := ⟨_, rfl⟩
  have hP : va_P D vwCl (List.flatten (wM aM C ms mw ma ml)) H := by rw [hH]; exact hP
  have hS : va_S A s.heap H locs := by rw [hH, hlo]; exact hS
  rw [show W p l e rmX12_marksSet s m args below meth c s.heap [] 0 0 Q (F0 m 0 ls []) = W p l e rmX12_marksSet s m args below meth c H locs 0 0 Q (F0 m 0 ls []) from by rw [hH, hlo]]
  have N2 : ∀  (n2 : Nat) (x2_ : Int32) (ma : Nat → Nat → Int32) (H : Heap) (locs : List Loc) (ls : Array Slot), P_X12_marksSet_2 p1 post   n2 x2_ ma → va_P D vwCl (List.flatten (wM aM C ms mw ma ml)) H → va_D A (List.flatten (wM aM C ms mw ma ml)) → va_S A s.heap H locs → lv_has ls 3 [(0, .ref (aM 0)), (1, .int p1), (2, .int x2_)] → W p l e rmX12_marksSet s m args below meth c H locs 0 0 Q (F0 m 2 ls []) := by
    intro n2
    induction n2 with
    | zero => intro x2_ ma H locs ls h hP hD hS hl; exact False.elim h
    | succ n2 ih2 =>
      intro x2_ ma H locs ls h hP hD hS hl
      refine lv_iload_n hx hb dX12_marksSet_2 rfl (lv_at hl 2 rfl) ?_
      refine lv_aload_n hx hb dX12_marksSet_3 rfl (lv_at hl 0 rfl) ?_
      refine va_get (D := D) (ci := 12) (v := .ref (aM 13)) (C := RX12) (T := TX12) (N := 51) hx hb hw inW_X12 hown hK hP 0 rfl rfl 23 (by decide) (hw _ mw_6_66) (fun _ h9 => h9) rfl dX12_marksSet_4 ?_
      refine lv_iconst (v := 0) hx hb dX12_marksSet_7 (by decide) ?_
      refine cIald hx hb hK hP 13 0 rfl rfl 0 (by decide +kernel) (cIn (by decide +kernel)) dX12_marksSet_8 ?_
      refine lv_icmp_ge (tgt := 35) hx hb dX12_marksSet_9 (by decide) (fun c1 => ?_) (fun c1 => ?_)
      · have h := h.1 c1
        rw [← hQ]
        exact cRetV (ma) hx hb hr hlocks hS hP hD h dX12_marksSet_35
      · have h := h.2 c1
        refine lv_aload_n hx hb dX12_marksSet_12 rfl (lv_at hl 0 rfl) ?_
        refine va_get (D := D) (ci := 12) (v := .ref (aM 14)) (C := RX12) (T := TX12) (N := 51) hx hb hw inW_X12 hown hK hP 0 rfl rfl 24 (by decide) (hw _ mw_6_67) (fun _ h9 => h9) rfl dX12_marksSet_13 ?_
        refine lv_iconst (v := 0) hx hb dX12_marksSet_16 (by decide) ?_
        refine lv_iload_n hx hb dX12_marksSet_17 rfl (lv_at hl 2 rfl) ?_
        refine cGoI (wo := fun u => wM aM C ms mw ma ml) (cRunS (As := [.int 0, .int x2_]) (rest := [.ref (aM 14)]) ⟨hx, hb, hml, hown, hw⟩ hK hN hP hD [] rfl rfl (k_X12_at l D C _    0 x2_ h) (va_cwS 2 hw (goodS mw_7_148 mw_7_149 mw_1_13 mw_7_150) rfl rfl rfl (by decide +kernel) ⟨Nat.le_of_ble_eq_true rfl, Nat.le_of_ble_eq_true rfl⟩) rfl hl.1 rfl (Nat.le_of_ble_eq_true rfl) dX12_marksSet_18 ⟨Nat.zero_le _, Nat.zero_le _⟩) hP hD hS hA [] [0, 1, 2, 3, 4, 5, 6, 7, 8, 9, 10, 11, 12, 13, 14, 15, 16, 17, 18, 19, 20, 21, 22, 23, 24, 25, 26, 27, 28, 29, 30, 31, 32] [0, 1, 2, 3, 4, 5, 6, 7, 8, 9, 10, 11, 12, 13, 14, 15, 16, 17, 18, 19, 20, 21, 22, 23, 24, 25, 26, 27, 28, 29, 30, 31, 32] rfl rfl rfl (by decide) rfl (fun _ => rfl) (fun r2 u H locs h hP hD hS => ?_)
        have hP : va_P D vwCl (List.flatten (wM aM C ms mw ma ml)) H := hP
        have hD : va_D A (List.flatten (wM aM C ms mw ma ml)) := hD
        refine lv_iconst (v := 4) hx hb dX12_marksSet_21 (by decide) ?_
        refine lv_iadd hx hb dX12_marksSet_22 ?_
        refine lv_iload_n hx hb dX12_marksSet_23 rfl (lv_at hl 1 rfl) ?_
        refine lv_iload_n hx hb dX12_marksSet_24 rfl (lv_at hl 2 rfl) ?_
        refine lv_ishr hx hb dX12_marksSet_25 ?_
        refine lv_iconst (v := 1) hx hb dX12_marksSet_26 (by decide) ?_
        refine lv_iand hx hb dX12_marksSet_27 ?_
        refine cIast hx hb hK hP hD hS 14 0 rfl rfl ((r2 + 4).toNatClampNeg) rfl h.1 dX12_marksSet_28 (fun H locs hP hD hS => ?_)
        have h := h.2
        refine lv_iinc (v := (x2_ + 1)) (lv' := [(2, .int (x2_ + 1)), (0, .ref (aM 0)), (1, .int p1)]) hx hb dX12_marksSet_29 hl (k := 2) rfl rfl (by decide) rfl (fun ls hl => ?_)
        refine lv_goto (tgt := 2) hx hb dX12_marksSet_32 (by decide) ?_
        have hP : va_P D vwCl (List.flatten (wM aM C ms mw (va_up ma 11 (upd (ma 11) ((r2 + 4).toNatClampNeg) ((p1 >>> (x2_ &&& 31)) &&& 1))) ml)) H := hP
        have hD : va_D A (List.flatten (wM aM C ms mw (va_up ma 11 (upd (ma 11) ((r2 + 4).toNatClampNeg) ((p1 >>> (x2_ &&& 31)) &&& 1))) ml)) := hD
        exact ih2 (x2_ + 1) (va_up ma 11 (upd (ma 11) ((r2 + 4).toNatClampNeg) ((p1 >>> (x2_ &&& 31)) &&& 1))) _ _ _ h hP hD hS (lv_sub hl [1, 2, 0] rfl)
  refine lv_iconst (v := 0) hx hb dX12_marksSet_0 (by decide) ?_
  refine lv_istore_n (lv' := [(2, .int 0), (0, .ref (aM 0)), (1, .int p1)]) hx hb dX12_marksSet_1 rfl hl (by decide) rfl (fun ls hl => ?_)
  obtain ⟨n, h⟩ := h
  exact N2  n 0 ma _ _ _ h hP hD hS (lv_sub hl [1, 2, 0] rfl)
abbrev vsX12_isWanted : List Cond := Cond.code yX12_isWanted cX12_isWanted 2 (some .boolean) :: WS
abbrev rmX12_isWanted : Room := { frames := 4, cells := 0, slots := 0, locals := 95 }
set_option maxHeartbeats 4000000 in
set_option maxRecDepth 100000 in
theorem k_X12_isWanted (l : Launch) (D : va_G) (C : Nat → ClassId) (sz : Nat) (aM : Nat → Nat)  (ms : Nat → Int32) (mw : Nat → Int64) (ma : Nat → Nat → Int32) (ml : Nat → Nat → Int64)  {post : Int32 → (Nat → Int32) → (Nat → Nat → Int32) → Prop} (h : P_X12_isWanted ms ma post) : Met l yX12_isWanted vsX12_isWanted rmX12_isWanted (cPre D C [.ref (aM 0)] sz (wM aM C ms mw ma ml)) (cQi D (fun (r : Int32) (u : (Nat → Int32) × (Nat → Nat → Int32)) => post r u.1 u.2) (fun u => wM aM C u.1 mw u.2 ml) (va_A (List.flatten (wM aM C ms mw ma ml)) sz)) 0 0 (va_A (List.flatten (wM aM C ms mw ma ml)) sz) := by
  refine cStart (QA := fun A => cQi D (fun (r : Int32) (u : (Nat → Int32) × (Nat → Nat → Int32)) => post r u.1 u.2) (fun u => wM aM C u.1 mw u.2 ml) A) (cc := cX12_isWanted) (maxL := 2) (ret := (some .boolean)) (by decide) (Nat.le_of_ble_eq_true rfl) ?_
  intro p e s m args below meth c A ls hx hb hr hml hown hw hlocks hname hK hN hA hP hD hS hl
  generalize hQ : MQ below _ args s 0 0 A = Q
  have hl : lv_has ls 2 [(0, .ref (aM 0))] := hl
  obtain ⟨H, hH⟩ : ∃ H, H = s.heap := ⟨_, rfl⟩
  obtain ⟨locs, hlo⟩ : ∃ z : List Loc, z = [] := ⟨_, rfl⟩
  have hP : va_P D vwCl (List.flatten (wM aM C ms mw ma ml)) H := by rw [hH]; exact hP
  have hS : va_S A s.heap H locs := by rw [hH, hlo]; exact hS
  rw [show W p l e rmX12_isWanted s m args below meth c s.heap [] 0 0 Q (F0 m 0 ls []) = W p l e rmX12_isWanted s m args below meth c H locs 0 0 Q (F0 m 0 ls []) from by rw [hH, hlo]]
  have N7 : ∀ (ms : Nat → Int32) (ma : Nat → Nat → Int32) (n7 : Nat) (x1_ : Int32) (H : Heap) (locs : List Loc) (ls : Array Slot), P_X12_isWanted_7  post  ms ma n7 x1_ → va_P D vwCl (List.flatten (wM aM C ms mw ma ml)) H → va_D A (List.flatten (wM aM C ms mw ma ml)) → va_S A s.heap H locs → lv_has ls 2 [(0, .ref (aM 0)), (1, .int x1_)] → W p l e rmX12_isWanted s m args below meth c H locs 0 0 Q (F0 m 7 ls []) := by
    intro ms ma
    intro n7
    induction n7 with
    | zero => intro x1_ H locs ls h hP hD hS hl; exact False.elim h
    | succ n7 ih7 =>
      intro x1_ H locs ls h hP hD hS hl
      refine lv_iload_n hx hb dX12_isWanted_7 rfl (lv_at hl 1 rfl) ?_
      refine lv_aload_n hx hb dX12_isWanted_8 rfl (lv_at hl 0 rfl) ?_
      refine va_get (D := D) (ci := 12) (v := .ref (aM 15)) (C := RX12) (T := TX12) (N := 51) hx hb hw inW_X12 hown hK hP 0 rfl rfl 25 (by decide) (hw _ mw_6_68) (fun _ h9 => h9) rfl dX12_isWanted_9 ?_
      refine lv_iconst (v := 0) hx hb dX12_isWanted_12 (by decide) ?_
      refine cIald hx hb hK hP 15 0 rfl rfl 0 (by decide +kernel) (cIn (by decide +kernel)) dX12_isWanted_13 ?_
      refine lv_icmp_ge (tgt := 33) hx hb dX12_isWanted_14 (by decide) (fun c1 => ?_) (fun c1 => ?_)
      · have h := h.1 c1
        refine lv_iconst (v := 0) hx hb dX12_isWanted_33 (by decide) ?_
        rw [← hQ]
        exact cRetZ (v := 0) (ms, ma) hx hb hr hlocks hS hP hD (Or.inl rfl) h dX12_isWanted_34
      · have h := h.2 c1
        refine lv_aload_n hx hb dX12_isWanted_17 rfl (lv_at hl 0 rfl) ?_
        refine lv_iload_n hx hb dX12_isWanted_18 rfl (lv_at hl 1 rfl) ?_
        refine cGoI (wo := fun u => wM aM C ms mw ma ml) (cRunV (As := [.int x1_]) (rest := []) ⟨hx, hb, hml, hown, hw⟩ hK hN hP hD [0, 1, 2, 3, 4, 5, 6, 7, 8, 9, 10, 11, 12, 13, 14, 15, 16, 17, 18, 19, 20, 21, 22, 23, 24, 25, 26, 27, 28, 29, 30, 31, 32] rfl rfl (k_X12_wantsOf l D C _ aM  ms mw ma ml x1_ h) (cwV 1 hw (goodV mw_7_192 mw_7_194 mw_s140 mw_1_13 mw_7_195) rfl rfl rfl (by decide +kernel) ⟨Nat.le_of_ble_eq_true rfl, Nat.le_of_ble_eq_true rfl⟩) rfl rfl rfl hl.1 rfl (Nat.le_of_ble_eq_true rfl) dX12_isWanted_19 ⟨Nat.zero_le _, Nat.zero_le _⟩) hP hD hS hA [0, 1, 2, 3, 4, 5, 6, 7, 8, 9, 10, 11, 12, 13, 14, 15, 16, 17, 18, 19, 20, 21, 22, 23, 24, 25, 26, 27, 28, 29, 30, 31, 32] [] [0, 1, 2, 3, 4, 5, 6, 7, 8, 9, 10, 11, 12, 13, 14, 15, 16, 17, 18, 19, 20, 21, 22, 23, 24, 25, 26, 27, 28, 29, 30, 31, 32] rfl rfl rfl (by decide) rfl (fun _ => rfl) (fun r2 u H locs h hP hD hS => ?_)
        have hP : va_P D vwCl (List.flatten (wM aM C ms mw ma ml)) H := hP
        have hD : va_D A (List.flatten (wM aM C ms mw ma ml)) := hD
        refine lv_if_le (tgt := 27) hx hb dX12_isWanted_22 (by decide) (fun c3 => ?_) (fun c3 => ?_)
        · have h := h.1 c3
          refine lv_iinc (v := (x1_ + 1)) (lv' := [(1, .int (x1_ + 1)), (0, .ref (aM 0))]) hx hb dX12_isWanted_27 hl (k := 1) rfl rfl (by decide) rfl (fun ls hl => ?_)
          refine lv_goto (tgt := 7) hx hb dX12_isWanted_30 (by decide) ?_
          exact ih7 (x1_ + 1) _ _ _ h hP hD hS (lv_sub hl [1, 0] rfl)
        · have h := h.2 c3
          refine lv_iconst (v := 1) hx hb dX12_isWanted_25 (by decide) ?_
          rw [← hQ]
          exact cRetZ (v := 1) (ms, ma) hx hb hr hlocks hS hP hD (Or.inr rfl) h dX12_isWanted_26
  refine lv_aload_n hx hb dX12_isWanted_0 rfl (lv_at hl 0 rfl) ?_
  refine lv_iconst (v := (-1)) hx hb dX12_isWanted_1 (by decide) ?_
  refine cGoV (wo := fun u => wM aM C u.1 mw u.2 ml) (cRunV (As := [.int (-1)]) (rest := []) ⟨hx, hb, hml, hown, hw⟩ hK hN hP hD [0, 1, 2, 3, 4, 5, 6, 7, 8, 9, 10, 11, 12, 13, 14, 15, 16, 17, 18, 19, 20, 21, 22, 23, 24, 25, 26, 27, 28, 29, 30, 31, 32] rfl rfl (k_X12_lays l D C _ aM  ms mw ma ml (-1) h) (cwV 1 hw (goodV mw_7_180 mw_7_182 mw_s138 mw_1_13 mw_7_183) rfl rfl rfl (by decide +kernel) ⟨Nat.le_of_ble_eq_true rfl, Nat.le_of_ble_eq_true rfl⟩) rfl rfl rfl hl.1 rfl (Nat.le_of_ble_eq_true rfl) dX12_isWanted_2 ⟨Nat.zero_le _, Nat.zero_le _⟩) hP hD hS hA [0, 1, 2, 3, 4, 5, 6, 7, 8, 9, 10, 11, 12, 13, 14, 15, 16, 17, 18, 19, 20, 21, 22, 23, 24, 25, 26, 27, 28, 29, 30, 31, 32] [] [0, 1, 2, 3, 4, 5, 6, 7, 8, 9, 10, 11, 12, 13, 14, 15, 16, 17, 18, 19, 20, 21, 22, 23, 24, 25, 26, 27, 28, 29, 30, 31, 32] rfl rfl rfl (by decide) rfl (fun _ => rfl) (fun u H locs h hP hD hS => ?_)
  obtain ⟨ms_4, ma_5⟩ := u
  have hP : va_P D vwCl (List.flatten (wM aM C ms_4 mw ma_5 ml)) H := hP
  have hD : va_D A (List.flatten (wM aM C ms_4 mw ma_5 ml)) := hD
  refine lv_iconst (v := 0) hx hb dX12_isWanted_5 (by decide) ?_
  refine lv_istore_n (lv' := [(1, .int 0), (0, .ref (aM 0))]) hx hb dX12_isWanted_6 rfl hl (by decide) rfl (fun ls hl => ?_)
  obtain ⟨n, h⟩ := h
  exact N7 ms_4 ma_5 n 0 _ _ _ h hP hD hS (lv_sub hl [1, 0] rfl)
abbrev vsX12_marks : List Cond := Cond.code yX12_marks cX12_marks 3 (some .int) :: WS
abbrev rmX12_marks : Room := { frames := 5, cells := 0, slots := 0, locals := 116 }
set_option maxHeartbeats 4000000 in
set_option maxRecDepth 100000 in
theorem k_X12_marks (l : Launch) (D : va_G) (C : Nat → ClassId) (sz : Nat) (aM : Nat → Nat)  (ms : Nat → Int32) (mw : Nat → Int64) (ma : Nat → Nat → Int32) (ml : Nat → Nat → Int64)  {post : Int32 → (Nat → Int32) → (Nat → Nat → Int32) → Prop} (h : P_X12_marks ms ma post) : Met l yX12_marks vsX12_marks rmX12_marks (cPre D C [.ref (aM 0)] sz (wM aM C ms mw ma ml)) (cQi D (fun (r : Int32) (u : (Nat → Int32) × (Nat → Nat → Int32)) => post r u.1 u.2) (fun u => wM aM C u.1 mw u.2 ml) (va_A (List.flatten (wM aM C ms mw ma ml)) sz)) 0 0 (va_A (List.flatten (wM aM C ms mw ma ml)) sz) := by
  refine cStart (QA := fun A => cQi D (fun (r : Int32) (u : (Nat → Int32) × (Nat → Nat → Int32)) => post r u.1 u.2) (fun u => wM aM C u.1 mw u.2 ml) A) (cc := cX12_marks) (maxL := 3) (ret := (some .int)) (by decide) (Nat.le_of_ble_eq_true rfl) ?_
  intro p e s m args below meth c A ls hx hb hr hml hown hw hlocks hname hK hN hA hP hD hS hl
  generalize hQ : MQ below _ args s 0 0 A = Q
  have hl : lv_has ls 3 [(0, .ref (aM 0))] := hl
  obtain ⟨H, hH⟩ : ∃ H, H = s.heap := ⟨_, rfl⟩
  obtain ⟨locs, hlo⟩ : ∃ z : List Loc, z = [] := ⟨_, rfl⟩
  have hP : va_P D vwCl (List.flatten (wM aM C ms mw ma ml)) H := by rw [hH]; exact hP
  have hS : va_S A s.heap H locs := by rw [hH, hlo]; exact hS
  rw [show W p l e rmX12_marks s m args below meth c s.heap [] 0 0 Q (F0 m 0 ls []) = W p l e rmX12_marks s m args below meth c H locs 0 0 Q (F0 m 0 ls []) from by rw [hH, hlo]]
  have N66 : ∀ (x1_ : Int32) (ms : Nat → Int32) (ma : Nat → Nat → Int32) (H : Heap) (locs : List Loc) (ls : Array Slot), P_X12_marks_66  post  x1_ ms ma → va_P D vwCl (List.flatten (wM aM C ms mw ma ml)) H → va_D A (List.flatten (wM aM C ms mw ma ml)) → va_S A s.heap H locs → lv_has ls 3 [(0, .ref (aM 0)), (1, .int x1_)] → W p l e rmX12_marks s m args below meth c H locs 0 0 Q (F0 m 66 ls []) := by
    intro x1_ ms ma H locs ls h hP hD hS hl
    refine lv_aload_n hx hb dX12_marks_66 rfl (lv_at hl 0 rfl) ?_
    refine cGoV (wo := fun u => wM aM C ms mw u ml) (cRunV (As := []) (rest := []) ⟨hx, hb, hml, hown, hw⟩ hK hN hP hD [0, 1, 2, 3, 4, 5, 6, 7, 8, 9, 10, 11, 12, 13, 14, 15, 16, 17, 18, 19, 20, 21, 22, 23, 24, 25, 26, 27, 28, 29, 30, 31, 32] rfl rfl (k_X12_takesBack l D C _ aM  ms mw ma ml  h) (cwV 0 hw (goodV mw_8_97 mw_8_99 mw_s162 mw_1_13 mw_8_100) rfl rfl rfl (by decide +kernel) ⟨Nat.le_of_ble_eq_true rfl, Nat.le_of_ble_eq_true rfl⟩) rfl rfl rfl hl.1 rfl (Nat.le_of_ble_eq_true rfl) dX12_marks_67 ⟨Nat.zero_le _, Nat.zero_le _⟩) hP hD hS hA [0, 1, 2, 3, 4, 5, 6, 7, 8, 9, 10, 11, 12, 13, 14, 15, 16, 17, 18, 19, 20, 21, 22, 23, 24, 25, 26, 27, 28, 29, 30, 31, 32] [] [0, 1, 2, 3, 4, 5, 6, 7, 8, 9, 10, 11, 12, 13, 14, 15, 16, 17, 18, 19, 20, 21, 22, 23, 24, 25, 26, 27, 28, 29, 30, 31, 32] rfl rfl rfl (by decide) rfl (fun _ => rfl) (fun ma_1 H locs h hP hD hS => ?_)
    have hP : va_P D vwCl (List.flatten (wM aM C ms mw ma_1 ml)) H := hP
    have hD : va_D A (List.flatten (wM aM C ms mw ma_1 ml)) := hD
    refine lv_iload_n hx hb dX12_marks_70 rfl (lv_at hl 1 rfl) ?_
    rw [← hQ]
    exact cRetI (v := x1_) (ms, ma_1) hx hb hr hlocks hS hP hD h dX12_marks_71
  have N23 : ∀  (n23 : Nat) (x1_ : Int32) (x2_ : Int32) (ms : Nat → Int32) (ma : Nat → Nat → Int32) (H : Heap) (locs : List Loc) (ls : Array Slot), P_X12_marks_23  post (fun (x1_ : Int32) (ms : Nat → Int32) (ma : Nat → Nat → Int32) => P_X12_marks_66  post  x1_ ms ma)  n23 x1_ x2_ ms ma → va_P D vwCl (List.flatten (wM aM C ms mw ma ml)) H → va_D A (List.flatten (wM aM C ms mw ma ml)) → va_S A s.heap H locs → lv_has ls 3 [(0, .ref (aM 0)), (1, .int x1_), (2, .int x2_)] → W p l e rmX12_marks s m args below meth c H locs 0 0 Q (F0 m 23 ls []) := by
    intro n23
    induction n23 with
    | zero => intro x1_ x2_ ms ma H locs ls h hP hD hS hl; exact False.elim h
    | succ n23 ih23 =>
      intro x1_ x2_ ms ma H locs ls h hP hD hS hl
      refine lv_iload_n hx hb dX12_marks_23 rfl (lv_at hl 2 rfl) ?_
      refine lv_aload_n hx hb dX12_marks_24 rfl (lv_at hl 0 rfl) ?_
      refine va_get (D := D) (ci := 12) (v := .ref (aM 13)) (C := RX12) (T := TX12) (N := 51) hx hb hw inW_X12 hown hK hP 0 rfl rfl 23 (by decide) (hw _ mw_6_66) (fun _ h9 => h9) rfl dX12_marks_25 ?_
      refine lv_iconst (v := 0) hx hb dX12_marks_28 (by decide) ?_
      refine cIald hx hb hK hP 13 0 rfl rfl 0 (by decide +kernel) (cIn (by decide +kernel)) dX12_marks_29 ?_
      refine lv_icmp_gt (tgt := 66) hx hb dX12_marks_30 (by decide) (fun c2 => ?_) (fun c2 => ?_)
      · have h := h.1 c2
        exact N66 x1_ ms ma _ _ _ h hP hD hS (lv_sub hl [0, 1] rfl)
      · have h := h.2 c2
        refine lv_iload_n hx hb dX12_marks_33 rfl (lv_at hl 1 rfl) ?_
        refine lv_iconst (v := (-1)) hx hb dX12_marks_34 (by decide) ?_
        refine lv_icmp_ne (tgt := 66) hx hb dX12_marks_35 (by decide) (fun c3 => ?_) (fun c3 => ?_)
        · have h := h.1 c3
          exact N66 x1_ ms ma _ _ _ h hP hD hS (lv_sub hl [0, 1] rfl)
        · have h := h.2 c3
          refine lv_aload_n hx hb dX12_marks_38 rfl (lv_at hl 0 rfl) ?_
          refine lv_iconst (v := 1) hx hb dX12_marks_39 (by decide) ?_
          refine lv_iload_n hx hb dX12_marks_40 rfl (lv_at hl 2 rfl) ?_
          refine lv_ishl hx hb dX12_marks_41 ?_
          refine lv_iconst (v := 1) hx hb dX12_marks_42 (by decide) ?_
          refine lv_isub hx hb dX12_marks_43 ?_
          refine cGoV (wo := fun u => wM aM C ms mw u ml) (cRunV (As := [.int (((1 : Int32) <<< (x2_ &&& 31)) - 1)]) (rest := []) ⟨hx, hb, hml, hown, hw⟩ hK hN hP hD [0, 1, 2, 3, 4, 5, 6, 7, 8, 9, 10, 11, 12, 13, 14, 15, 16, 17, 18, 19, 20, 21, 22, 23, 24, 25, 26, 27, 28, 29, 30, 31, 32] rfl rfl (k_X12_marksSet l D C _ aM  ms mw ma ml (((1 : Int32) <<< (x2_ &&& 31)) - 1) h) (cwV 1 hw (goodV mw_8_203 mw_8_205 mw_s170 mw_1_13 mw_8_206) rfl rfl rfl (by decide +kernel) ⟨Nat.le_of_ble_eq_true rfl, Nat.le_of_ble_eq_true rfl⟩) rfl rfl rfl hl.1 rfl (Nat.le_of_ble_eq_true rfl) dX12_marks_44 ⟨Nat.zero_le _, Nat.zero_le _⟩) hP hD hS hA [0, 1, 2, 3, 4, 5, 6, 7, 8, 9, 10, 11, 12, 13, 14, 15, 16, 17, 18, 19, 20, 21, 22, 23, 24, 25, 26, 27, 28, 29, 30, 31, 32] [] [0, 1, 2, 3, 4, 5, 6, 7, 8, 9, 10, 11, 12, 13, 14, 15, 16, 17, 18, 19, 20, 21, 22, 23, 24, 25, 26, 27, 28, 29, 30, 31, 32] rfl rfl rfl (by decide) rfl (fun _ => rfl) (fun ma_4 H locs h hP hD hS => ?_)
          have hP : va_P D vwCl (List.flatten (wM aM C ms mw ma_4 ml)) H := hP
          have hD : va_D A (List.flatten (wM aM C ms mw ma_4 ml)) := hD
          refine lv_aload_n hx hb dX12_marks_47 rfl (lv_at hl 0 rfl) ?_
          refine cGoI (wo := fun u => wM aM C u.1 mw u.2 ml) (cRunV (As := []) (rest := []) ⟨hx, hb, hml, hown, hw⟩ hK hN hP hD [0, 1, 2, 3, 4, 5, 6, 7, 8, 9, 10, 11, 12, 13, 14, 15, 16, 17, 18, 19, 20, 21, 22, 23, 24, 25, 26, 27, 28, 29, 30, 31, 32] rfl rfl (k_X12_isWanted l D C _ aM  ms mw ma_4 ml  h) (cwV 0 hw (goodV mw_8_207 mw_8_209 mw_s171 mw_1_13 mw_8_210) rfl rfl rfl (by decide +kernel) ⟨Nat.le_of_ble_eq_true rfl, Nat.le_of_ble_eq_true rfl⟩) rfl rfl rfl hl.1 rfl (Nat.le_of_ble_eq_true rfl) dX12_marks_48 ⟨Nat.zero_le _, Nat.zero_le _⟩) hP hD hS hA [0, 1, 2, 3, 4, 5, 6, 7, 8, 9, 10, 11, 12, 13, 14, 15, 16, 17, 18, 19, 20, 21, 22, 23, 24, 25, 26, 27, 28, 29, 30, 31, 32] [] [0, 1, 2, 3, 4, 5, 6, 7, 8, 9, 10, 11, 12, 13, 14, 15, 16, 17, 18, 19, 20, 21, 22, 23, 24, 25, 26, 27, 28, 29, 30, 31, 32] rfl rfl rfl (by decide) rfl (fun _ => rfl) (fun r7 u H locs h hP hD hS => ?_)
          obtain ⟨ms_5, ma_6⟩ := u
          have hP : va_P D vwCl (List.flatten (wM aM C ms_5 mw ma_6 ml)) H := hP
          have hD : va_D A (List.flatten (wM aM C ms_5 mw ma_6 ml)) := hD
          refine lv_if_eq (tgt := 58) hx hb dX12_marks_51 (by decide) (fun c8 => ?_) (fun c8 => ?_)
          · have h := h.1 c8
            refine lv_iload_n hx hb dX12_marks_58 rfl (lv_at hl 2 rfl) ?_
            refine lv_istore_n (lv' := [(1, .int x2_), (0, .ref (aM 0)), (2, .int x2_)]) hx hb dX12_marks_59 rfl hl (by decide) rfl (fun ls hl => ?_)
            refine lv_iinc (v := (x2_ + 1)) (lv' := [(2, .int (x2_ + 1)), (1, .int x2_), (0, .ref (aM 0))]) hx hb dX12_marks_60 hl (k := 2) rfl rfl (by decide) rfl (fun ls hl => ?_)
            refine lv_goto (tgt := 23) hx hb dX12_marks_63 (by decide) ?_
            exact ih23 x2_ (x2_ + 1) ms_5 ma_6 _ _ _ h hP hD hS (lv_sub hl [2, 1, 0] rfl)
          · have h := h.2 c8
            refine lv_iconst (v := (-1)) hx hb dX12_marks_54 (by decide) ?_
            refine lv_goto (tgt := 59) hx hb dX12_marks_55 (by decide) ?_
            refine lv_istore_n (lv' := [(1, .int (-1)), (0, .ref (aM 0)), (2, .int x2_)]) hx hb dX12_marks_59 rfl hl (by decide) rfl (fun ls hl => ?_)
            refine lv_iinc (v := (x2_ + 1)) (lv' := [(2, .int (x2_ + 1)), (1, .int (-1)), (0, .ref (aM 0))]) hx hb dX12_marks_60 hl (k := 2) rfl rfl (by decide) rfl (fun ls hl => ?_)
            refine lv_goto (tgt := 23) hx hb dX12_marks_63 (by decide) ?_
            exact ih23 (-1) (x2_ + 1) ms_5 ma_6 _ _ _ h hP hD hS (lv_sub hl [2, 1, 0] rfl)
  refine lv_aload_n hx hb dX12_marks_0 rfl (lv_at hl 0 rfl) ?_
  refine lv_iconst (v := 0) hx hb dX12_marks_1 (by decide) ?_
  refine va_put (D := D) (ci := 12) (v := .int 0) (ty := .int) (C := RX12) (T := TX12) (N := 51) hx hb hw inW_X12 tyX12 tyX12_ok nmX12 hown hK hP hD hS 0 rfl rfl 0 (by decide) (hw _ mw_6_43) (fun _ h9 => h9) rfl (by decide +kernel) rfl rfl (Nat.le_of_ble_eq_true rfl) dX12_marks_2 (fun H locs hP hD hS => ?_)
  refine lv_aload_n hx hb dX12_marks_5 rfl (lv_at hl 0 rfl) ?_
  have hP : va_P D vwCl (List.flatten (wM aM C (va_up ms 0 0) mw ma ml)) H := hP
  have hD : va_D A (List.flatten (wM aM C (va_up ms 0 0) mw ma ml)) := hD
  refine cGoI (wo := fun u => wM aM C (va_up ms 0 0) mw ma ml) (cRunV (As := []) (rest := []) ⟨hx, hb, hml, hown, hw⟩ hK hN hP hD [0, 1, 2, 3, 4, 5, 6, 7, 8, 9, 10, 11, 12, 13, 14, 15, 16, 17, 18, 19, 20, 21, 22, 23, 24, 25, 26, 27, 28, 29, 30, 31, 32] rfl rfl (k_X12_isRail l D C _ aM  (va_up ms 0 0) mw ma ml  h) (cwV 0 hw (goodV mw_7_204 mw_7_206 mw_s142 mw_1_13 mw_7_207) rfl rfl rfl (by decide +kernel) ⟨Nat.le_of_ble_eq_true rfl, Nat.le_of_ble_eq_true rfl⟩) rfl rfl rfl hl.1 rfl (Nat.le_of_ble_eq_true rfl) dX12_marks_6 ⟨Nat.zero_le _, Nat.zero_le _⟩) hP hD hS hA [0, 1, 2, 3, 4, 5, 6, 7, 8, 9, 10, 11, 12, 13, 14, 15, 16, 17, 18, 19, 20, 21, 22, 23, 24, 25, 26, 27, 28, 29, 30, 31, 32] [] [0, 1, 2, 3, 4, 5, 6, 7, 8, 9, 10, 11, 12, 13, 14, 15, 16, 17, 18, 19, 20, 21, 22, 23, 24, 25, 26, 27, 28, 29, 30, 31, 32] rfl rfl rfl (by decide) rfl (fun _ => rfl) (fun r9 u H locs h hP hD hS => ?_)
  have hP : va_P D vwCl (List.flatten (wM aM C (va_up ms 0 0) mw ma ml)) H := hP
  have hD : va_D A (List.flatten (wM aM C (va_up ms 0 0) mw ma ml)) := hD
  refine lv_if_ne (tgt := 15) hx hb dX12_marks_9 (by decide) (fun c10 => ?_) (fun c10 => ?_)
  · have h := h.1 c10
    refine lv_aload_n hx hb dX12_marks_15 rfl (lv_at hl 0 rfl) ?_
    refine cGoV (wo := fun u => wM aM C (va_up ms 0 0) mw u ml) (cRunV (As := []) (rest := []) ⟨hx, hb, hml, hown, hw⟩ hK hN hP hD [0, 1, 2, 3, 4, 5, 6, 7, 8, 9, 10, 11, 12, 13, 14, 15, 16, 17, 18, 19, 20, 21, 22, 23, 24, 25, 26, 27, 28, 29, 30, 31, 32] rfl rfl (k_X12_laysAside l D C _ aM  (va_up ms 0 0) mw ma ml  h) (cwV 0 hw (goodV mw_8_93 mw_8_95 mw_s161 mw_1_13 mw_8_96) rfl rfl rfl (by decide +kernel) ⟨Nat.le_of_ble_eq_true rfl, Nat.le_of_ble_eq_true rfl⟩) rfl rfl rfl hl.1 rfl (Nat.le_of_ble_eq_true rfl) dX12_marks_16 ⟨Nat.zero_le _, Nat.zero_le _⟩) hP hD hS hA [0, 1, 2, 3, 4, 5, 6, 7, 8, 9, 10, 11, 12, 13, 14, 15, 16, 17, 18, 19, 20, 21, 22, 23, 24, 25, 26, 27, 28, 29, 30, 31, 32] [] [0, 1, 2, 3, 4, 5, 6, 7, 8, 9, 10, 11, 12, 13, 14, 15, 16, 17, 18, 19, 20, 21, 22, 23, 24, 25, 26, 27, 28, 29, 30, 31, 32] rfl rfl rfl (by decide) rfl (fun _ => rfl) (fun ma_11 H locs h hP hD hS => ?_)
    have hP : va_P D vwCl (List.flatten (wM aM C (va_up ms 0 0) mw ma_11 ml)) H := hP
    have hD : va_D A (List.flatten (wM aM C (va_up ms 0 0) mw ma_11 ml)) := hD
    refine lv_iconst (v := (-1)) hx hb dX12_marks_19 (by decide) ?_
    refine lv_istore_n (lv' := [(1, .int (-1)), (0, .ref (aM 0))]) hx hb dX12_marks_20 rfl hl (by decide) rfl (fun ls hl => ?_)
    refine lv_iconst (v := 0) hx hb dX12_marks_21 (by decide) ?_
    refine lv_istore_n (lv' := [(2, .int 0), (1, .int (-1)), (0, .ref (aM 0))]) hx hb dX12_marks_22 rfl hl (by decide) rfl (fun ls hl => ?_)
    obtain ⟨n, h⟩ := h
    exact N23  n (-1) 0 (va_up ms 0 0) ma_11 _ _ _ h hP hD hS (lv_sub hl [2, 1, 0] rfl)
  · have h := h.2 c10
    refine lv_bipush (v := (-2)) hx hb dX12_marks_12 (by decide) ?_
    rw [← hQ]
    exact cRetI (v := (-2)) ((va_up ms 0 0), ma) hx hb hr hlocks hS hP hD h dX12_marks_14
abbrev vsX12_hides : List Cond := Cond.code yX12_hides cX12_hides 4 (some .long) :: WS
abbrev rmX12_hides : Room := { frames := 5, cells := 0, slots := 0, locals := 119 }
set_option maxHeartbeats 4000000 in
set_option maxRecDepth 100000 in
theorem k_X12_hides (l : Launch) (D : va_G) (C : Nat → ClassId) (sz : Nat) (aM : Nat → Nat)  (ms : Nat → Int32) (mw : Nat → Int64) (ma : Nat → Nat → Int32) (ml : Nat → Nat → Int64) (p1 : Int32) {post : Int64 → (Nat → Int32) → (Nat → Nat → Int32) → (Nat → Nat → Int64) → Prop} (h : P_X12_hides ms ma ml p1 post) : Met l yX12_hides vsX12_hides rmX12_hides (cPre D C [.ref (aM 0), .int p1] sz (wM aM C ms mw ma ml)) (cQl D (fun (r : Int64) (u : (Nat → Int32) × (Nat → Nat → Int32) × (Nat → Nat → Int64)) => post r u.1 u.2.1 u.2.2) (fun u => wM aM C u.1 mw u.2.1 u.2.2) (va_A (List.flatten (wM aM C ms mw ma ml)) sz)) 0 0 (va_A (List.flatten (wM aM C ms mw ma ml)) sz) := by
  refine cStart (QA := fun A => cQl D (fun (r : Int64) (u : (Nat → Int32) × (Nat → Nat → Int32) × (Nat → Nat → Int64)) => post r u.1 u.2.1 u.2.2) (fun u => wM aM C u.1 mw u.2.1 u.2.2) A) (cc := cX12_hides) (maxL := 4) (ret := (some .long)) (by decide) (Nat.le_of_ble_eq_true rfl) ?_
  intro p e s m args below meth c A ls hx hb hr hml hown hw hlocks hname hK hN hA hP hD hS hl
  generalize hQ : MQ below _ args s 0 0 A = Q
  have hl : lv_has ls 4 [(0, .ref (aM 0)), (1, .int p1)] := hl
  obtain ⟨H, hH⟩ : ∃ H, H = s.heap := ⟨_, rfl⟩
  obtain ⟨locs, hlo⟩ : ∃ z : List Loc, z = [] := ⟨_, rfl⟩
  have hP : va_P D vwCl (List.flatten (wM aM C ms mw ma ml)) H := by rw [hH]; exact hP
  have hS : va_S A s.heap H locs := by rw [hH, hlo]; exact hS
  rw [show W p l e rmX12_hides s m args below meth c s.heap [] 0 0 Q (F0 m 0 ls []) = W p l e rmX12_hides s m args below meth c H locs 0 0 Q (F0 m 0 ls []) from by rw [hH, hlo]]
  refine lv_aload_n hx hb dX12_hides_0 rfl (lv_at hl 0 rfl) ?_
  refine lv_iconst (v := 0) hx hb dX12_hides_1 (by decide) ?_
  refine va_put (D := D) (ci := 12) (v := .int 0) (ty := .int) (C := RX12) (T := TX12) (N := 51) hx hb hw inW_X12 tyX12 tyX12_ok nmX12 hown hK hP hD hS 0 rfl rfl 0 (by decide) (hw _ mw_6_43) (fun _ h9 => h9) rfl (by decide +kernel) rfl rfl (Nat.le_of_ble_eq_true rfl) dX12_hides_2 (fun H locs hP hD hS => ?_)
  refine lv_aload_n hx hb dX12_hides_5 rfl (lv_at hl 0 rfl) ?_
  refine lv_iload_n hx hb dX12_hides_6 rfl (lv_at hl 1 rfl) ?_
  have hP : va_P D vwCl (List.flatten (wM aM C (va_up ms 0 0) mw ma ml)) H := hP
  have hD : va_D A (List.flatten (wM aM C (va_up ms 0 0) mw ma ml)) := hD
  refine cGoI (wo := fun u => wM aM C (va_up ms 0 0) mw ma ml) (cRunV (As := [.int p1]) (rest := []) ⟨hx, hb, hml, hown, hw⟩ hK hN hP hD [0, 1, 2, 3, 4, 5, 6, 7, 8, 9, 10, 11, 12, 13, 14, 15, 16, 17, 18, 19, 20, 21, 22, 23, 24, 25, 26, 27, 28, 29, 30, 31, 32] rfl rfl (k_X12_isBike l D C _ aM  (va_up ms 0 0) mw ma ml p1 h) (cwV 1 hw (goodV mw_7_143 mw_7_145 mw_s133 mw_1_13 mw_7_146) rfl rfl rfl (by decide +kernel) ⟨Nat.le_of_ble_eq_true rfl, Nat.le_of_ble_eq_true rfl⟩) rfl rfl rfl hl.1 rfl (Nat.le_of_ble_eq_true rfl) dX12_hides_7 ⟨Nat.zero_le _, Nat.zero_le _⟩) hP hD hS hA [0, 1, 2, 3, 4, 5, 6, 7, 8, 9, 10, 11, 12, 13, 14, 15, 16, 17, 18, 19, 20, 21, 22, 23, 24, 25, 26, 27, 28, 29, 30, 31, 32] [] [0, 1, 2, 3, 4, 5, 6, 7, 8, 9, 10, 11, 12, 13, 14, 15, 16, 17, 18, 19, 20, 21, 22, 23, 24, 25, 26, 27, 28, 29, 30, 31, 32] rfl rfl rfl (by decide) rfl (fun _ => rfl) (fun r1 u H locs h hP hD hS => ?_)
  have hP : va_P D vwCl (List.flatten (wM aM C (va_up ms 0 0) mw ma ml)) H := hP
  have hD : va_D A (List.flatten (wM aM C (va_up ms 0 0) mw ma ml)) := hD
  refine lv_if_ne (tgt := 17) hx hb dX12_hides_10 (by decide) (fun c2 => ?_) (fun c2 => ?_)
  · have h := h.1 c2
    refine lv_aload_n hx hb dX12_hides_17 rfl (lv_at hl 0 rfl) ?_
    refine cGoV (wo := fun u => wM aM C (va_up ms 0 0) mw u ml) (cRunV (As := []) (rest := []) ⟨hx, hb, hml, hown, hw⟩ hK hN hP hD [0, 1, 2, 3, 4, 5, 6, 7, 8, 9, 10, 11, 12, 13, 14, 15, 16, 17, 18, 19, 20, 21, 22, 23, 24, 25, 26, 27, 28, 29, 30, 31, 32] rfl rfl (k_X12_laysAside l D C _ aM  (va_up ms 0 0) mw ma ml  h) (cwV 0 hw (goodV mw_8_93 mw_8_95 mw_s161 mw_1_13 mw_8_96) rfl rfl rfl (by decide +kernel) ⟨Nat.le_of_ble_eq_true rfl, Nat.le_of_ble_eq_true rfl⟩) rfl rfl rfl hl.1 rfl (Nat.le_of_ble_eq_true rfl) dX12_hides_18 ⟨Nat.zero_le _, Nat.zero_le _⟩) hP hD hS hA [0, 1, 2, 3, 4, 5, 6, 7, 8, 9, 10, 11, 12, 13, 14, 15, 16, 17, 18, 19, 20, 21, 22, 23, 24, 25, 26, 27, 28, 29, 30, 31, 32] [] [0, 1, 2, 3, 4, 5, 6, 7, 8, 9, 10, 11, 12, 13, 14, 15, 16, 17, 18, 19, 20, 21, 22, 23, 24, 25, 26, 27, 28, 29, 30, 31, 32] rfl rfl rfl (by decide) rfl (fun _ => rfl) (fun ma_3 H locs h hP hD hS => ?_)
    have hP : va_P D vwCl (List.flatten (wM aM C (va_up ms 0 0) mw ma_3 ml)) H := hP
    have hD : va_D A (List.flatten (wM aM C (va_up ms 0 0) mw ma_3 ml)) := hD
    refine lv_aload_n hx hb dX12_hides_21 rfl (lv_at hl 0 rfl) ?_
    refine lv_iconst (v := 0) hx hb dX12_hides_22 (by decide) ?_
    refine cGoV (wo := fun u => wM aM C (va_up ms 0 0) mw u ml) (cRunV (As := [.int 0]) (rest := []) ⟨hx, hb, hml, hown, hw⟩ hK hN hP hD [0, 1, 2, 3, 4, 5, 6, 7, 8, 9, 10, 11, 12, 13, 14, 15, 16, 17, 18, 19, 20, 21, 22, 23, 24, 25, 26, 27, 28, 29, 30, 31, 32] rfl rfl (k_X12_marksSet l D C _ aM  (va_up ms 0 0) mw ma_3 ml 0 h) (cwV 1 hw (goodV mw_8_203 mw_8_205 mw_s170 mw_1_13 mw_8_206) rfl rfl rfl (by decide +kernel) ⟨Nat.le_of_ble_eq_true rfl, Nat.le_of_ble_eq_true rfl⟩) rfl rfl rfl hl.1 rfl (Nat.le_of_ble_eq_true rfl) dX12_hides_23 ⟨Nat.zero_le _, Nat.zero_le _⟩) hP hD hS hA [0, 1, 2, 3, 4, 5, 6, 7, 8, 9, 10, 11, 12, 13, 14, 15, 16, 17, 18, 19, 20, 21, 22, 23, 24, 25, 26, 27, 28, 29, 30, 31, 32] [] [0, 1, 2, 3, 4, 5, 6, 7, 8, 9, 10, 11, 12, 13, 14, 15, 16, 17, 18, 19, 20, 21, 22, 23, 24, 25, 26, 27, 28, 29, 30, 31, 32] rfl rfl rfl (by decide) rfl (fun _ => rfl) (fun ma_4 H locs h hP hD hS => ?_)
    have hP : va_P D vwCl (List.flatten (wM aM C (va_up ms 0 0) mw ma_4 ml)) H := hP
    have hD : va_D A (List.flatten (wM aM C (va_up ms 0 0) mw ma_4 ml)) := hD
    refine lv_aload_n hx hb dX12_hides_26 rfl (lv_at hl 0 rfl) ?_
    refine cGoV (wo := fun u => wM aM C u.1 mw u.2.1 u.2.2) (cRunV (As := []) (rest := []) ⟨hx, hb, hml, hown, hw⟩ hK hN hP hD [0, 1, 2, 3, 4, 5, 6, 7, 8, 9, 10, 11, 12, 13, 14, 15, 16, 17, 18, 19, 20, 21, 22, 23, 24, 25, 26, 27, 28, 29, 30, 31, 32] rfl rfl (k_X12_night l D C _ aM  (va_up ms 0 0) mw ma_4 ml  h) (cwV 0 hw (goodV mw_7_209 mw_7_211 mw_s143 mw_1_13 mw_7_212) rfl rfl rfl (by decide +kernel) ⟨Nat.le_of_ble_eq_true rfl, Nat.le_of_ble_eq_true rfl⟩) rfl rfl rfl hl.1 rfl (Nat.le_of_ble_eq_true rfl) dX12_hides_27 ⟨Nat.zero_le _, Nat.zero_le _⟩) hP hD hS hA [0, 1, 2, 3, 4, 5, 6, 7, 8, 9, 10, 11, 12, 13, 14, 15, 16, 17, 18, 19, 20, 21, 22, 23, 24, 25, 26, 27, 28, 29, 30, 31, 32] [] [0, 1, 2, 3, 4, 5, 6, 7, 8, 9, 10, 11, 12, 13, 14, 15, 16, 17, 18, 19, 20, 21, 22, 23, 24, 25, 26, 27, 28, 29, 30, 31, 32] rfl rfl rfl (by decide) rfl (fun _ => rfl) (fun u H locs h hP hD hS => ?_)
    obtain ⟨ms_5, ma_6, ml_7⟩ := u
    have hP : va_P D vwCl (List.flatten (wM aM C ms_5 mw ma_6 ml_7)) H := hP
    have hD : va_D A (List.flatten (wM aM C ms_5 mw ma_6 ml_7)) := hD
    refine lv_aload_n hx hb dX12_hides_30 rfl (lv_at hl 0 rfl) ?_
    refine lv_iload_n hx hb dX12_hides_31 rfl (lv_at hl 1 rfl) ?_
    refine cGoL (wo := fun u => wM aM C ms_5 mw ma_6 ml_7) (cRunV (As := [.int p1]) (rest := []) ⟨hx, hb, hml, hown, hw⟩ hK hN hP hD [0, 1, 2, 3, 4, 5, 6, 7, 8, 9, 10, 11, 12, 13, 14, 15, 16, 17, 18, 19, 20, 21, 22, 23, 24, 25, 26, 27, 28, 29, 30, 31, 32] rfl rfl (k_X12_lossOf l D C _ aM  ms_5 mw ma_6 ml_7 p1 h) (cwV 1 hw (goodV mw_8_11 mw_8_13 mw_s148 mw_1_13 mw_8_14) rfl rfl rfl (by decide +kernel) ⟨Nat.le_of_ble_eq_true rfl, Nat.le_of_ble_eq_true rfl⟩) rfl rfl rfl hl.1 rfl (Nat.le_of_ble_eq_true rfl) dX12_hides_32 ⟨Nat.zero_le _, Nat.zero_le _⟩) hP hD hS hA [0, 1, 2, 3, 4, 5, 6, 7, 8, 9, 10, 11, 12, 13, 14, 15, 16, 17, 18, 19, 20, 21, 22, 23, 24, 25, 26, 27, 28, 29, 30, 31, 32] [] [0, 1, 2, 3, 4, 5, 6, 7, 8, 9, 10, 11, 12, 13, 14, 15, 16, 17, 18, 19, 20, 21, 22, 23, 24, 25, 26, 27, 28, 29, 30, 31, 32] rfl rfl rfl (by decide) rfl (fun _ => rfl) (fun r8 u H locs h hP hD hS => ?_)
    have hP : va_P D vwCl (List.flatten (wM aM C ms_5 mw ma_6 ml_7)) H := hP
    have hD : va_D A (List.flatten (wM aM C ms_5 mw ma_6 ml_7)) := hD
    refine lv_lstore_n (lv' := [(2, .long r8), (0, .ref (aM 0)), (1, .int p1)]) hx hb dX12_hides_35 rfl hl (by decide) rfl (fun ls hl => ?_)
    refine lv_aload_n hx hb dX12_hides_36 rfl (lv_at hl 1 rfl) ?_
    refine lv_iconst (v := 1) hx hb dX12_hides_37 (by decide) ?_
    refine lv_aload_n hx hb dX12_hides_38 rfl (lv_at hl 1 rfl) ?_
    refine va_get (D := D) (ci := 12) (v := .ref (aM 13)) (C := RX12) (T := TX12) (N := 51) hx hb hw inW_X12 hown hK hP 0 rfl rfl 23 (by decide) (hw _ mw_6_66) (fun _ h9 => h9) rfl dX12_hides_39 ?_
    refine lv_iconst (v := 0) hx hb dX12_hides_42 (by decide) ?_
    refine cIald hx hb hK hP 13 0 rfl rfl 0 (by decide +kernel) (cIn (by decide +kernel)) dX12_hides_43 ?_
    refine lv_ishl hx hb dX12_hides_44 ?_
    refine lv_iconst (v := 1) hx hb dX12_hides_45 (by decide) ?_
    refine lv_isub hx hb dX12_hides_46 ?_
    refine lv_iconst (v := 1) hx hb dX12_hides_47 (by decide) ?_
    refine lv_iload_n hx hb dX12_hides_48 rfl (lv_at hl 2 rfl) ?_
    refine lv_ishl hx hb dX12_hides_49 ?_
    refine lv_iconst (v := (-1)) hx hb dX12_hides_50 (by decide) ?_
    refine lv_ixor hx hb dX12_hides_51 ?_
    refine lv_iand hx hb dX12_hides_52 ?_
    refine cGoV (wo := fun u => wM aM C ms_5 mw u ml_7) (cRunV (As := [.int ((((1 : Int32) <<< ((ma_6 10 0) &&& 31)) - 1) &&& (((1 : Int32) <<< (p1 &&& 31)) ^^^ (-1)))]) (rest := []) ⟨hx, hb, hml, hown, hw⟩ hK hN hP hD [0, 1, 2, 3, 4, 5, 6, 7, 8, 9, 10, 11, 12, 13, 14, 15, 16, 17, 18, 19, 20, 21, 22, 23, 24, 25, 26, 27, 28, 29, 30, 31, 32] rfl rfl (k_X12_marksSet l D C _ aM  ms_5 mw ma_6 ml_7 ((((1 : Int32) <<< ((ma_6 10 0) &&& 31)) - 1) &&& (((1 : Int32) <<< (p1 &&& 31)) ^^^ (-1))) h) (cwV 1 hw (goodV mw_8_203 mw_8_205 mw_s170 mw_1_13 mw_8_206) rfl rfl rfl (by decide +kernel) ⟨Nat.le_of_ble_eq_true rfl, Nat.le_of_ble_eq_true rfl⟩) rfl rfl rfl hl.1 rfl (Nat.le_of_ble_eq_true rfl) dX12_hides_53 ⟨Nat.zero_le _, Nat.zero_le _⟩) hP hD hS hA [0, 1, 2, 3, 4, 5, 6, 7, 8, 9, 10, 11, 12, 13, 14, 15, 16, 17, 18, 19, 20, 21, 22, 23, 24, 25, 26, 27, 28, 29, 30, 31, 32] [] [0, 1, 2, 3, 4, 5, 6, 7, 8, 9, 10, 11, 12, 13, 14, 15, 16, 17, 18, 19, 20, 21, 22, 23, 24, 25, 26, 27, 28, 29, 30, 31, 32] rfl rfl rfl (by decide) rfl (fun _ => rfl) (fun ma_9 H locs h hP hD hS => ?_)
    have hP : va_P D vwCl (List.flatten (wM aM C ms_5 mw ma_9 ml_7)) H := hP
    have hD : va_D A (List.flatten (wM aM C ms_5 mw ma_9 ml_7)) := hD
    refine lv_aload_n hx hb dX12_hides_56 rfl (lv_at hl 1 rfl) ?_
    refine cGoV (wo := fun u => wM aM C u.1 mw u.2.1 u.2.2) (cRunV (As := []) (rest := []) ⟨hx, hb, hml, hown, hw⟩ hK hN hP hD [0, 1, 2, 3, 4, 5, 6, 7, 8, 9, 10, 11, 12, 13, 14, 15, 16, 17, 18, 19, 20, 21, 22, 23, 24, 25, 26, 27, 28, 29, 30, 31, 32] rfl rfl (k_X12_night l D C _ aM  ms_5 mw ma_9 ml_7  h) (cwV 0 hw (goodV mw_7_209 mw_7_211 mw_s143 mw_1_13 mw_7_212) rfl rfl rfl (by decide +kernel) ⟨Nat.le_of_ble_eq_true rfl, Nat.le_of_ble_eq_true rfl⟩) rfl rfl rfl hl.1 rfl (Nat.le_of_ble_eq_true rfl) dX12_hides_57 ⟨Nat.zero_le _, Nat.zero_le _⟩) hP hD hS hA [0, 1, 2, 3, 4, 5, 6, 7, 8, 9, 10, 11, 12, 13, 14, 15, 16, 17, 18, 19, 20, 21, 22, 23, 24, 25, 26, 27, 28, 29, 30, 31, 32] [] [0, 1, 2, 3, 4, 5, 6, 7, 8, 9, 10, 11, 12, 13, 14, 15, 16, 17, 18, 19, 20, 21, 22, 23, 24, 25, 26, 27, 28, 29, 30, 31, 32] rfl rfl rfl (by decide) rfl (fun _ => rfl) (fun u H locs h hP hD hS => ?_)
    obtain ⟨ms_10, ma_11, ml_12⟩ := u
    have hP : va_P D vwCl (List.flatten (wM aM C ms_10 mw ma_11 ml_12)) H := hP
    have hD : va_D A (List.flatten (wM aM C ms_10 mw ma_11 ml_12)) := hD
    refine lv_lload_n hx hb dX12_hides_60 rfl (lv_at hl 0 rfl) ?_
    refine lv_aload_n hx hb dX12_hides_61 rfl (lv_at hl 1 rfl) ?_
    refine lv_iload_n hx hb dX12_hides_62 rfl (lv_at hl 2 rfl) ?_
    refine cGoL (wo := fun u => wM aM C ms_10 mw ma_11 ml_12) (cRunV (As := [.int p1]) (rest := [.long r8]) ⟨hx, hb, hml, hown, hw⟩ hK hN hP hD [0, 1, 2, 3, 4, 5, 6, 7, 8, 9, 10, 11, 12, 13, 14, 15, 16, 17, 18, 19, 20, 21, 22, 23, 24, 25, 26, 27, 28, 29, 30, 31, 32] rfl rfl (k_X12_lossOf l D C _ aM  ms_10 mw ma_11 ml_12 p1 h) (cwV 1 hw (goodV mw_8_11 mw_8_13 mw_s148 mw_1_13 mw_8_14) rfl rfl rfl (by decide +kernel) ⟨Nat.le_of_ble_eq_true rfl, Nat.le_of_ble_eq_true rfl⟩) rfl rfl rfl hl.1 rfl (Nat.le_of_ble_eq_true rfl) dX12_hides_63 ⟨Nat.zero_le _, Nat.zero_le _⟩) hP hD hS hA [0, 1, 2, 3, 4, 5, 6, 7, 8, 9, 10, 11, 12, 13, 14, 15, 16, 17, 18, 19, 20, 21, 22, 23, 24, 25, 26, 27, 28, 29, 30, 31, 32] [] [0, 1, 2, 3, 4, 5, 6, 7, 8, 9, 10, 11, 12, 13, 14, 15, 16, 17, 18, 19, 20, 21, 22, 23, 24, 25, 26, 27, 28, 29, 30, 31, 32] rfl rfl rfl (by decide) rfl (fun _ => rfl) (fun r13 u H locs h hP hD hS => ?_)
    have hP : va_P D vwCl (List.flatten (wM aM C ms_10 mw ma_11 ml_12)) H := hP
    have hD : va_D A (List.flatten (wM aM C ms_10 mw ma_11 ml_12)) := hD
    refine lv_lsub hx hb dX12_hides_66 ?_
    refine lv_topl (fun x14 ex14 => ?_)
    have h := h x14 ex14
    refine lv_lstore_n (lv' := [(2, .long x14), (0, .ref (aM 0)), (1, .int p1)]) hx hb dX12_hides_67 rfl hl (by decide) rfl (fun ls hl => ?_)
    refine lv_aload_n hx hb dX12_hides_68 rfl (lv_at hl 1 rfl) ?_
    refine cGoV (wo := fun u => wM aM C ms_10 mw u ml_12) (cRunV (As := []) (rest := []) ⟨hx, hb, hml, hown, hw⟩ hK hN hP hD [0, 1, 2, 3, 4, 5, 6, 7, 8, 9, 10, 11, 12, 13, 14, 15, 16, 17, 18, 19, 20, 21, 22, 23, 24, 25, 26, 27, 28, 29, 30, 31, 32] rfl rfl (k_X12_takesBack l D C _ aM  ms_10 mw ma_11 ml_12  h) (cwV 0 hw (goodV mw_8_97 mw_8_99 mw_s162 mw_1_13 mw_8_100) rfl rfl rfl (by decide +kernel) ⟨Nat.le_of_ble_eq_true rfl, Nat.le_of_ble_eq_true rfl⟩) rfl rfl rfl hl.1 rfl (Nat.le_of_ble_eq_true rfl) dX12_hides_69 ⟨Nat.zero_le _, Nat.zero_le _⟩) hP hD hS hA [0, 1, 2, 3, 4, 5, 6, 7, 8, 9, 10, 11, 12, 13, 14, 15, 16, 17, 18, 19, 20, 21, 22, 23, 24, 25, 26, 27, 28, 29, 30, 31, 32] [] [0, 1, 2, 3, 4, 5, 6, 7, 8, 9, 10, 11, 12, 13, 14, 15, 16, 17, 18, 19, 20, 21, 22, 23, 24, 25, 26, 27, 28, 29, 30, 31, 32] rfl rfl rfl (by decide) rfl (fun _ => rfl) (fun ma_15 H locs h hP hD hS => ?_)
    have hP : va_P D vwCl (List.flatten (wM aM C ms_10 mw ma_15 ml_12)) H := hP
    have hD : va_D A (List.flatten (wM aM C ms_10 mw ma_15 ml_12)) := hD
    refine lv_lload_n hx hb dX12_hides_72 rfl (lv_at hl 0 rfl) ?_
    rw [← hQ]
    exact cRetL (v := x14) (ms_10, ma_15, ml_12) hx hb hr hlocks hS hP hD h dX12_hides_73
  · have h := h.2 c2
    refine lv_ldc2 (v := (-1000000000000)) hx hb hown (hw _ mw_8_134) dX12_hides_13 ?_
    rw [← hQ]
    exact cRetL (v := (-1000000000000)) ((va_up ms 0 0), ma, ml) hx hb hr hlocks hS hP hD h dX12_hides_16
