abbrev vsX12_bait : List Cond := Cond.code yX12_bait cX12_bait 5 (some .long) :: WS
abbrev rmX12_bait : Room := { frames := 5, cells := 0, slots := 0, locals := 124 }
set_option maxHeartbeats 4000000 in
set_option maxRecDepth 100000 in
theorem k_X12_bait (l : Launch) (D : va_G) (C : Nat → ClassId) (sz : Nat) (aM : Nat → Nat)  (ms : Nat → Int32) (mw : Nat → Int64) (ma : Nat → Nat → Int32) (ml : Nat → Nat → Int64) (p1 : Int32) (p2 : Int32) (p3 : Int32) {post : Int64 → (Nat → Int32) → (Nat → Int64) → (Nat → Nat → Int32) → (Nat → Nat → Int64) → Prop} (h : P_X12_bait ms mw ma ml p1 p2 p3 post) : Met l yX12_bait vsX12_bait rmX12_bait (cPre D C [.ref (aM 0), .int p1, .int p2, .int p3] sz (wM aM C ms mw ma ml)) (cQl D (fun (r : Int64) (u : (Nat → Int32) × (Nat → Int64) × (Nat → Nat → Int32) × (Nat → Nat → Int64)) => post r u.1 u.2.1 u.2.2.1 u.2.2.2) (fun u => wM aM C u.1 u.2.1 u.2.2.1 u.2.2.2) (va_A (List.flatten (wM aM C ms mw ma ml)) sz)) 0 0 (va_A (List.flatten (wM aM C ms mw ma ml)) sz) := by
  refine cStart (QA := fun A => cQl D (fun (r : Int64) (u : (Nat → Int32) × (Nat → Int64) × (Nat → Nat → Int32) × (Nat → Nat → Int64)) => post r u.1 u.2.1 u.2.2.1 u.2.2.2) (fun u => wM aM C u.1 u.2.1 u.2.2.1 u.2.2.2) A) (cc := cX12_bait) (maxL := 5) (ret := (some .long)) (by decide) (Nat.le_of_ble_eq_true rfl) ?_
  intro p e s m args below meth c A ls hx hb hr hml hown hw hlocks hname hK hN hA hP hD hS hl
  generalize hQ : MQ below _ args s 0 0 A = Q
  have hl : lv_has ls 5 [(0, .ref (aM 0)), (1, .int p1), (2, .int p2), (3, .int p3)] := hl
  obtain ⟨H, hH⟩ : ∃ H, H = s.heap := ⟨_, rfl⟩
  obtain ⟨locs, hlo⟩ : ∃ z : List Loc, z = [] := ⟨_, rfl⟩
  have hP : va_P D vwCl (List.flatten (wM aM C ms mw ma ml)) H := by rw [hH]; exact hP
  have hS : va_S A s.heap H locs := by rw [hH, hlo]; exact hS
  rw [show W p l e rmX12_bait s m args below meth c s.heap [] 0 0 Q (F0 m 0 ls []) = W p l e rmX12_bait s m args below meth c H locs 0 0 Q (F0 m 0 ls []) from by rw [hH, hlo]]
  refine lv_aload_n hx hb dX12_bait_0 rfl (lv_at hl 0 rfl) ?_
  refine lv_iconst (v := 0) hx hb dX12_bait_1 (by decide) ?_
  refine va_put (D := D) (ci := 12) (v := .int 0) (ty := .int) (C := RX12) (T := TX12) (N := 51) hx hb hw inW_X12 tyX12 tyX12_ok nmX12 hown hK hP hD hS 0 rfl rfl 0 (by decide) (hw _ mw_6_43) (fun _ h9 => h9) rfl (by decide +kernel) rfl rfl (Nat.le_of_ble_eq_true rfl) dX12_bait_2 (fun H locs hP hD hS => ?_)
  refine lv_aload_n hx hb dX12_bait_5 rfl (lv_at hl 0 rfl) ?_
  refine lv_iload_n hx hb dX12_bait_6 rfl (lv_at hl 1 rfl) ?_
  refine lv_iload_n hx hb dX12_bait_7 rfl (lv_at hl 2 rfl) ?_
  refine lv_iload_n hx hb dX12_bait_8 rfl (lv_at hl 3 rfl) ?_
  have hP : va_P D vwCl (List.flatten (wM aM C (va_up ms 0 0) mw ma ml)) H := hP
  have hD : va_D A (List.flatten (wM aM C (va_up ms 0 0) mw ma ml)) := hD
  refine cGoI (wo := fun u => wM aM C (va_up ms 0 0) mw ma ml) (cRunV (As := [.int p1, .int p2, .int p3]) (rest := []) ⟨hx, hb, hml, hown, hw⟩ hK hN hP hD [0, 1, 2, 3, 4, 5, 6, 7, 8, 9, 10, 11, 12, 13, 14, 15, 16, 17, 18, 19, 20, 21, 22, 23, 24, 25, 26, 27, 28, 29, 30, 31, 32] rfl rfl (k_X12_whyNot l D C _ aM  (va_up ms 0 0) mw ma ml p1 p2 p3 h) (cwV 3 hw (goodV mw_8_219 mw_8_221 mw_s172 mw_1_13 mw_8_222) rfl rfl rfl (by decide +kernel) ⟨Nat.le_of_ble_eq_true rfl, Nat.le_of_ble_eq_true rfl⟩) rfl rfl rfl hl.1 rfl (Nat.le_of_ble_eq_true rfl) dX12_bait_9 ⟨Nat.zero_le _, Nat.zero_le _⟩) hP hD hS hA [0, 1, 2, 3, 4, 5, 6, 7, 8, 9, 10, 11, 12, 13, 14, 15, 16, 17, 18, 19, 20, 21, 22, 23, 24, 25, 26, 27, 28, 29, 30, 31, 32] [] [0, 1, 2, 3, 4, 5, 6, 7, 8, 9, 10, 11, 12, 13, 14, 15, 16, 17, 18, 19, 20, 21, 22, 23, 24, 25, 26, 27, 28, 29, 30, 31, 32] rfl rfl rfl (by decide) rfl (fun _ => rfl) (fun r1 u H locs h hP hD hS => ?_)
  have hP : va_P D vwCl (List.flatten (wM aM C (va_up ms 0 0) mw ma ml)) H := hP
  have hD : va_D A (List.flatten (wM aM C (va_up ms 0 0) mw ma ml)) := hD
  refine lv_istore (lv' := [(4, .int r1), (0, .ref (aM 0)), (1, .int p1), (2, .int p2), (3, .int p3)]) hx hb dX12_bait_12 hl (by decide) rfl (fun ls hl => ?_)
  refine lv_iload hx hb dX12_bait_14 (lv_at hl 0 rfl) ?_
  refine lv_if_eq (tgt := 23) hx hb dX12_bait_16 (by decide) (fun c2 => ?_) (fun c2 => ?_)
  · have h := h.1 c2
    refine lv_aload_n hx hb dX12_bait_23 rfl (lv_at hl 1 rfl) ?_
    refine lv_iload_n hx hb dX12_bait_24 rfl (lv_at hl 2 rfl) ?_
    refine lv_iload_n hx hb dX12_bait_25 rfl (lv_at hl 3 rfl) ?_
    refine lv_iload_n hx hb dX12_bait_26 rfl (lv_at hl 4 rfl) ?_
    refine cGoV (wo := fun u => wM aM C u.1 u.2.1 u.2.2.1 u.2.2.2) (cRunV (As := [.int p1, .int p2, .int p3]) (rest := []) ⟨hx, hb, hml, hown, hw⟩ hK hN hP hD [0, 1, 2, 3, 4, 5, 6, 7, 8, 9, 10, 11, 12, 13, 14, 15, 16, 17, 18, 19, 20, 21, 22, 23, 24, 25, 26, 27, 28, 29, 30, 31, 32] rfl rfl (k_X12_baits l D C _ aM  (va_up ms 0 0) mw ma ml p1 p2 p3 h) (cwV 3 hw (goodV mw_8_224 mw_8_226 mw_s173 mw_1_13 mw_8_227) rfl rfl rfl (by decide +kernel) ⟨Nat.le_of_ble_eq_true rfl, Nat.le_of_ble_eq_true rfl⟩) rfl rfl rfl hl.1 rfl (Nat.le_of_ble_eq_true rfl) dX12_bait_27 ⟨Nat.zero_le _, Nat.zero_le _⟩) hP hD hS hA [0, 1, 2, 3, 4, 5, 6, 7, 8, 9, 10, 11, 12, 13, 14, 15, 16, 17, 18, 19, 20, 21, 22, 23, 24, 25, 26, 27, 28, 29, 30, 31, 32] [] [0, 1, 2, 3, 4, 5, 6, 7, 8, 9, 10, 11, 12, 13, 14, 15, 16, 17, 18, 19, 20, 21, 22, 23, 24, 25, 26, 27, 28, 29, 30, 31, 32] rfl rfl rfl (by decide) rfl (fun _ => rfl) (fun u H locs h hP hD hS => ?_)
    obtain ⟨ms_3, mw_4, ma_5, ml_6⟩ := u
    have hP : va_P D vwCl (List.flatten (wM aM C ms_3 mw_4 ma_5 ml_6)) H := hP
    have hD : va_D A (List.flatten (wM aM C ms_3 mw_4 ma_5 ml_6)) := hD
    refine lv_aload_n hx hb dX12_bait_30 rfl (lv_at hl 1 rfl) ?_
    refine va_get (D := D) (ci := 12) (v := .long (mw_4 2)) (C := RX12) (T := TX12) (N := 51) hx hb hw inW_X12 hown hK hP 0 rfl rfl 47 (by decide) (hw _ mw_6_90) (fun _ h9 => h9) rfl dX12_bait_31 ?_
    refine lv_ldc2 (v := 1000000000) hx hb hown (hw _ mw_8_15) dX12_bait_34 ?_
    refine lv_ldiv hx hb dX12_bait_37 (by decide) ?_
    rw [← hQ]
    exact cRetL (v := ((mw_4 2) / 1000000000)) (ms_3, mw_4, ma_5, ml_6) hx hb hr hlocks hS hP hD h dX12_bait_38
  · have h := h.2 c2
    refine lv_iload hx hb dX12_bait_19 (lv_at hl 0 rfl) ?_
    refine lv_i2l hx hb dX12_bait_21 rfl ?_
    rw [← hQ]
    exact cRetL (v := r1.toInt64) ((va_up ms 0 0), mw, ma, ml) hx hb hr hlocks hS hP hD h dX12_bait_22
abbrev vsX12_caught : List Cond := Cond.code yX12_caught cX12_caught 9 (some .long) :: WS
abbrev rmX12_caught : Room := { frames := 5, cells := 0, slots := 0, locals := 124 }
set_option maxHeartbeats 4000000 in
set_option maxRecDepth 100000 in
theorem k_X12_caught (l : Launch) (D : va_G) (C : Nat → ClassId) (sz : Nat) (aM : Nat → Nat)  (ms : Nat → Int32) (mw : Nat → Int64) (ma : Nat → Nat → Int32) (ml : Nat → Nat → Int64) (p1 : Int32) (p2 : Int32) (p3 : Int32) (p4 : Int32) {post : Int64 → (Nat → Int32) → (Nat → Int64) → (Nat → Nat → Int32) → (Nat → Nat → Int64) → Prop} (h : P_X12_caught ms mw ma ml p1 p2 p3 p4 post) : Met l yX12_caught vsX12_caught rmX12_caught (cPre D C [.ref (aM 0), .int p1, .int p2, .int p3, .int p4] sz (wM aM C ms mw ma ml)) (cQl D (fun (r : Int64) (u : (Nat → Int32) × (Nat → Int64) × (Nat → Nat → Int32) × (Nat → Nat → Int64)) => post r u.1 u.2.1 u.2.2.1 u.2.2.2) (fun u => wM aM C u.1 u.2.1 u.2.2.1 u.2.2.2) (va_A (List.flatten (wM aM C ms mw ma ml)) sz)) 0 0 (va_A (List.flatten (wM aM C ms mw ma ml)) sz) := by
  refine cStart (QA := fun A => cQl D (fun (r : Int64) (u : (Nat → Int32) × (Nat → Int64) × (Nat → Nat → Int32) × (Nat → Nat → Int64)) => post r u.1 u.2.1 u.2.2.1 u.2.2.2) (fun u => wM aM C u.1 u.2.1 u.2.2.1 u.2.2.2) A) (cc := cX12_caught) (maxL := 9) (ret := (some .long)) (by decide) (Nat.le_of_ble_eq_true rfl) ?_
  intro p e s m args below meth c A ls hx hb hr hml hown hw hlocks hname hK hN hA hP hD hS hl
  generalize hQ : MQ below _ args s 0 0 A = Q
  have hl : lv_has ls 9 [(0, .ref (aM 0)), (1, .int p1), (2, .int p2), (3, .int p3), (4, .int p4)] := hl
  obtain ⟨H, hH⟩ : ∃ H, H = s.heap := ⟨_, rfl⟩
  obtain ⟨locs, hlo⟩ : ∃ z : List Loc, z = [] := ⟨_, rfl⟩
  have hP : va_P D vwCl (List.flatten (wM aM C ms mw ma ml)) H := by rw [hH]; exact hP
  have hS : va_S A s.heap H locs := by rw [hH, hlo]; exact hS
  rw [show W p l e rmX12_caught s m args below meth c s.heap [] 0 0 Q (F0 m 0 ls []) = W p l e rmX12_caught s m args below meth c H locs 0 0 Q (F0 m 0 ls []) from by rw [hH, hlo]]
  have N50 : ∀ (ms : Nat → Int32) (mw : Nat → Int64) (ma : Nat → Nat → Int32) (ml : Nat → Nat → Int64) (n50 : Nat) (x6_ : Int64) (x8_ : Int32) (H : Heap) (locs : List Loc) (ls : Array Slot), P_X12_caught_50 p1 p2 p3 p4 post  ms mw ma ml n50 x6_ x8_ → va_P D vwCl (List.flatten (wM aM C ms mw ma ml)) H → va_D A (List.flatten (wM aM C ms mw ma ml)) → va_S A s.heap H locs → lv_has ls 9 [(0, .ref (aM 0)), (1, .int p1), (6, .long x6_), (8, .int x8_)] → W p l e rmX12_caught s m args below meth c H locs 0 0 Q (F0 m 50 ls []) := by
    intro ms mw ma ml
    intro n50
    induction n50 with
    | zero => intro x6_ x8_ H locs ls h hP hD hS hl; exact False.elim h
    | succ n50 ih50 =>
      intro x6_ x8_ H locs ls h hP hD hS hl
      refine lv_iload hx hb dX12_caught_50 (lv_at hl 3 rfl) ?_
      refine lv_iconst (v := 1) hx hb dX12_caught_52 (by decide) ?_
      refine lv_aload_n hx hb dX12_caught_53 rfl (lv_at hl 0 rfl) ?_
      refine va_get (D := D) (ci := 12) (v := .ref (aM 15)) (C := RX12) (T := TX12) (N := 51) hx hb hw inW_X12 hown hK hP 0 rfl rfl 25 (by decide) (hw _ mw_6_68) (fun _ h9 => h9) rfl dX12_caught_54 ?_
      refine lv_iconst (v := 0) hx hb dX12_caught_57 (by decide) ?_
      refine cIald hx hb hK hP 15 0 rfl rfl 0 (by decide +kernel) (cIn (by decide +kernel)) dX12_caught_58 ?_
      refine lv_ishl hx hb dX12_caught_59 ?_
      refine lv_icmp_ge (tgt := 95) hx hb dX12_caught_60 (by decide) (fun c1 => ?_) (fun c1 => ?_)
      · have h := h.1 c1
        refine lv_lload hx hb dX12_caught_95 (lv_at hl 2 rfl) ?_
        rw [← hQ]
        exact cRetL (v := x6_) (ms, mw, ma, ml) hx hb hr hlocks hS hP hD h dX12_caught_97
      · have h := h.2 c1
        refine lv_lload hx hb dX12_caught_63 (lv_at hl 2 rfl) ?_
        refine lv_iload hx hb dX12_caught_65 (lv_at hl 3 rfl) ?_
        refine lv_iload_n hx hb dX12_caught_67 rfl (lv_at hl 1 rfl) ?_
        refine lv_ishr hx hb dX12_caught_68 ?_
        refine lv_iconst (v := 1) hx hb dX12_caught_69 (by decide) ?_
        refine lv_iand hx hb dX12_caught_70 ?_
        refine lv_iconst (v := 1) hx hb dX12_caught_71 (by decide) ?_
        refine lv_icmp_ne (tgt := 85) hx hb dX12_caught_72 (by decide) (fun c2 => ?_) (fun c2 => ?_)
        · have h := h.1 c2
          refine lv_lconst (v := 0) hx hb dX12_caught_85 (by decide) ?_
          refine lv_ladd hx hb dX12_caught_86 ?_
          refine lv_topl (fun x3 ex3 => ?_)
          have h := h x3 ex3
          refine lv_lstore (lv' := [(6, .long x3), (0, .ref (aM 0)), (1, .int p1), (8, .int x8_)]) hx hb dX12_caught_87 hl (by decide) rfl (fun ls hl => ?_)
          refine lv_iinc (v := (x8_ + 1)) (lv' := [(8, .int (x8_ + 1)), (6, .long x3), (0, .ref (aM 0)), (1, .int p1)]) hx hb dX12_caught_89 hl (k := 3) rfl rfl (by decide) rfl (fun ls hl => ?_)
          refine lv_goto (tgt := 50) hx hb dX12_caught_92 (by decide) ?_
          exact ih50 x3 (x8_ + 1) _ _ _ h hP hD hS (lv_sub hl [2, 3, 1, 0] rfl)
        · have h := h.2 c2
          refine lv_aload_n hx hb dX12_caught_75 rfl (lv_at hl 0 rfl) ?_
          refine va_get (D := D) (ci := 12) (v := .ref (aM 31)) (C := RX12) (T := TX12) (N := 51) hx hb hw inW_X12 hown hK hP 0 rfl rfl 46 (by decide) (hw _ mw_6_89) (fun _ h9 => h9) rfl dX12_caught_76 ?_
          refine lv_iload hx hb dX12_caught_79 (lv_at hl 3 rfl) ?_
          refine cLald hx hb hK hP 31 1 rfl rfl x8_.toNatClampNeg rfl h.1 dX12_caught_81 ?_
          have h := h.2
          refine lv_goto (tgt := 86) hx hb dX12_caught_82 (by decide) ?_
          refine lv_ladd hx hb dX12_caught_86 ?_
          refine lv_topl (fun x4 ex4 => ?_)
          have h := h x4 ex4
          refine lv_lstore (lv' := [(6, .long x4), (0, .ref (aM 0)), (1, .int p1), (8, .int x8_)]) hx hb dX12_caught_87 hl (by decide) rfl (fun ls hl => ?_)
          refine lv_iinc (v := (x8_ + 1)) (lv' := [(8, .int (x8_ + 1)), (6, .long x4), (0, .ref (aM 0)), (1, .int p1)]) hx hb dX12_caught_89 hl (k := 3) rfl rfl (by decide) rfl (fun ls hl => ?_)
          refine lv_goto (tgt := 50) hx hb dX12_caught_92 (by decide) ?_
          exact ih50 x4 (x8_ + 1) _ _ _ h hP hD hS (lv_sub hl [2, 3, 1, 0] rfl)
  refine lv_aload_n hx hb dX12_caught_0 rfl (lv_at hl 0 rfl) ?_
  refine lv_iconst (v := 0) hx hb dX12_caught_1 (by decide) ?_
  refine va_put (D := D) (ci := 12) (v := .int 0) (ty := .int) (C := RX12) (T := TX12) (N := 51) hx hb hw inW_X12 tyX12 tyX12_ok nmX12 hown hK hP hD hS 0 rfl rfl 0 (by decide) (hw _ mw_6_43) (fun _ h9 => h9) rfl (by decide +kernel) rfl rfl (Nat.le_of_ble_eq_true rfl) dX12_caught_2 (fun H locs hP hD hS => ?_)
  refine lv_aload_n hx hb dX12_caught_5 rfl (lv_at hl 0 rfl) ?_
  refine lv_iload_n hx hb dX12_caught_6 rfl (lv_at hl 1 rfl) ?_
  have hP : va_P D vwCl (List.flatten (wM aM C (va_up ms 0 0) mw ma ml)) H := hP
  have hD : va_D A (List.flatten (wM aM C (va_up ms 0 0) mw ma ml)) := hD
  refine cGoI (wo := fun u => wM aM C (va_up ms 0 0) mw ma ml) (cRunV (As := [.int p1]) (rest := []) ⟨hx, hb, hml, hown, hw⟩ hK hN hP hD [0, 1, 2, 3, 4, 5, 6, 7, 8, 9, 10, 11, 12, 13, 14, 15, 16, 17, 18, 19, 20, 21, 22, 23, 24, 25, 26, 27, 28, 29, 30, 31, 32] rfl rfl (k_X12_isThief l D C _ aM  (va_up ms 0 0) mw ma ml p1 h) (cwV 1 hw (goodV mw_7_155 mw_7_157 mw_s134 mw_1_13 mw_7_158) rfl rfl rfl (by decide +kernel) ⟨Nat.le_of_ble_eq_true rfl, Nat.le_of_ble_eq_true rfl⟩) rfl rfl rfl hl.1 rfl (Nat.le_of_ble_eq_true rfl) dX12_caught_7 ⟨Nat.zero_le _, Nat.zero_le _⟩) hP hD hS hA [0, 1, 2, 3, 4, 5, 6, 7, 8, 9, 10, 11, 12, 13, 14, 15, 16, 17, 18, 19, 20, 21, 22, 23, 24, 25, 26, 27, 28, 29, 30, 31, 32] [] [0, 1, 2, 3, 4, 5, 6, 7, 8, 9, 10, 11, 12, 13, 14, 15, 16, 17, 18, 19, 20, 21, 22, 23, 24, 25, 26, 27, 28, 29, 30, 31, 32] rfl rfl rfl (by decide) rfl (fun _ => rfl) (fun r5 u H locs h hP hD hS => ?_)
  have hP : va_P D vwCl (List.flatten (wM aM C (va_up ms 0 0) mw ma ml)) H := hP
  have hD : va_D A (List.flatten (wM aM C (va_up ms 0 0) mw ma ml)) := hD
  refine lv_if_ne (tgt := 17) hx hb dX12_caught_10 (by decide) (fun c6 => ?_) (fun c6 => ?_)
  · have h := h.1 c6
    refine lv_aload_n hx hb dX12_caught_17 rfl (lv_at hl 0 rfl) ?_
    refine lv_iload_n hx hb dX12_caught_18 rfl (lv_at hl 2 rfl) ?_
    refine lv_iload_n hx hb dX12_caught_19 rfl (lv_at hl 3 rfl) ?_
    refine lv_iload hx hb dX12_caught_20 (lv_at hl 4 rfl) ?_
    refine cGoI (wo := fun u => wM aM C (va_up ms 0 0) mw ma ml) (cRunV (As := [.int p2, .int p3, .int p4]) (rest := []) ⟨hx, hb, hml, hown, hw⟩ hK hN hP hD [0, 1, 2, 3, 4, 5, 6, 7, 8, 9, 10, 11, 12, 13, 14, 15, 16, 17, 18, 19, 20, 21, 22, 23, 24, 25, 26, 27, 28, 29, 30, 31, 32] rfl rfl (k_X12_whyNot l D C _ aM  (va_up ms 0 0) mw ma ml p2 p3 p4 h) (cwV 3 hw (goodV mw_8_219 mw_8_221 mw_s172 mw_1_13 mw_8_222) rfl rfl rfl (by decide +kernel) ⟨Nat.le_of_ble_eq_true rfl, Nat.le_of_ble_eq_true rfl⟩) rfl rfl rfl hl.1 rfl (Nat.le_of_ble_eq_true rfl) dX12_caught_22 ⟨Nat.zero_le _, Nat.zero_le _⟩) hP hD hS hA [0, 1, 2, 3, 4, 5, 6, 7, 8, 9, 10, 11, 12, 13, 14, 15, 16, 17, 18, 19, 20, 21, 22, 23, 24, 25, 26, 27, 28, 29, 30, 31, 32] [] [0, 1, 2, 3, 4, 5, 6, 7, 8, 9, 10, 11, 12, 13, 14, 15, 16, 17, 18, 19, 20, 21, 22, 23, 24, 25, 26, 27, 28, 29, 30, 31, 32] rfl rfl rfl (by decide) rfl (fun _ => rfl) (fun r7 u H locs h hP hD hS => ?_)
    have hP : va_P D vwCl (List.flatten (wM aM C (va_up ms 0 0) mw ma ml)) H := hP
    have hD : va_D A (List.flatten (wM aM C (va_up ms 0 0) mw ma ml)) := hD
    refine lv_istore (lv' := [(5, .int r7), (0, .ref (aM 0)), (1, .int p1), (2, .int p2), (3, .int p3), (4, .int p4)]) hx hb dX12_caught_25 hl (by decide) rfl (fun ls hl => ?_)
    refine lv_iload hx hb dX12_caught_27 (lv_at hl 0 rfl) ?_
    refine lv_if_eq (tgt := 36) hx hb dX12_caught_29 (by decide) (fun c8 => ?_) (fun c8 => ?_)
    · have h := h.1 c8
      refine lv_aload_n hx hb dX12_caught_36 rfl (lv_at hl 1 rfl) ?_
      refine lv_iload_n hx hb dX12_caught_37 rfl (lv_at hl 3 rfl) ?_
      refine lv_iload_n hx hb dX12_caught_38 rfl (lv_at hl 4 rfl) ?_
      refine lv_iload hx hb dX12_caught_39 (lv_at hl 5 rfl) ?_
      refine cGoV (wo := fun u => wM aM C u.1 u.2.1 u.2.2.1 u.2.2.2) (cRunV (As := [.int p2, .int p3, .int p4]) (rest := []) ⟨hx, hb, hml, hown, hw⟩ hK hN hP hD [0, 1, 2, 3, 4, 5, 6, 7, 8, 9, 10, 11, 12, 13, 14, 15, 16, 17, 18, 19, 20, 21, 22, 23, 24, 25, 26, 27, 28, 29, 30, 31, 32] rfl rfl (k_X12_baits l D C _ aM  (va_up ms 0 0) mw ma ml p2 p3 p4 h) (cwV 3 hw (goodV mw_8_224 mw_8_226 mw_s173 mw_1_13 mw_8_227) rfl rfl rfl (by decide +kernel) ⟨Nat.le_of_ble_eq_true rfl, Nat.le_of_ble_eq_true rfl⟩) rfl rfl rfl hl.1 rfl (Nat.le_of_ble_eq_true rfl) dX12_caught_41 ⟨Nat.zero_le _, Nat.zero_le _⟩) hP hD hS hA [0, 1, 2, 3, 4, 5, 6, 7, 8, 9, 10, 11, 12, 13, 14, 15, 16, 17, 18, 19, 20, 21, 22, 23, 24, 25, 26, 27, 28, 29, 30, 31, 32] [] [0, 1, 2, 3, 4, 5, 6, 7, 8, 9, 10, 11, 12, 13, 14, 15, 16, 17, 18, 19, 20, 21, 22, 23, 24, 25, 26, 27, 28, 29, 30, 31, 32] rfl rfl rfl (by decide) rfl (fun _ => rfl) (fun u H locs h hP hD hS => ?_)
      obtain ⟨ms_9, mw_10, ma_11, ml_12⟩ := u
      have hP : va_P D vwCl (List.flatten (wM aM C ms_9 mw_10 ma_11 ml_12)) H := hP
      have hD : va_D A (List.flatten (wM aM C ms_9 mw_10 ma_11 ml_12)) := hD
      refine lv_lconst (v := 0) hx hb dX12_caught_44 (by decide) ?_
      refine lv_lstore (lv' := [(6, .long 0), (5, .int r7), (0, .ref (aM 0)), (1, .int p1), (2, .int p2), (3, .int p3), (4, .int p4)]) hx hb dX12_caught_45 hl (by decide) rfl (fun ls hl => ?_)
      refine lv_iconst (v := 0) hx hb dX12_caught_47 (by decide) ?_
      refine lv_istore (lv' := [(8, .int 0), (6, .long 0), (5, .int r7), (0, .ref (aM 0)), (1, .int p1), (2, .int p2), (3, .int p3), (4, .int p4)]) hx hb dX12_caught_48 hl (by decide) rfl (fun ls hl => ?_)
      obtain ⟨n, h⟩ := h
      exact N50 ms_9 mw_10 ma_11 ml_12 n 0 0 _ _ _ h hP hD hS (lv_sub hl [3, 4, 1, 0] rfl)
    · have h := h.2 c8
      refine lv_iload hx hb dX12_caught_32 (lv_at hl 0 rfl) ?_
      refine lv_i2l hx hb dX12_caught_34 rfl ?_
      rw [← hQ]
      exact cRetL (v := r7.toInt64) ((va_up ms 0 0), mw, ma, ml) hx hb hr hlocks hS hP hD h dX12_caught_35
  · have h := h.2 c6
    refine lv_ldc2 (v := (-2)) hx hb hown (hw _ mw_7_208) dX12_caught_13 ?_
    rw [← hQ]
    exact cRetL (v := (-2)) ((va_up ms 0 0), mw, ma, ml) hx hb hr hlocks hS hP hD h dX12_caught_16
abbrev vsX12_lures : List Cond := Cond.code yX12_lures cX12_lures 5 (some .int) :: WS
abbrev rmX12_lures : Room := { frames := 4, cells := 0, slots := 0, locals := 95 }
set_option maxHeartbeats 4000000 in
set_option maxRecDepth 100000 in
theorem k_X12_lures (l : Launch) (D : va_G) (C : Nat → ClassId) (sz : Nat) (aM : Nat → Nat)  (ms : Nat → Int32) (mw : Nat → Int64) (ma : Nat → Nat → Int32) (ml : Nat → Nat → Int64) (p1 : Int32) {post : Int32 → (Nat → Int32) → (Nat → Nat → Int32) → Prop} (h : P_X12_lures ms ma p1 post) : Met l yX12_lures vsX12_lures rmX12_lures (cPre D C [.ref (aM 0), .int p1] sz (wM aM C ms mw ma ml)) (cQi D (fun (r : Int32) (u : (Nat → Int32) × (Nat → Nat → Int32)) => post r u.1 u.2) (fun u => wM aM C u.1 mw u.2 ml) (va_A (List.flatten (wM aM C ms mw ma ml)) sz)) 0 0 (va_A (List.flatten (wM aM C ms mw ma ml)) sz) := by
  refine cStart (QA := fun A => cQi D (fun (r : Int32) (u : (Nat → Int32) × (Nat → Nat → Int32)) => post r u.1 u.2) (fun u => wM aM C u.1 mw u.2 ml) A) (cc := cX12_lures) (maxL := 5) (ret := (some .int)) (by decide) (Nat.le_of_ble_eq_true rfl) ?_
  intro p e s m args below meth c A ls hx hb hr hml hown hw hlocks hname hK hN hA hP hD hS hl
  generalize hQ : MQ below _ args s 0 0 A = Q
  have hl : lv_has ls 5 [(0, .ref (aM 0)), (1, .int p1)] := hl
  obtain ⟨H, hH⟩ : ∃ H, H = s.heap := ⟨_, rfl⟩
  obtain ⟨locs, hlo⟩ : ∃ z : List Loc, z = [] := ⟨_, rfl⟩
  have hP : va_P D vwCl (List.flatten (wM aM C ms mw ma ml)) H := by rw [hH]; exact hP
  have hS : va_S A s.heap H locs := by rw [hH, hlo]; exact hS
  rw [show W p l e rmX12_lures s m args below meth c s.heap [] 0 0 Q (F0 m 0 ls []) = W p l e rmX12_lures s m args below meth c H locs 0 0 Q (F0 m 0 ls []) from by rw [hH, hlo]]
  have N26 : ∀ (ms : Nat → Int32) (n26 : Nat) (x3_ : Int32) (ma : Nat → Nat → Int32) (H : Heap) (locs : List Loc) (ls : Array Slot), P_X12_lures_26 p1 post  ms n26 x3_ ma → va_P D vwCl (List.flatten (wM aM C ms mw ma ml)) H → va_D A (List.flatten (wM aM C ms mw ma ml)) → va_S A s.heap H locs → lv_has ls 5 [(0, .ref (aM 0)), (3, .int x3_)] → W p l e rmX12_lures s m args below meth c H locs 0 0 Q (F0 m 26 ls []) := by
    intro ms
    intro n26
    induction n26 with
    | zero => intro x3_ ma H locs ls h hP hD hS hl; exact False.elim h
    | succ n26 ih26 =>
      have N36 : ∀ (x3_ : Int32) (n36 : Nat) (x4_ : Int32) (ma : Nat → Nat → Int32) (H : Heap) (locs : List Loc) (ls : Array Slot), P_X12_lures_36 p1 ms post (P_X12_lures_26 p1 post  ms n26) x3_ n36 x4_ ma → va_P D vwCl (List.flatten (wM aM C ms mw ma ml)) H → va_D A (List.flatten (wM aM C ms mw ma ml)) → va_S A s.heap H locs → lv_has ls 5 [(0, .ref (aM 0)), (3, .int x3_), (4, .int x4_)] → W p l e rmX12_lures s m args below meth c H locs 0 0 Q (F0 m 36 ls []) := by
        intro x3_
        intro n36
        induction n36 with
        | zero => intro x4_ ma H locs ls h hP hD hS hl; exact False.elim h
        | succ n36 ih36 =>
          intro x4_ ma H locs ls h hP hD hS hl
          refine lv_iload hx hb dX12_lures_36 (lv_at hl 2 rfl) ?_
          refine lv_aload_n hx hb dX12_lures_38 rfl (lv_at hl 0 rfl) ?_
          refine va_get (D := D) (ci := 12) (v := .ref (aM 15)) (C := RX12) (T := TX12) (N := 51) hx hb hw inW_X12 hown hK hP 0 rfl rfl 25 (by decide) (hw _ mw_6_68) (fun _ h9 => h9) rfl dX12_lures_39 ?_
          refine lv_iconst (v := 0) hx hb dX12_lures_42 (by decide) ?_
          refine cIald hx hb hK hP 15 0 rfl rfl 0 (by decide +kernel) (cIn (by decide +kernel)) dX12_lures_43 ?_
          refine lv_icmp_ge (tgt := 89) hx hb dX12_lures_44 (by decide) (fun c1 => ?_) (fun c1 => ?_)
          · have h := h.1 c1
            refine lv_iinc (v := (x3_ + 1)) (lv' := [(3, .int (x3_ + 1)), (0, .ref (aM 0)), (4, .int x4_)]) hx hb dX12_lures_89 hl (k := 1) rfl rfl (by decide) rfl (fun ls hl => ?_)
            refine lv_goto (tgt := 26) hx hb dX12_lures_92 (by decide) ?_
            exact ih26 (x3_ + 1) ma _ _ _ h hP hD hS (lv_sub hl [1, 0] rfl)
          · have h := h.2 c1
            refine lv_aload_n hx hb dX12_lures_47 rfl (lv_at hl 0 rfl) ?_
            refine va_get (D := D) (ci := 12) (v := .ref (aM 22)) (C := RX12) (T := TX12) (N := 51) hx hb hw inW_X12 hown hK hP 0 rfl rfl 34 (by decide) (hw _ mw_6_77) (fun _ h9 => h9) rfl dX12_lures_48 ?_
            refine lv_bipush (v := 11) hx hb dX12_lures_51 (by decide) ?_
            refine lv_iload hx hb dX12_lures_53 (lv_at hl 2 rfl) ?_
            refine lv_imul hx hb dX12_lures_55 ?_
            refine lv_aload_n hx hb dX12_lures_56 rfl (lv_at hl 0 rfl) ?_
            refine va_get (D := D) (ci := 12) (v := .ref (aM 13)) (C := RX12) (T := TX12) (N := 51) hx hb hw inW_X12 hown hK hP 0 rfl rfl 23 (by decide) (hw _ mw_6_66) (fun _ h9 => h9) rfl dX12_lures_57 ?_
            refine lv_iconst (v := 0) hx hb dX12_lures_60 (by decide) ?_
            refine cIald hx hb hK hP 13 0 rfl rfl 0 (by decide +kernel) (cIn (by decide +kernel)) dX12_lures_61 ?_
            refine lv_iadd hx hb dX12_lures_62 ?_
            refine lv_iload_n hx hb dX12_lures_63 rfl (lv_at hl 1 rfl) ?_
            refine cIast hx hb hK hP hD hS 22 0 rfl rfl (((11 * x4_) + (ma 10 0)).toNatClampNeg) rfl h.1 dX12_lures_64 (fun H locs hP hD hS => ?_)
            have h := h.2
            refine lv_aload_n hx hb dX12_lures_65 rfl (lv_at hl 0 rfl) ?_
            refine lv_iload hx hb dX12_lures_66 (lv_at hl 2 rfl) ?_
            refine lv_iconst (v := 0) hx hb dX12_lures_68 (by decide) ?_
            have hP : va_P D vwCl (List.flatten (wM aM C ms mw (va_up ma 19 (upd (ma 19) (((11 * x4_) + (ma 10 0)).toNatClampNeg) x3_)) ml)) H := hP
            have hD : va_D A (List.flatten (wM aM C ms mw (va_up ma 19 (upd (ma 19) (((11 * x4_) + (ma 10 0)).toNatClampNeg) x3_)) ml)) := hD
            refine cGoI (wo := fun u => wM aM C ms mw (va_up ma 19 (upd (ma 19) (((11 * x4_) + (ma 10 0)).toNatClampNeg) x3_)) ml) (cRunV (As := [.int x4_, .int 0]) (rest := []) ⟨hx, hb, hml, hown, hw⟩ hK hN hP hD [0, 1, 2, 3, 4, 5, 6, 7, 8, 9, 10, 11, 12, 13, 14, 15, 16, 17, 18, 19, 20, 21, 22, 23, 24, 25, 26, 27, 28, 29, 30, 31, 32] rfl rfl (k_X12_takesOf l D C _ aM  ms mw (va_up ma 19 (upd (ma 19) (((11 * x4_) + (ma 10 0)).toNatClampNeg) x3_)) ml x4_ 0 h) (cwV 2 hw (goodV mw_7_184 mw_7_186 mw_s139 mw_1_13 mw_7_187) rfl rfl rfl (by decide +kernel) ⟨Nat.le_of_ble_eq_true rfl, Nat.le_of_ble_eq_true rfl⟩) rfl rfl rfl hl.1 rfl (Nat.le_of_ble_eq_true rfl) dX12_lures_69 ⟨Nat.zero_le _, Nat.zero_le _⟩) hP hD hS hA [0, 1, 2, 3, 4, 5, 6, 7, 8, 9, 10, 11, 12, 13, 14, 15, 16, 17, 18, 19, 20, 21, 22, 23, 24, 25, 26, 27, 28, 29, 30, 31, 32] [] [0, 1, 2, 3, 4, 5, 6, 7, 8, 9, 10, 11, 12, 13, 14, 15, 16, 17, 18, 19, 20, 21, 22, 23, 24, 25, 26, 27, 28, 29, 30, 31, 32] rfl rfl rfl (by decide) rfl (fun _ => rfl) (fun r2 u H locs h hP hD hS => ?_)
            have hP : va_P D vwCl (List.flatten (wM aM C ms mw (va_up ma 19 (upd (ma 19) (((11 * x4_) + (ma 10 0)).toNatClampNeg) x3_)) ml)) H := hP
            have hD : va_D A (List.flatten (wM aM C ms mw (va_up ma 19 (upd (ma 19) (((11 * x4_) + (ma 10 0)).toNatClampNeg) x3_)) ml)) := hD
            refine lv_aload_n hx hb dX12_lures_72 rfl (lv_at hl 0 rfl) ?_
            refine va_get (D := D) (ci := 12) (v := .ref (aM 13)) (C := RX12) (T := TX12) (N := 51) hx hb hw inW_X12 hown hK hP 0 rfl rfl 23 (by decide) (hw _ mw_6_66) (fun _ h9 => h9) rfl dX12_lures_73 ?_
            refine lv_iconst (v := 0) hx hb dX12_lures_76 (by decide) ?_
            refine cIald hx hb hK hP 13 0 rfl rfl 0 (by decide +kernel) (cIn (by decide +kernel)) dX12_lures_77 ?_
            refine lv_icmp_ne (tgt := 83) hx hb dX12_lures_78 (by decide) (fun c3 => ?_) (fun c3 => ?_)
            · have h := h.1 c3
              refine lv_iinc (v := (x4_ + 1)) (lv' := [(4, .int (x4_ + 1)), (0, .ref (aM 0)), (3, .int x3_)]) hx hb dX12_lures_83 hl (k := 2) rfl rfl (by decide) rfl (fun ls hl => ?_)
              refine lv_goto (tgt := 36) hx hb dX12_lures_86 (by decide) ?_
              exact ih36 (x4_ + 1) (va_up ma 19 (upd (ma 19) (((11 * x4_) + (ma 10 0)).toNatClampNeg) x3_)) _ _ _ h hP hD hS (lv_sub hl [1, 2, 0] rfl)
            · have h := h.2 c3
              refine lv_iload_n hx hb dX12_lures_81 rfl (lv_at hl 1 rfl) ?_
              rw [← hQ]
              exact cRetI (v := x3_) (ms, (va_up ma 19 (upd (ma 19) (((11 * x4_) + (ma 10 0)).toNatClampNeg) x3_))) hx hb hr hlocks hS hP hD h dX12_lures_82
      intro x3_ ma H locs ls h hP hD hS hl
      refine lv_iload_n hx hb dX12_lures_26 rfl (lv_at hl 1 rfl) ?_
      refine lv_sipush (v := 9999) hx hb dX12_lures_27 (by decide) ?_
      refine lv_icmp_gt (tgt := 95) hx hb dX12_lures_30 (by decide) (fun c4 => ?_) (fun c4 => ?_)
      · have h := h.1 c4
        refine lv_iconst (v := (-1)) hx hb dX12_lures_95 (by decide) ?_
        rw [← hQ]
        exact cRetI (v := (-1)) (ms, ma) hx hb hr hlocks hS hP hD h dX12_lures_96
      · have h := h.2 c4
        refine lv_iconst (v := 0) hx hb dX12_lures_33 (by decide) ?_
        refine lv_istore (lv' := [(4, .int 0), (0, .ref (aM 0)), (3, .int x3_)]) hx hb dX12_lures_34 hl (by decide) rfl (fun ls hl => ?_)
        obtain ⟨n, h⟩ := h
        exact N36 x3_ n 0 ma _ _ _ h hP hD hS (lv_sub hl [1, 2, 0] rfl)
  refine lv_aload_n hx hb dX12_lures_0 rfl (lv_at hl 0 rfl) ?_
  refine lv_iconst (v := 0) hx hb dX12_lures_1 (by decide) ?_
  refine va_put (D := D) (ci := 12) (v := .int 0) (ty := .int) (C := RX12) (T := TX12) (N := 51) hx hb hw inW_X12 tyX12 tyX12_ok nmX12 hown hK hP hD hS 0 rfl rfl 0 (by decide) (hw _ mw_6_43) (fun _ h9 => h9) rfl (by decide +kernel) rfl rfl (Nat.le_of_ble_eq_true rfl) dX12_lures_2 (fun H locs hP hD hS => ?_)
  refine lv_aload_n hx hb dX12_lures_5 rfl (lv_at hl 0 rfl) ?_
  refine lv_iload_n hx hb dX12_lures_6 rfl (lv_at hl 1 rfl) ?_
  refine lv_iconst (v := 0) hx hb dX12_lures_7 (by decide) ?_
  refine lv_iconst (v := 0) hx hb dX12_lures_8 (by decide) ?_
  have hP : va_P D vwCl (List.flatten (wM aM C (va_up ms 0 0) mw ma ml)) H := hP
  have hD : va_D A (List.flatten (wM aM C (va_up ms 0 0) mw ma ml)) := hD
  refine cGoI (wo := fun u => wM aM C (va_up ms 0 0) mw ma ml) (cRunV (As := [.int p1, .int 0, .int 0]) (rest := []) ⟨hx, hb, hml, hown, hw⟩ hK hN hP hD [0, 1, 2, 3, 4, 5, 6, 7, 8, 9, 10, 11, 12, 13, 14, 15, 16, 17, 18, 19, 20, 21, 22, 23, 24, 25, 26, 27, 28, 29, 30, 31, 32] rfl rfl (k_X12_whyNot l D C _ aM  (va_up ms 0 0) mw ma ml p1 0 0 h) (cwV 3 hw (goodV mw_8_219 mw_8_221 mw_s172 mw_1_13 mw_8_222) rfl rfl rfl (by decide +kernel) ⟨Nat.le_of_ble_eq_true rfl, Nat.le_of_ble_eq_true rfl⟩) rfl rfl rfl hl.1 rfl (Nat.le_of_ble_eq_true rfl) dX12_lures_9 ⟨Nat.zero_le _, Nat.zero_le _⟩) hP hD hS hA [0, 1, 2, 3, 4, 5, 6, 7, 8, 9, 10, 11, 12, 13, 14, 15, 16, 17, 18, 19, 20, 21, 22, 23, 24, 25, 26, 27, 28, 29, 30, 31, 32] [] [0, 1, 2, 3, 4, 5, 6, 7, 8, 9, 10, 11, 12, 13, 14, 15, 16, 17, 18, 19, 20, 21, 22, 23, 24, 25, 26, 27, 28, 29, 30, 31, 32] rfl rfl rfl (by decide) rfl (fun _ => rfl) (fun r5 u H locs h hP hD hS => ?_)
  have hP : va_P D vwCl (List.flatten (wM aM C (va_up ms 0 0) mw ma ml)) H := hP
  have hD : va_D A (List.flatten (wM aM C (va_up ms 0 0) mw ma ml)) := hD
  refine lv_istore_n (lv' := [(2, .int r5), (0, .ref (aM 0)), (1, .int p1)]) hx hb dX12_lures_12 rfl hl (by decide) rfl (fun ls hl => ?_)
  refine lv_iload_n hx hb dX12_lures_13 rfl (lv_at hl 0 rfl) ?_
  refine lv_if_eq (tgt := 19) hx hb dX12_lures_14 (by decide) (fun c6 => ?_) (fun c6 => ?_)
  · have h := h.1 c6
    refine lv_aload_n hx hb dX12_lures_19 rfl (lv_at hl 1 rfl) ?_
    refine lv_iconst (v := 0) hx hb dX12_lures_20 (by decide) ?_
    refine cGoV (wo := fun u => wM aM C u.1 mw u.2 ml) (cRunV (As := [.int 0]) (rest := []) ⟨hx, hb, hml, hown, hw⟩ hK hN hP hD [0, 1, 2, 3, 4, 5, 6, 7, 8, 9, 10, 11, 12, 13, 14, 15, 16, 17, 18, 19, 20, 21, 22, 23, 24, 25, 26, 27, 28, 29, 30, 31, 32] rfl rfl (k_X12_lays l D C _ aM  (va_up ms 0 0) mw ma ml 0 h) (cwV 1 hw (goodV mw_7_180 mw_7_182 mw_s138 mw_1_13 mw_7_183) rfl rfl rfl (by decide +kernel) ⟨Nat.le_of_ble_eq_true rfl, Nat.le_of_ble_eq_true rfl⟩) rfl rfl rfl hl.1 rfl (Nat.le_of_ble_eq_true rfl) dX12_lures_21 ⟨Nat.zero_le _, Nat.zero_le _⟩) hP hD hS hA [0, 1, 2, 3, 4, 5, 6, 7, 8, 9, 10, 11, 12, 13, 14, 15, 16, 17, 18, 19, 20, 21, 22, 23, 24, 25, 26, 27, 28, 29, 30, 31, 32] [] [0, 1, 2, 3, 4, 5, 6, 7, 8, 9, 10, 11, 12, 13, 14, 15, 16, 17, 18, 19, 20, 21, 22, 23, 24, 25, 26, 27, 28, 29, 30, 31, 32] rfl rfl rfl (by decide) rfl (fun _ => rfl) (fun u H locs h hP hD hS => ?_)
    obtain ⟨ms_7, ma_8⟩ := u
    have hP : va_P D vwCl (List.flatten (wM aM C ms_7 mw ma_8 ml)) H := hP
    have hD : va_D A (List.flatten (wM aM C ms_7 mw ma_8 ml)) := hD
    refine lv_iconst (v := 0) hx hb dX12_lures_24 (by decide) ?_
    refine lv_istore_n (lv' := [(3, .int 0), (2, .int r5), (0, .ref (aM 0)), (1, .int p1)]) hx hb dX12_lures_25 rfl hl (by decide) rfl (fun ls hl => ?_)
    obtain ⟨n, h⟩ := h
    exact N26 ms_7 n 0 ma_8 _ _ _ h hP hD hS (lv_sub hl [2, 0] rfl)
  · have h := h.2 c6
    refine lv_iload_n hx hb dX12_lures_17 rfl (lv_at hl 0 rfl) ?_
    rw [← hQ]
    exact cRetI (v := r5) ((va_up ms 0 0), ma) hx hb hr hlocks hS hP hD h dX12_lures_18
abbrev vsX12_covers : List Cond := Cond.code yX12_covers cX12_covers 9 (some .int) :: WS
abbrev rmX12_covers : Room := { frames := 5, cells := 0, slots := 0, locals := 119 }
set_option maxHeartbeats 4000000 in
set_option maxRecDepth 100000 in
theorem k_X12_covers (l : Launch) (D : va_G) (C : Nat → ClassId) (sz : Nat) (aM : Nat → Nat)  (ms : Nat → Int32) (mw : Nat → Int64) (ma : Nat → Nat → Int32) (ml : Nat → Nat → Int64) (p1 : Int32) (p2 : Int32) (p3 : Int32) {post : Int32 → (Nat → Int32) → (Nat → Int64) → (Nat → Nat → Int32) → (Nat → Nat → Int64) → Prop} (h : P_X12_covers ms mw ma ml p1 p2 p3 post) : Met l yX12_covers vsX12_covers rmX12_covers (cPre D C [.ref (aM 0), .int p1, .int p2, .int p3] sz (wM aM C ms mw ma ml)) (cQi D (fun (r : Int32) (u : (Nat → Int32) × (Nat → Int64) × (Nat → Nat → Int32) × (Nat → Nat → Int64)) => post r u.1 u.2.1 u.2.2.1 u.2.2.2) (fun u => wM aM C u.1 u.2.1 u.2.2.1 u.2.2.2) (va_A (List.flatten (wM aM C ms mw ma ml)) sz)) 0 0 (va_A (List.flatten (wM aM C ms mw ma ml)) sz) := by
  refine cStart (QA := fun A => cQi D (fun (r : Int32) (u : (Nat → Int32) × (Nat → Int64) × (Nat → Nat → Int32) × (Nat → Nat → Int64)) => post r u.1 u.2.1 u.2.2.1 u.2.2.2) (fun u => wM aM C u.1 u.2.1 u.2.2.1 u.2.2.2) A) (cc := cX12_covers) (maxL := 9) (ret := (some .int)) (by decide) (Nat.le_of_ble_eq_true rfl) ?_
  intro p e s m args below meth c A ls hx hb hr hml hown hw hlocks hname hK hN hA hP hD hS hl
  generalize hQ : MQ below _ args s 0 0 A = Q
  have hl : lv_has ls 9 [(0, .ref (aM 0)), (1, .int p1), (2, .int p2), (3, .int p3)] := hl
  obtain ⟨H, hH⟩ : ∃ H, H = s.heap := ⟨_, rfl⟩
  obtain ⟨locs, hlo⟩ : ∃ z : List Loc, z = [] := ⟨_, rfl⟩
  have hP : va_P D vwCl (List.flatten (wM aM C ms mw ma ml)) H := by rw [hH]; exact hP
  have hS : va_S A s.heap H locs := by rw [hH, hlo]; exact hS
  rw [show W p l e rmX12_covers s m args below meth c s.heap [] 0 0 Q (F0 m 0 ls []) = W p l e rmX12_covers s m args below meth c H locs 0 0 Q (F0 m 0 ls []) from by rw [hH, hlo]]
  have N98 : ∀ (x4_ : Int32) (x5_ : Int32) (ms : Nat → Int32) (mw : Nat → Int64) (ma : Nat → Nat → Int32) (ml : Nat → Nat → Int64) (H : Heap) (locs : List Loc) (ls : Array Slot), P_X12_covers_98 p1 p2 p3 post  x4_ x5_ ms mw ma ml → va_P D vwCl (List.flatten (wM aM C ms mw ma ml)) H → va_D A (List.flatten (wM aM C ms mw ma ml)) → va_S A s.heap H locs → lv_has ls 9 [(0, .ref (aM 0)), (1, .int p1), (4, .int x4_), (5, .int x5_)] → W p l e rmX12_covers s m args below meth c H locs 0 0 Q (F0 m 98 ls []) := by
    intro x4_ x5_ ms mw ma ml H locs ls h hP hD hS hl
    refine lv_aload_n hx hb dX12_covers_98 rfl (lv_at hl 0 rfl) ?_
    refine lv_iload_n hx hb dX12_covers_99 rfl (lv_at hl 1 rfl) ?_
    refine lv_iload hx hb dX12_covers_100 (lv_at hl 2 rfl) ?_
    refine cGoV (wo := fun u => wM aM C ms mw u ml) (cRunV (As := [.int p1, .int x4_]) (rest := []) ⟨hx, hb, hml, hown, hw⟩ hK hN hP hD [0, 1, 2, 3, 4, 5, 6, 7, 8, 9, 10, 11, 12, 13, 14, 15, 16, 17, 18, 19, 20, 21, 22, 23, 24, 25, 26, 27, 28, 29, 30, 31, 32] rfl rfl (k_X12_hasOption l D C _ aM  ms mw ma ml p1 x4_ h) (cwV 2 hw (goodV mw_8_48 mw_8_50 mw_s155 mw_1_13 mw_8_51) rfl rfl rfl (by decide +kernel) ⟨Nat.le_of_ble_eq_true rfl, Nat.le_of_ble_eq_true rfl⟩) rfl rfl rfl hl.1 rfl (Nat.le_of_ble_eq_true rfl) dX12_covers_102 ⟨Nat.zero_le _, Nat.zero_le _⟩) hP hD hS hA [0, 1, 2, 3, 4, 5, 6, 7, 8, 9, 10, 11, 12, 13, 14, 15, 16, 17, 18, 19, 20, 21, 22, 23, 24, 25, 26, 27, 28, 29, 30, 31, 32] [] [0, 1, 2, 3, 4, 5, 6, 7, 8, 9, 10, 11, 12, 13, 14, 15, 16, 17, 18, 19, 20, 21, 22, 23, 24, 25, 26, 27, 28, 29, 30, 31, 32] rfl rfl rfl (by decide) rfl (fun _ => rfl) (fun ma_1 H locs h hP hD hS => ?_)
    have hP : va_P D vwCl (List.flatten (wM aM C ms mw ma_1 ml)) H := hP
    have hD : va_D A (List.flatten (wM aM C ms mw ma_1 ml)) := hD
    refine lv_iload hx hb dX12_covers_105 (lv_at hl 3 rfl) ?_
    rw [← hQ]
    exact cRetI (v := x5_) (ms, mw, ma_1, ml) hx hb hr hlocks hS hP hD h dX12_covers_107
  have N13 : ∀ (x4_ : Int32) (n13 : Nat) (x5_ : Int32) (x6_ : Int32) (ms : Nat → Int32) (mw : Nat → Int64) (ma : Nat → Nat → Int32) (ml : Nat → Nat → Int64) (H : Heap) (locs : List Loc) (ls : Array Slot), P_X12_covers_13 p1 p2 p3 post (fun (x4_ : Int32) (x5_ : Int32) (ms : Nat → Int32) (mw : Nat → Int64) (ma : Nat → Nat → Int32) (ml : Nat → Nat → Int64) => P_X12_covers_98 p1 p2 p3 post  x4_ x5_ ms mw ma ml) x4_ n13 x5_ x6_ ms mw ma ml → va_P D vwCl (List.flatten (wM aM C ms mw ma ml)) H → va_D A (List.flatten (wM aM C ms mw ma ml)) → va_S A s.heap H locs → lv_has ls 9 [(0, .ref (aM 0)), (1, .int p1), (2, .int p2), (3, .int p3), (4, .int x4_), (5, .int x5_), (6, .int x6_)] → W p l e rmX12_covers s m args below meth c H locs 0 0 Q (F0 m 13 ls []) := by
    intro x4_
    intro n13
    induction n13 with
    | zero => intro x5_ x6_ ms mw ma ml H locs ls h hP hD hS hl; exact False.elim h
    | succ n13 ih13 =>
      intro x5_ x6_ ms mw ma ml H locs ls h hP hD hS hl
      have h : P_X12_covers_13_b p1 p2 p3 post (fun (x4_ : Int32) (x5_ : Int32) (ms : Nat → Int32) (mw : Nat → Int64) (ma : Nat → Nat → Int32) (ml : Nat → Nat → Int64) => P_X12_covers_98 p1 p2 p3 post  x4_ x5_ ms mw ma ml) x4_ (P_X12_covers_13 p1 p2 p3 post (fun (x4_ : Int32) (x5_ : Int32) (ms : Nat → Int32) (mw : Nat → Int64) (ma : Nat → Nat → Int32) (ml : Nat → Nat → Int64) => P_X12_covers_98 p1 p2 p3 post  x4_ x5_ ms mw ma ml) x4_ n13) x5_ x6_ ms mw ma ml := h
      unfold P_X12_covers_13_b at h
      refine lv_iload hx hb dX12_covers_13 (lv_at hl 6 rfl) ?_
      refine lv_aload_n hx hb dX12_covers_15 rfl (lv_at hl 0 rfl) ?_
      refine cGoI (wo := fun u => wM aM C ms mw ma ml) (cRunV (As := []) (rest := [.int x6_]) ⟨hx, hb, hml, hown, hw⟩ hK hN hP hD [0, 1, 2, 3, 4, 5, 6, 7, 8, 9, 10, 11, 12, 13, 14, 15, 16, 17, 18, 19, 20, 21, 22, 23, 24, 25, 26, 27, 28, 29, 30, 31, 32] rfl rfl (k_X12_optionMany l D C _ aM  ms mw ma ml  h) (cwV 0 hw (goodV mw_8_40 mw_8_42 mw_s153 mw_1_13 mw_8_43) rfl rfl rfl (by decide +kernel) ⟨Nat.le_of_ble_eq_true rfl, Nat.le_of_ble_eq_true rfl⟩) rfl rfl rfl hl.1 rfl (Nat.le_of_ble_eq_true rfl) dX12_covers_16 ⟨Nat.zero_le _, Nat.zero_le _⟩) hP hD hS hA [0, 1, 2, 3, 4, 5, 6, 7, 8, 9, 10, 11, 12, 13, 14, 15, 16, 17, 18, 19, 20, 21, 22, 23, 24, 25, 26, 27, 28, 29, 30, 31, 32] [] [0, 1, 2, 3, 4, 5, 6, 7, 8, 9, 10, 11, 12, 13, 14, 15, 16, 17, 18, 19, 20, 21, 22, 23, 24, 25, 26, 27, 28, 29, 30, 31, 32] rfl rfl rfl (by decide) rfl (fun _ => rfl) (fun r2 u H locs h hP hD hS => ?_)
      have hP : va_P D vwCl (List.flatten (wM aM C ms mw ma ml)) H := hP
      have hD : va_D A (List.flatten (wM aM C ms mw ma ml)) := hD
      refine lv_icmp_ge (tgt := 98) hx hb dX12_covers_19 (by decide) (fun c3 => ?_) (fun c3 => ?_)
      · have h := h.1 c3
        exact N98 x4_ x5_ ms mw ma ml _ _ _ h hP hD hS (lv_sub hl [0, 1, 4, 5] rfl)
      · have h := h.2 c3
        refine lv_aload_n hx hb dX12_covers_22 rfl (lv_at hl 0 rfl) ?_
        refine lv_iload_n hx hb dX12_covers_23 rfl (lv_at hl 1 rfl) ?_
        refine lv_iload hx hb dX12_covers_24 (lv_at hl 6 rfl) ?_
        refine cGoV (wo := fun u => wM aM C ms mw u ml) (cRunV (As := [.int p1, .int x6_]) (rest := []) ⟨hx, hb, hml, hown, hw⟩ hK hN hP hD [0, 1, 2, 3, 4, 5, 6, 7, 8, 9, 10, 11, 12, 13, 14, 15, 16, 17, 18, 19, 20, 21, 22, 23, 24, 25, 26, 27, 28, 29, 30, 31, 32] rfl rfl (k_X12_hasOption l D C _ aM  ms mw ma ml p1 x6_ h) (cwV 2 hw (goodV mw_8_48 mw_8_50 mw_s155 mw_1_13 mw_8_51) rfl rfl rfl (by decide +kernel) ⟨Nat.le_of_ble_eq_true rfl, Nat.le_of_ble_eq_true rfl⟩) rfl rfl rfl hl.1 rfl (Nat.le_of_ble_eq_true rfl) dX12_covers_26 ⟨Nat.zero_le _, Nat.zero_le _⟩) hP hD hS hA [0, 1, 2, 3, 4, 5, 6, 7, 8, 9, 10, 11, 12, 13, 14, 15, 16, 17, 18, 19, 20, 21, 22, 23, 24, 25, 26, 27, 28, 29, 30, 31, 32] [] [0, 1, 2, 3, 4, 5, 6, 7, 8, 9, 10, 11, 12, 13, 14, 15, 16, 17, 18, 19, 20, 21, 22, 23, 24, 25, 26, 27, 28, 29, 30, 31, 32] rfl rfl rfl (by decide) rfl (fun _ => rfl) (fun ma_4 H locs h hP hD hS => ?_)
        have hP : va_P D vwCl (List.flatten (wM aM C ms mw ma_4 ml)) H := hP
        have hD : va_D A (List.flatten (wM aM C ms mw ma_4 ml)) := hD
        refine lv_aload_n hx hb dX12_covers_29 rfl (lv_at hl 0 rfl) ?_
        refine cGoV (wo := fun u => wM aM C u.1 mw u.2.1 u.2.2) (cRunV (As := []) (rest := []) ⟨hx, hb, hml, hown, hw⟩ hK hN hP hD [0, 1, 2, 3, 4, 5, 6, 7, 8, 9, 10, 11, 12, 13, 14, 15, 16, 17, 18, 19, 20, 21, 22, 23, 24, 25, 26, 27, 28, 29, 30, 31, 32] rfl rfl (k_X12_night l D C _ aM  ms mw ma_4 ml  h) (cwV 0 hw (goodV mw_7_209 mw_7_211 mw_s143 mw_1_13 mw_7_212) rfl rfl rfl (by decide +kernel) ⟨Nat.le_of_ble_eq_true rfl, Nat.le_of_ble_eq_true rfl⟩) rfl rfl rfl hl.1 rfl (Nat.le_of_ble_eq_true rfl) dX12_covers_30 ⟨Nat.zero_le _, Nat.zero_le _⟩) hP hD hS hA [0, 1, 2, 3, 4, 5, 6, 7, 8, 9, 10, 11, 12, 13, 14, 15, 16, 17, 18, 19, 20, 21, 22, 23, 24, 25, 26, 27, 28, 29, 30, 31, 32] [] [0, 1, 2, 3, 4, 5, 6, 7, 8, 9, 10, 11, 12, 13, 14, 15, 16, 17, 18, 19, 20, 21, 22, 23, 24, 25, 26, 27, 28, 29, 30, 31, 32] rfl rfl rfl (by decide) rfl (fun _ => rfl) (fun u H locs h hP hD hS => ?_)
        obtain ⟨ms_5, ma_6, ml_7⟩ := u
        have hP : va_P D vwCl (List.flatten (wM aM C ms_5 mw ma_6 ml_7)) H := hP
        have hD : va_D A (List.flatten (wM aM C ms_5 mw ma_6 ml_7)) := hD
        refine lv_ldc2 (v := 1000) hx hb hown (hw _ mw_8_10) dX12_covers_33 ?_
        refine lv_iload_n hx hb dX12_covers_36 rfl (lv_at hl 2 rfl) ?_
        refine lv_i2l hx hb dX12_covers_37 rfl ?_
        refine lv_lmul hx hb dX12_covers_38 ?_
        refine lv_aload_n hx hb dX12_covers_39 rfl (lv_at hl 0 rfl) ?_
        refine lv_iload_n hx hb dX12_covers_40 rfl (lv_at hl 1 rfl) ?_
        refine cGoL (wo := fun u => wM aM C ms_5 mw ma_6 ml_7) (cRunV (As := [.int p1]) (rest := [.long (1000 * p2.toInt64)]) ⟨hx, hb, hml, hown, hw⟩ hK hN hP hD [0, 1, 2, 3, 4, 5, 6, 7, 8, 9, 10, 11, 12, 13, 14, 15, 16, 17, 18, 19, 20, 21, 22, 23, 24, 25, 26, 27, 28, 29, 30, 31, 32] rfl rfl (k_X12_paidOf l D C _ aM  ms_5 mw ma_6 ml_7 p1 h) (cwV 1 hw (goodV mw_8_6 mw_8_8 mw_s147 mw_1_13 mw_8_9) rfl rfl rfl (by decide +kernel) ⟨Nat.le_of_ble_eq_true rfl, Nat.le_of_ble_eq_true rfl⟩) rfl rfl rfl hl.1 rfl (Nat.le_of_ble_eq_true rfl) dX12_covers_41 ⟨Nat.zero_le _, Nat.zero_le _⟩) hP hD hS hA [0, 1, 2, 3, 4, 5, 6, 7, 8, 9, 10, 11, 12, 13, 14, 15, 16, 17, 18, 19, 20, 21, 22, 23, 24, 25, 26, 27, 28, 29, 30, 31, 32] [] [0, 1, 2, 3, 4, 5, 6, 7, 8, 9, 10, 11, 12, 13, 14, 15, 16, 17, 18, 19, 20, 21, 22, 23, 24, 25, 26, 27, 28, 29, 30, 31, 32] rfl rfl rfl (by decide) rfl (fun _ => rfl) (fun r8 u H locs h hP hD hS => ?_)
        have hP : va_P D vwCl (List.flatten (wM aM C ms_5 mw ma_6 ml_7)) H := hP
        have hD : va_D A (List.flatten (wM aM C ms_5 mw ma_6 ml_7)) := hD
        refine lv_ladd hx hb dX12_covers_44 ?_
        refine lv_bipush (v := 100) hx hb dX12_covers_45 (by decide) ?_
        refine lv_iload_n hx hb dX12_covers_47 rfl (lv_at hl 3 rfl) ?_
        refine lv_isub hx hb dX12_covers_48 ?_
        refine lv_i2l hx hb dX12_covers_49 rfl ?_
        refine lv_aload_n hx hb dX12_covers_50 rfl (lv_at hl 0 rfl) ?_
        refine lv_iload_n hx hb dX12_covers_51 rfl (lv_at hl 1 rfl) ?_
        refine cGoL (wo := fun u => wM aM C ms_5 mw ma_6 ml_7) (cRunV (As := [.int p1]) (rest := [.long ((100 - p3).toInt64), .long ((1000 * p2.toInt64) + r8)]) ⟨hx, hb, hml, hown, hw⟩ hK hN hP hD [0, 1, 2, 3, 4, 5, 6, 7, 8, 9, 10, 11, 12, 13, 14, 15, 16, 17, 18, 19, 20, 21, 22, 23, 24, 25, 26, 27, 28, 29, 30, 31, 32] rfl rfl (k_X12_lossOf l D C _ aM  ms_5 mw ma_6 ml_7 p1 h) (cwV 1 hw (goodV mw_8_11 mw_8_13 mw_s148 mw_1_13 mw_8_14) rfl rfl rfl (by decide +kernel) ⟨Nat.le_of_ble_eq_true rfl, Nat.le_of_ble_eq_true rfl⟩) rfl rfl rfl hl.1 rfl (Nat.le_of_ble_eq_true rfl) dX12_covers_52 ⟨Nat.zero_le _, Nat.zero_le _⟩) hP hD hS hA [0, 1, 2, 3, 4, 5, 6, 7, 8, 9, 10, 11, 12, 13, 14, 15, 16, 17, 18, 19, 20, 21, 22, 23, 24, 25, 26, 27, 28, 29, 30, 31, 32] [] [0, 1, 2, 3, 4, 5, 6, 7, 8, 9, 10, 11, 12, 13, 14, 15, 16, 17, 18, 19, 20, 21, 22, 23, 24, 25, 26, 27, 28, 29, 30, 31, 32] rfl rfl rfl (by decide) rfl (fun _ => rfl) (fun r9 u H locs h hP hD hS => ?_)
        have hP : va_P D vwCl (List.flatten (wM aM C ms_5 mw ma_6 ml_7)) H := hP
        have hD : va_D A (List.flatten (wM aM C ms_5 mw ma_6 ml_7)) := hD
        refine lv_lmul hx hb dX12_covers_55 ?_
        refine lv_ldc2 (v := 100) hx hb hown (hw _ mw_7_163) dX12_covers_56 ?_
        refine lv_ldiv hx hb dX12_covers_59 (by decide) ?_
        refine lv_ladd hx hb dX12_covers_60 ?_
        refine lv_topl (fun x10 ex10 => ?_)
        have h := h x10 ex10
        refine lv_lstore (lv' := [(7, .long x10), (0, .ref (aM 0)), (1, .int p1), (2, .int p2), (3, .int p3), (4, .int x4_), (5, .int x5_), (6, .int x6_)]) hx hb dX12_covers_61 hl (by decide) rfl (fun ls hl => ?_)
        refine lv_iload hx hb dX12_covers_63 (lv_at hl 6 rfl) ?_
        refine lv_iconst (v := (-1)) hx hb dX12_covers_65 (by decide) ?_
        refine lv_icmp_eq (tgt := 82) hx hb dX12_covers_66 (by decide) (fun c11 => ?_) (fun c11 => ?_)
        · have h := h.1 c11
          refine lv_iload hx hb dX12_covers_82 (lv_at hl 7 rfl) ?_
          refine lv_istore (lv' := [(5, .int x6_), (7, .long x10), (0, .ref (aM 0)), (1, .int p1), (2, .int p2), (3, .int p3), (4, .int x4_), (6, .int x6_)]) hx hb dX12_covers_84 hl (by decide) rfl (fun ls hl => ?_)
          refine lv_aload_n hx hb dX12_covers_86 rfl (lv_at hl 2 rfl) ?_
          refine lv_lload hx hb dX12_covers_87 (lv_at hl 1 rfl) ?_
          refine va_put (D := D) (ci := 12) (v := .long x10) (ty := .long) (C := RX12) (T := TX12) (N := 51) hx hb hw inW_X12 tyX12 tyX12_ok nmX12 hown hK hP hD hS 0 rfl rfl 48 (by decide) (hw _ mw_6_91) (fun _ h9 => h9) rfl (by decide +kernel) rfl rfl (Nat.le_of_ble_eq_true rfl) dX12_covers_89 (fun H locs hP hD hS => ?_)
          refine lv_iinc (v := (x6_ + 1)) (lv' := [(6, .int (x6_ + 1)), (5, .int x6_), (7, .long x10), (0, .ref (aM 0)), (1, .int p1), (2, .int p2), (3, .int p3), (4, .int x4_)]) hx hb dX12_covers_92 hl (k := 7) rfl rfl (by decide) rfl (fun ls hl => ?_)
          refine lv_goto (tgt := 13) hx hb dX12_covers_95 (by decide) ?_
          have hP : va_P D vwCl (List.flatten (wM aM C ms_5 (va_up mw 3 x10) ma_6 ml_7)) H := hP
          have hD : va_D A (List.flatten (wM aM C ms_5 (va_up mw 3 x10) ma_6 ml_7)) := hD
          exact ih13 x6_ (x6_ + 1) ms_5 (va_up mw 3 x10) ma_6 ml_7 _ _ _ h hP hD hS (lv_sub hl [3, 4, 5, 6, 7, 1, 0] rfl)
        · have h := h.2 c11
          refine lv_lload hx hb dX12_covers_69 (lv_at hl 0 rfl) ?_
          refine lv_aload_n hx hb dX12_covers_71 rfl (lv_at hl 1 rfl) ?_
          refine va_get (D := D) (ci := 12) (v := .long (mw 3)) (C := RX12) (T := TX12) (N := 51) hx hb hw inW_X12 hown hK hP 0 rfl rfl 48 (by decide) (hw _ mw_6_91) (fun _ h9 => h9) rfl dX12_covers_72 ?_
          refine W.lcmp hx hb dX12_covers_75 ?_
          refine lv_if_lt (tgt := 82) hx hb dX12_covers_76 (by decide) (fun c12 => ?_) (fun c12 => ?_)
          · have c12 : x10 < (mw 3) := (lg_cmp_lt _ _).mp c12
            have h := h.1 c12
            refine lv_iload hx hb dX12_covers_82 (lv_at hl 7 rfl) ?_
            refine lv_istore (lv' := [(5, .int x6_), (7, .long x10), (0, .ref (aM 0)), (1, .int p1), (2, .int p2), (3, .int p3), (4, .int x4_), (6, .int x6_)]) hx hb dX12_covers_84 hl (by decide) rfl (fun ls hl => ?_)
            refine lv_aload_n hx hb dX12_covers_86 rfl (lv_at hl 2 rfl) ?_
            refine lv_lload hx hb dX12_covers_87 (lv_at hl 1 rfl) ?_
            refine va_put (D := D) (ci := 12) (v := .long x10) (ty := .long) (C := RX12) (T := TX12) (N := 51) hx hb hw inW_X12 tyX12 tyX12_ok nmX12 hown hK hP hD hS 0 rfl rfl 48 (by decide) (hw _ mw_6_91) (fun _ h9 => h9) rfl (by decide +kernel) rfl rfl (Nat.le_of_ble_eq_true rfl) dX12_covers_89 (fun H locs hP hD hS => ?_)
            refine lv_iinc (v := (x6_ + 1)) (lv' := [(6, .int (x6_ + 1)), (5, .int x6_), (7, .long x10), (0, .ref (aM 0)), (1, .int p1), (2, .int p2), (3, .int p3), (4, .int x4_)]) hx hb dX12_covers_92 hl (k := 7) rfl rfl (by decide) rfl (fun ls hl => ?_)
            refine lv_goto (tgt := 13) hx hb dX12_covers_95 (by decide) ?_
            have hP : va_P D vwCl (List.flatten (wM aM C ms_5 (va_up mw 3 x10) ma_6 ml_7)) H := hP
            have hD : va_D A (List.flatten (wM aM C ms_5 (va_up mw 3 x10) ma_6 ml_7)) := hD
            exact ih13 x6_ (x6_ + 1) ms_5 (va_up mw 3 x10) ma_6 ml_7 _ _ _ h hP hD hS (lv_sub hl [3, 4, 5, 6, 7, 1, 0] rfl)
          · have c12 : ¬ x10 < (mw 3) := fun q => c12 ((lg_cmp_lt _ _).mpr q)
            have h := h.2 c12
            refine lv_goto (tgt := 92) hx hb dX12_covers_79 (by decide) ?_
            refine lv_iinc (v := (x6_ + 1)) (lv' := [(6, .int (x6_ + 1)), (7, .long x10), (0, .ref (aM 0)), (1, .int p1), (2, .int p2), (3, .int p3), (4, .int x4_), (5, .int x5_)]) hx hb dX12_covers_92 hl (k := 7) rfl rfl (by decide) rfl (fun ls hl => ?_)
            refine lv_goto (tgt := 13) hx hb dX12_covers_95 (by decide) ?_
            exact ih13 x5_ (x6_ + 1) ms_5 mw ma_6 ml_7 _ _ _ h hP hD hS (lv_sub hl [2, 3, 4, 5, 6, 7, 0] rfl)
  refine lv_aload_n hx hb dX12_covers_0 rfl (lv_at hl 0 rfl) ?_
  refine lv_iload_n hx hb dX12_covers_1 rfl (lv_at hl 1 rfl) ?_
  refine cGoI (wo := fun u => wM aM C ms mw ma ml) (cRunV (As := [.int p1]) (rest := []) ⟨hx, hb, hml, hown, hw⟩ hK hN hP hD [0, 1, 2, 3, 4, 5, 6, 7, 8, 9, 10, 11, 12, 13, 14, 15, 16, 17, 18, 19, 20, 21, 22, 23, 24, 25, 26, 27, 28, 29, 30, 31, 32] rfl rfl (k_X12_optionOf l D C _ aM  ms mw ma ml p1 h) (cwV 1 hw (goodV mw_8_44 mw_8_46 mw_s154 mw_1_13 mw_8_47) rfl rfl rfl (by decide +kernel) ⟨Nat.le_of_ble_eq_true rfl, Nat.le_of_ble_eq_true rfl⟩) rfl rfl rfl hl.1 rfl (Nat.le_of_ble_eq_true rfl) dX12_covers_2 ⟨Nat.zero_le _, Nat.zero_le _⟩) hP hD hS hA [0, 1, 2, 3, 4, 5, 6, 7, 8, 9, 10, 11, 12, 13, 14, 15, 16, 17, 18, 19, 20, 21, 22, 23, 24, 25, 26, 27, 28, 29, 30, 31, 32] [] [0, 1, 2, 3, 4, 5, 6, 7, 8, 9, 10, 11, 12, 13, 14, 15, 16, 17, 18, 19, 20, 21, 22, 23, 24, 25, 26, 27, 28, 29, 30, 31, 32] rfl rfl rfl (by decide) rfl (fun _ => rfl) (fun r13 u H locs h hP hD hS => ?_)
  have hP : va_P D vwCl (List.flatten (wM aM C ms mw ma ml)) H := hP
  have hD : va_D A (List.flatten (wM aM C ms mw ma ml)) := hD
  refine lv_istore (lv' := [(4, .int r13), (0, .ref (aM 0)), (1, .int p1), (2, .int p2), (3, .int p3)]) hx hb dX12_covers_5 hl (by decide) rfl (fun ls hl => ?_)
  refine lv_iconst (v := (-1)) hx hb dX12_covers_7 (by decide) ?_
  refine lv_istore (lv' := [(5, .int (-1)), (4, .int r13), (0, .ref (aM 0)), (1, .int p1), (2, .int p2), (3, .int p3)]) hx hb dX12_covers_8 hl (by decide) rfl (fun ls hl => ?_)
  refine lv_iconst (v := 0) hx hb dX12_covers_10 (by decide) ?_
  refine lv_istore (lv' := [(6, .int 0), (5, .int (-1)), (4, .int r13), (0, .ref (aM 0)), (1, .int p1), (2, .int p2), (3, .int p3)]) hx hb dX12_covers_11 hl (by decide) rfl (fun ls hl => ?_)
  obtain ⟨n, h⟩ := h
  exact N13 r13 n (-1) 0 ms mw ma ml _ _ _ h hP hD hS (lv_sub hl [3, 4, 5, 6, 2, 1, 0] rfl)
abbrev vsX12_isCover : List Cond := Cond.code yX12_isCover cX12_isCover 4 (some .boolean) :: WS
abbrev rmX12_isCover : Room := { frames := 2, cells := 0, slots := 0, locals := 46 }
set_option maxHeartbeats 4000000 in
set_option maxRecDepth 100000 in
theorem k_X12_isCover (l : Launch) (D : va_G) (C : Nat → ClassId) (sz : Nat) (aM : Nat → Nat)  (ms : Nat → Int32) (mw : Nat → Int64) (ma : Nat → Nat → Int32) (ml : Nat → Nat → Int64) (p1 : Int32) (p2 : Int32) (p3 : Int32) {post : Int32 → Prop} (h : P_X12_isCover ma p1 p2 p3 post) : Met l yX12_isCover vsX12_isCover rmX12_isCover (cPre D C [.ref (aM 0), .int p1, .int p2, .int p3] sz (wM aM C ms mw ma ml)) (cQi D (fun (r : Int32) (u : Unit) => post r ) (fun u => wM aM C ms mw ma ml) (va_A (List.flatten (wM aM C ms mw ma ml)) sz)) 0 0 (va_A (List.flatten (wM aM C ms mw ma ml)) sz) := by
  refine cStart (QA := fun A => cQi D (fun (r : Int32) (u : Unit) => post r ) (fun u => wM aM C ms mw ma ml) A) (cc := cX12_isCover) (maxL := 4) (ret := (some .boolean)) (by decide) (Nat.le_of_ble_eq_true rfl) ?_
  intro p e s m args below meth c A ls hx hb hr hml hown hw hlocks hname hK hN hA hP hD hS hl
  generalize hQ : MQ below _ args s 0 0 A = Q
  have hl : lv_has ls 4 [(0, .ref (aM 0)), (1, .int p1), (2, .int p2), (3, .int p3)] := hl
  obtain ⟨H, hH⟩ : ∃ H, H = s.heap := ⟨_, rfl⟩
  obtain ⟨locs, hlo⟩ : ∃ z : List Loc, z = [] := ⟨_, rfl⟩
  have hP : va_P D vwCl (List.flatten (wM aM C ms mw ma ml)) H := by rw [hH]; exact hP
  have hS : va_S A s.heap H locs := by rw [hH, hlo]; exact hS
  rw [show W p l e rmX12_isCover s m args below meth c s.heap [] 0 0 Q (F0 m 0 ls []) = W p l e rmX12_isCover s m args below meth c H locs 0 0 Q (F0 m 0 ls []) from by rw [hH, hlo]]
  refine lv_aload_n hx hb dX12_isCover_0 rfl (lv_at hl 0 rfl) ?_
  refine lv_iload_n hx hb dX12_isCover_1 rfl (lv_at hl 1 rfl) ?_
  refine cGoI (wo := fun u => wM aM C ms mw ma ml) (cRunV (As := [.int p1]) (rest := []) ⟨hx, hb, hml, hown, hw⟩ hK hN hP hD [0, 1, 2, 3, 4, 5, 6, 7, 8, 9, 10, 11, 12, 13, 14, 15, 16, 17, 18, 19, 20, 21, 22, 23, 24, 25, 26, 27, 28, 29, 30, 31, 32] rfl rfl (k_X12_isBike l D C _ aM  ms mw ma ml p1 h) (cwV 1 hw (goodV mw_7_143 mw_7_145 mw_s133 mw_1_13 mw_7_146) rfl rfl rfl (by decide +kernel) ⟨Nat.le_of_ble_eq_true rfl, Nat.le_of_ble_eq_true rfl⟩) rfl rfl rfl hl.1 rfl (Nat.le_of_ble_eq_true rfl) dX12_isCover_2 ⟨Nat.zero_le _, Nat.zero_le _⟩) hP hD hS hA [0, 1, 2, 3, 4, 5, 6, 7, 8, 9, 10, 11, 12, 13, 14, 15, 16, 17, 18, 19, 20, 21, 22, 23, 24, 25, 26, 27, 28, 29, 30, 31, 32] [] [0, 1, 2, 3, 4, 5, 6, 7, 8, 9, 10, 11, 12, 13, 14, 15, 16, 17, 18, 19, 20, 21, 22, 23, 24, 25, 26, 27, 28, 29, 30, 31, 32] rfl rfl rfl (by decide) rfl (fun _ => rfl) (fun r1 u H locs h hP hD hS => ?_)
  have hP : va_P D vwCl (List.flatten (wM aM C ms mw ma ml)) H := hP
  have hD : va_D A (List.flatten (wM aM C ms mw ma ml)) := hD
  refine lv_if_eq (tgt := 36) hx hb dX12_isCover_5 (by decide) (fun c2 => ?_) (fun c2 => ?_)
  · have h := h.1 c2
    refine lv_iconst (v := 0) hx hb dX12_isCover_36 (by decide) ?_
    rw [← hQ]
    exact cRetZ (v := 0) () hx hb hr hlocks hS hP hD (Or.inl rfl) h dX12_isCover_37
  · have h := h.2 c2
    refine lv_iload_n hx hb dX12_isCover_8 rfl (lv_at hl 2 rfl) ?_
    refine lv_i2l hx hb dX12_isCover_9 rfl ?_
    refine lv_lconst (v := 0) hx hb dX12_isCover_10 (by decide) ?_
    refine lv_ldc2 (v := 9999) hx hb hown (hw _ mw_8_223) dX12_isCover_11 ?_
    refine cGoI (wo := fun u => wM aM C ms mw ma ml) (cRunS (As := [.long p2.toInt64, .long 0, .long 9999]) (rest := []) ⟨hx, hb, hml, hown, hw⟩ hK hN hP hD [] rfl rfl (k_X12_in l D C _    p2.toInt64 0 9999 h) (va_cwS 3 hw (goodS mw_6_205 mw_6_206 mw_1_13 mw_6_207) rfl rfl rfl (by decide +kernel) ⟨Nat.le_of_ble_eq_true rfl, Nat.le_of_ble_eq_true rfl⟩) rfl hl.1 rfl (Nat.le_of_ble_eq_true rfl) dX12_isCover_14 ⟨Nat.zero_le _, Nat.zero_le _⟩) hP hD hS hA [] [0, 1, 2, 3, 4, 5, 6, 7, 8, 9, 10, 11, 12, 13, 14, 15, 16, 17, 18, 19, 20, 21, 22, 23, 24, 25, 26, 27, 28, 29, 30, 31, 32] [0, 1, 2, 3, 4, 5, 6, 7, 8, 9, 10, 11, 12, 13, 14, 15, 16, 17, 18, 19, 20, 21, 22, 23, 24, 25, 26, 27, 28, 29, 30, 31, 32] rfl rfl rfl (by decide) rfl (fun _ => rfl) (fun r3 u H locs h hP hD hS => ?_)
    have hP : va_P D vwCl (List.flatten (wM aM C ms mw ma ml)) H := hP
    have hD : va_D A (List.flatten (wM aM C ms mw ma ml)) := hD
    refine lv_if_eq (tgt := 36) hx hb dX12_isCover_17 (by decide) (fun c4 => ?_) (fun c4 => ?_)
    · have h := h.1 c4
      refine lv_iconst (v := 0) hx hb dX12_isCover_36 (by decide) ?_
      rw [← hQ]
      exact cRetZ (v := 0) () hx hb hr hlocks hS hP hD (Or.inl rfl) h dX12_isCover_37
    · have h := h.2 c4
      refine lv_iload_n hx hb dX12_isCover_20 rfl (lv_at hl 3 rfl) ?_
      refine lv_i2l hx hb dX12_isCover_21 rfl ?_
      refine lv_lconst (v := 0) hx hb dX12_isCover_22 (by decide) ?_
      refine lv_ldc2 (v := 100) hx hb hown (hw _ mw_7_163) dX12_isCover_23 ?_
      refine cGoI (wo := fun u => wM aM C ms mw ma ml) (cRunS (As := [.long p3.toInt64, .long 0, .long 100]) (rest := []) ⟨hx, hb, hml, hown, hw⟩ hK hN hP hD [] rfl rfl (k_X12_in l D C _    p3.toInt64 0 100 h) (va_cwS 3 hw (goodS mw_6_205 mw_6_206 mw_1_13 mw_6_207) rfl rfl rfl (by decide +kernel) ⟨Nat.le_of_ble_eq_true rfl, Nat.le_of_ble_eq_true rfl⟩) rfl hl.1 rfl (Nat.le_of_ble_eq_true rfl) dX12_isCover_26 ⟨Nat.zero_le _, Nat.zero_le _⟩) hP hD hS hA [] [0, 1, 2, 3, 4, 5, 6, 7, 8, 9, 10, 11, 12, 13, 14, 15, 16, 17, 18, 19, 20, 21, 22, 23, 24, 25, 26, 27, 28, 29, 30, 31, 32] [0, 1, 2, 3, 4, 5, 6, 7, 8, 9, 10, 11, 12, 13, 14, 15, 16, 17, 18, 19, 20, 21, 22, 23, 24, 25, 26, 27, 28, 29, 30, 31, 32] rfl rfl rfl (by decide) rfl (fun _ => rfl) (fun r5 u H locs h hP hD hS => ?_)
      have hP : va_P D vwCl (List.flatten (wM aM C ms mw ma ml)) H := hP
      have hD : va_D A (List.flatten (wM aM C ms mw ma ml)) := hD
      refine lv_if_eq (tgt := 36) hx hb dX12_isCover_29 (by decide) (fun c6 => ?_) (fun c6 => ?_)
      · have h := h.1 c6
        refine lv_iconst (v := 0) hx hb dX12_isCover_36 (by decide) ?_
        rw [← hQ]
        exact cRetZ (v := 0) () hx hb hr hlocks hS hP hD (Or.inl rfl) h dX12_isCover_37
      · have h := h.2 c6
        refine lv_iconst (v := 1) hx hb dX12_isCover_32 (by decide) ?_
        refine lv_goto (tgt := 37) hx hb dX12_isCover_33 (by decide) ?_
        rw [← hQ]
        exact cRetZ (v := 1) () hx hb hr hlocks hS hP hD (Or.inr rfl) h dX12_isCover_37
abbrev vsX12_cover : List Cond := Cond.code yX12_cover cX12_cover 4 (some .long) :: WS
abbrev rmX12_cover : Room := { frames := 6, cells := 0, slots := 0, locals := 147 }
set_option maxHeartbeats 4000000 in
set_option maxRecDepth 100000 in
theorem k_X12_cover (l : Launch) (D : va_G) (C : Nat → ClassId) (sz : Nat) (aM : Nat → Nat)  (ms : Nat → Int32) (mw : Nat → Int64) (ma : Nat → Nat → Int32) (ml : Nat → Nat → Int64) (p1 : Int32) (p2 : Int32) (p3 : Int32) {post : Int64 → (Nat → Int32) → (Nat → Int64) → (Nat → Nat → Int32) → (Nat → Nat → Int64) → Prop} (h : P_X12_cover ms mw ma ml p1 p2 p3 post) : Met l yX12_cover vsX12_cover rmX12_cover (cPre D C [.ref (aM 0), .int p1, .int p2, .int p3] sz (wM aM C ms mw ma ml)) (cQl D (fun (r : Int64) (u : (Nat → Int32) × (Nat → Int64) × (Nat → Nat → Int32) × (Nat → Nat → Int64)) => post r u.1 u.2.1 u.2.2.1 u.2.2.2) (fun u => wM aM C u.1 u.2.1 u.2.2.1 u.2.2.2) (va_A (List.flatten (wM aM C ms mw ma ml)) sz)) 0 0 (va_A (List.flatten (wM aM C ms mw ma ml)) sz) := by
  refine cStart (QA := fun A => cQl D (fun (r : Int64) (u : (Nat → Int32) × (Nat → Int64) × (Nat → Nat → Int32) × (Nat → Nat → Int64)) => post r u.1 u.2.1 u.2.2.1 u.2.2.2) (fun u => wM aM C u.1 u.2.1 u.2.2.1 u.2.2.2) A) (cc := cX12_cover) (maxL := 4) (ret := (some .long)) (by decide) (Nat.le_of_ble_eq_true rfl) ?_
  intro p e s m args below meth c A ls hx hb hr hml hown hw hlocks hname hK hN hA hP hD hS hl
  generalize hQ : MQ below _ args s 0 0 A = Q
  have hl : lv_has ls 4 [(0, .ref (aM 0)), (1, .int p1), (2, .int p2), (3, .int p3)] := hl
  obtain ⟨H, hH⟩ : ∃ H, H = s.heap := ⟨_, rfl⟩
  obtain ⟨locs, hlo⟩ : ∃ z : List Loc, z = [] := ⟨_, rfl⟩
  have hP : va_P D vwCl (List.flatten (wM aM C ms mw ma ml)) H := by rw [hH]; exact hP
  have hS : va_S A s.heap H locs := by rw [hH, hlo]; exact hS
  rw [show W p l e rmX12_cover s m args below meth c s.heap [] 0 0 Q (F0 m 0 ls []) = W p l e rmX12_cover s m args below meth c H locs 0 0 Q (F0 m 0 ls []) from by rw [hH, hlo]]
  refine lv_aload_n hx hb dX12_cover_0 rfl (lv_at hl 0 rfl) ?_
  refine lv_iconst (v := 0) hx hb dX12_cover_1 (by decide) ?_
  refine va_put (D := D) (ci := 12) (v := .int 0) (ty := .int) (C := RX12) (T := TX12) (N := 51) hx hb hw inW_X12 tyX12 tyX12_ok nmX12 hown hK hP hD hS 0 rfl rfl 0 (by decide) (hw _ mw_6_43) (fun _ h9 => h9) rfl (by decide +kernel) rfl rfl (Nat.le_of_ble_eq_true rfl) dX12_cover_2 (fun H locs hP hD hS => ?_)
  refine lv_aload_n hx hb dX12_cover_5 rfl (lv_at hl 0 rfl) ?_
  refine lv_iload_n hx hb dX12_cover_6 rfl (lv_at hl 1 rfl) ?_
  refine lv_iload_n hx hb dX12_cover_7 rfl (lv_at hl 2 rfl) ?_
  refine lv_iload_n hx hb dX12_cover_8 rfl (lv_at hl 3 rfl) ?_
  have hP : va_P D vwCl (List.flatten (wM aM C (va_up ms 0 0) mw ma ml)) H := hP
  have hD : va_D A (List.flatten (wM aM C (va_up ms 0 0) mw ma ml)) := hD
  refine cGoI (wo := fun u => wM aM C (va_up ms 0 0) mw ma ml) (cRunV (As := [.int p1, .int p2, .int p3]) (rest := []) ⟨hx, hb, hml, hown, hw⟩ hK hN hP hD [0, 1, 2, 3, 4, 5, 6, 7, 8, 9, 10, 11, 12, 13, 14, 15, 16, 17, 18, 19, 20, 21, 22, 23, 24, 25, 26, 27, 28, 29, 30, 31, 32] rfl rfl (k_X12_isCover l D C _ aM  (va_up ms 0 0) mw ma ml p1 p2 p3 h) (cwV 3 hw (goodV mw_9_7 mw_9_9 mw_s175 mw_1_13 mw_9_10) rfl rfl rfl (by decide +kernel) ⟨Nat.le_of_ble_eq_true rfl, Nat.le_of_ble_eq_true rfl⟩) rfl rfl rfl hl.1 rfl (Nat.le_of_ble_eq_true rfl) dX12_cover_9 ⟨Nat.zero_le _, Nat.zero_le _⟩) hP hD hS hA [0, 1, 2, 3, 4, 5, 6, 7, 8, 9, 10, 11, 12, 13, 14, 15, 16, 17, 18, 19, 20, 21, 22, 23, 24, 25, 26, 27, 28, 29, 30, 31, 32] [] [0, 1, 2, 3, 4, 5, 6, 7, 8, 9, 10, 11, 12, 13, 14, 15, 16, 17, 18, 19, 20, 21, 22, 23, 24, 25, 26, 27, 28, 29, 30, 31, 32] rfl rfl rfl (by decide) rfl (fun _ => rfl) (fun r1 u H locs h hP hD hS => ?_)
  have hP : va_P D vwCl (List.flatten (wM aM C (va_up ms 0 0) mw ma ml)) H := hP
  have hD : va_D A (List.flatten (wM aM C (va_up ms 0 0) mw ma ml)) := hD
  refine lv_if_ne (tgt := 19) hx hb dX12_cover_12 (by decide) (fun c2 => ?_) (fun c2 => ?_)
  · have h := h.1 c2
    refine lv_aload_n hx hb dX12_cover_19 rfl (lv_at hl 0 rfl) ?_
    refine lv_iload_n hx hb dX12_cover_20 rfl (lv_at hl 1 rfl) ?_
    refine lv_iload_n hx hb dX12_cover_21 rfl (lv_at hl 2 rfl) ?_
    refine lv_iload_n hx hb dX12_cover_22 rfl (lv_at hl 3 rfl) ?_
    refine cGoI (wo := fun u => wM aM C u.1 u.2.1 u.2.2.1 u.2.2.2) (cRunV (As := [.int p1, .int p2, .int p3]) (rest := []) ⟨hx, hb, hml, hown, hw⟩ hK hN hP hD [0, 1, 2, 3, 4, 5, 6, 7, 8, 9, 10, 11, 12, 13, 14, 15, 16, 17, 18, 19, 20, 21, 22, 23, 24, 25, 26, 27, 28, 29, 30, 31, 32] rfl rfl (k_X12_covers l D C _ aM  (va_up ms 0 0) mw ma ml p1 p2 p3 h) (cwV 3 hw (goodV mw_9_11 mw_9_13 mw_s176 mw_1_13 mw_9_14) rfl rfl rfl (by decide +kernel) ⟨Nat.le_of_ble_eq_true rfl, Nat.le_of_ble_eq_true rfl⟩) rfl rfl rfl hl.1 rfl (Nat.le_of_ble_eq_true rfl) dX12_cover_23 ⟨Nat.zero_le _, Nat.zero_le _⟩) hP hD hS hA [0, 1, 2, 3, 4, 5, 6, 7, 8, 9, 10, 11, 12, 13, 14, 15, 16, 17, 18, 19, 20, 21, 22, 23, 24, 25, 26, 27, 28, 29, 30, 31, 32] [] [0, 1, 2, 3, 4, 5, 6, 7, 8, 9, 10, 11, 12, 13, 14, 15, 16, 17, 18, 19, 20, 21, 22, 23, 24, 25, 26, 27, 28, 29, 30, 31, 32] rfl rfl rfl (by decide) rfl (fun _ => rfl) (fun r7 u H locs h hP hD hS => ?_)
    obtain ⟨ms_3, mw_4, ma_5, ml_6⟩ := u
    have hP : va_P D vwCl (List.flatten (wM aM C ms_3 mw_4 ma_5 ml_6)) H := hP
    have hD : va_D A (List.flatten (wM aM C ms_3 mw_4 ma_5 ml_6)) := hD
    refine lv_pop hx hb dX12_cover_26 rfl ?_
    refine lv_aload_n hx hb dX12_cover_27 rfl (lv_at hl 0 rfl) ?_
    refine va_get (D := D) (ci := 12) (v := .long (mw_4 3)) (C := RX12) (T := TX12) (N := 51) hx hb hw inW_X12 hown hK hP 0 rfl rfl 48 (by decide) (hw _ mw_6_91) (fun _ h9 => h9) rfl dX12_cover_28 ?_
    rw [← hQ]
    exact cRetL (v := (mw_4 3)) (ms_3, mw_4, ma_5, ml_6) hx hb hr hlocks hS hP hD h dX12_cover_31
  · have h := h.2 c2
    refine lv_ldc2 (v := (-2)) hx hb hown (hw _ mw_7_208) dX12_cover_15 ?_
    rw [← hQ]
    exact cRetL (v := (-2)) ((va_up ms 0 0), mw, ma, ml) hx hb hr hlocks hS hP hD h dX12_cover_18
abbrev vsX12_careless : List Cond := Cond.code yX12_careless cX12_careless 4 (some .int) :: WS
abbrev rmX12_careless : Room := { frames := 6, cells := 0, slots := 0, locals := 147 }
set_option maxHeartbeats 4000000 in
set_option maxRecDepth 100000 in
theorem k_X12_careless (l : Launch) (D : va_G) (C : Nat → ClassId) (sz : Nat) (aM : Nat → Nat)  (ms : Nat → Int32) (mw : Nat → Int64) (ma : Nat → Nat → Int32) (ml : Nat → Nat → Int64) (p1 : Int32) (p2 : Int32) (p3 : Int32) {post : Int32 → (Nat → Int32) → (Nat → Int64) → (Nat → Nat → Int32) → (Nat → Nat → Int64) → Prop} (h : P_X12_careless ms mw ma ml p1 p2 p3 post) : Met l yX12_careless vsX12_careless rmX12_careless (cPre D C [.ref (aM 0), .int p1, .int p2, .int p3] sz (wM aM C ms mw ma ml)) (cQi D (fun (r : Int32) (u : (Nat → Int32) × (Nat → Int64) × (Nat → Nat → Int32) × (Nat → Nat → Int64)) => post r u.1 u.2.1 u.2.2.1 u.2.2.2) (fun u => wM aM C u.1 u.2.1 u.2.2.1 u.2.2.2) (va_A (List.flatten (wM aM C ms mw ma ml)) sz)) 0 0 (va_A (List.flatten (wM aM C ms mw ma ml)) sz) := by
  refine cStart (QA := fun A => cQi D (fun (r : Int32) (u : (Nat → Int32) × (Nat → Int64) × (Nat → Nat → Int32) × (Nat → Nat → Int64)) => post r u.1 u.2.1 u.2.2.1 u.2.2.2) (fun u => wM aM C u.1 u.2.1 u.2.2.1 u.2.2.2) A) (cc := cX12_careless) (maxL := 4) (ret := (some .int)) (by decide) (Nat.le_of_ble_eq_true rfl) ?_
  intro p e s m args below meth c A ls hx hb hr hml hown hw hlocks hname hK hN hA hP hD hS hl
  generalize hQ : MQ below _ args s 0 0 A = Q
  have hl : lv_has ls 4 [(0, .ref (aM 0)), (1, .int p1), (2, .int p2), (3, .int p3)] := hl
  obtain ⟨H, hH⟩ : ∃ H, H = s.heap := ⟨_, rfl⟩
  obtain ⟨locs, hlo⟩ : ∃ z : List Loc, z = [] := ⟨_, rfl⟩
  have hP : va_P D vwCl (List.flatten (wM aM C ms mw ma ml)) H := by rw [hH]; exact hP
  have hS : va_S A s.heap H locs := by rw [hH, hlo]; exact hS
  rw [show W p l e rmX12_careless s m args below meth c s.heap [] 0 0 Q (F0 m 0 ls []) = W p l e rmX12_careless s m args below meth c H locs 0 0 Q (F0 m 0 ls []) from by rw [hH, hlo]]
  refine lv_aload_n hx hb dX12_careless_0 rfl (lv_at hl 0 rfl) ?_
  refine lv_iconst (v := 0) hx hb dX12_careless_1 (by decide) ?_
  refine va_put (D := D) (ci := 12) (v := .int 0) (ty := .int) (C := RX12) (T := TX12) (N := 51) hx hb hw inW_X12 tyX12 tyX12_ok nmX12 hown hK hP hD hS 0 rfl rfl 0 (by decide) (hw _ mw_6_43) (fun _ h9 => h9) rfl (by decide +kernel) rfl rfl (Nat.le_of_ble_eq_true rfl) dX12_careless_2 (fun H locs hP hD hS => ?_)
  refine lv_aload_n hx hb dX12_careless_5 rfl (lv_at hl 0 rfl) ?_
  refine lv_iload_n hx hb dX12_careless_6 rfl (lv_at hl 1 rfl) ?_
  refine lv_iload_n hx hb dX12_careless_7 rfl (lv_at hl 2 rfl) ?_
  refine lv_iload_n hx hb dX12_careless_8 rfl (lv_at hl 3 rfl) ?_
  have hP : va_P D vwCl (List.flatten (wM aM C (va_up ms 0 0) mw ma ml)) H := hP
  have hD : va_D A (List.flatten (wM aM C (va_up ms 0 0) mw ma ml)) := hD
  refine cGoI (wo := fun u => wM aM C (va_up ms 0 0) mw ma ml) (cRunV (As := [.int p1, .int p2, .int p3]) (rest := []) ⟨hx, hb, hml, hown, hw⟩ hK hN hP hD [0, 1, 2, 3, 4, 5, 6, 7, 8, 9, 10, 11, 12, 13, 14, 15, 16, 17, 18, 19, 20, 21, 22, 23, 24, 25, 26, 27, 28, 29, 30, 31, 32] rfl rfl (k_X12_isCover l D C _ aM  (va_up ms 0 0) mw ma ml p1 p2 p3 h) (cwV 3 hw (goodV mw_9_7 mw_9_9 mw_s175 mw_1_13 mw_9_10) rfl rfl rfl (by decide +kernel) ⟨Nat.le_of_ble_eq_true rfl, Nat.le_of_ble_eq_true rfl⟩) rfl rfl rfl hl.1 rfl (Nat.le_of_ble_eq_true rfl) dX12_careless_9 ⟨Nat.zero_le _, Nat.zero_le _⟩) hP hD hS hA [0, 1, 2, 3, 4, 5, 6, 7, 8, 9, 10, 11, 12, 13, 14, 15, 16, 17, 18, 19, 20, 21, 22, 23, 24, 25, 26, 27, 28, 29, 30, 31, 32] [] [0, 1, 2, 3, 4, 5, 6, 7, 8, 9, 10, 11, 12, 13, 14, 15, 16, 17, 18, 19, 20, 21, 22, 23, 24, 25, 26, 27, 28, 29, 30, 31, 32] rfl rfl rfl (by decide) rfl (fun _ => rfl) (fun r1 u H locs h hP hD hS => ?_)
  have hP : va_P D vwCl (List.flatten (wM aM C (va_up ms 0 0) mw ma ml)) H := hP
  have hD : va_D A (List.flatten (wM aM C (va_up ms 0 0) mw ma ml)) := hD
  refine lv_if_eq (tgt := 25) hx hb dX12_careless_12 (by decide) (fun c2 => ?_) (fun c2 => ?_)
  · have h := h.1 c2
    refine lv_bipush (v := (-2)) hx hb dX12_careless_25 (by decide) ?_
    rw [← hQ]
    exact cRetI (v := (-2)) ((va_up ms 0 0), mw, ma, ml) hx hb hr hlocks hS hP hD h dX12_careless_27
  · have h := h.2 c2
    refine lv_aload_n hx hb dX12_careless_15 rfl (lv_at hl 0 rfl) ?_
    refine lv_iload_n hx hb dX12_careless_16 rfl (lv_at hl 1 rfl) ?_
    refine lv_iload_n hx hb dX12_careless_17 rfl (lv_at hl 2 rfl) ?_
    refine lv_iload_n hx hb dX12_careless_18 rfl (lv_at hl 3 rfl) ?_
    refine cGoI (wo := fun u => wM aM C u.1 u.2.1 u.2.2.1 u.2.2.2) (cRunV (As := [.int p1, .int p2, .int p3]) (rest := []) ⟨hx, hb, hml, hown, hw⟩ hK hN hP hD [0, 1, 2, 3, 4, 5, 6, 7, 8, 9, 10, 11, 12, 13, 14, 15, 16, 17, 18, 19, 20, 21, 22, 23, 24, 25, 26, 27, 28, 29, 30, 31, 32] rfl rfl (k_X12_covers l D C _ aM  (va_up ms 0 0) mw ma ml p1 p2 p3 h) (cwV 3 hw (goodV mw_9_11 mw_9_13 mw_s176 mw_1_13 mw_9_14) rfl rfl rfl (by decide +kernel) ⟨Nat.le_of_ble_eq_true rfl, Nat.le_of_ble_eq_true rfl⟩) rfl rfl rfl hl.1 rfl (Nat.le_of_ble_eq_true rfl) dX12_careless_19 ⟨Nat.zero_le _, Nat.zero_le _⟩) hP hD hS hA [0, 1, 2, 3, 4, 5, 6, 7, 8, 9, 10, 11, 12, 13, 14, 15, 16, 17, 18, 19, 20, 21, 22, 23, 24, 25, 26, 27, 28, 29, 30, 31, 32] [] [0, 1, 2, 3, 4, 5, 6, 7, 8, 9, 10, 11, 12, 13, 14, 15, 16, 17, 18, 19, 20, 21, 22, 23, 24, 25, 26, 27, 28, 29, 30, 31, 32] rfl rfl rfl (by decide) rfl (fun _ => rfl) (fun r7 u H locs h hP hD hS => ?_)
    obtain ⟨ms_3, mw_4, ma_5, ml_6⟩ := u
    have hP : va_P D vwCl (List.flatten (wM aM C ms_3 mw_4 ma_5 ml_6)) H := hP
    have hD : va_D A (List.flatten (wM aM C ms_3 mw_4 ma_5 ml_6)) := hD
    refine lv_goto (tgt := 27) hx hb dX12_careless_22 (by decide) ?_
    rw [← hQ]
    exact cRetI (v := r7) (ms_3, mw_4, ma_5, ml_6) hx hb hr hlocks hS hP hD h dX12_careless_27
abbrev vsX12_byLaw : List Cond := Cond.code yX12_byLaw cX12_byLaw 4 (some .long) :: WS
abbrev rmX12_byLaw : Room := { frames := 6, cells := 0, slots := 0, locals := 143 }
set_option maxHeartbeats 4000000 in
set_option maxRecDepth 100000 in
theorem k_X12_byLaw (l : Launch) (D : va_G) (C : Nat → ClassId) (sz : Nat) (aM : Nat → Nat)  (ms : Nat → Int32) (mw : Nat → Int64) (ma : Nat → Nat → Int32) (ml : Nat → Nat → Int64) (p1 : Int32) {post : Int64 → (Nat → Int32) → (Nat → Nat → Int32) → (Nat → Nat → Int64) → Prop} (h : P_X12_byLaw ms ma ml p1 post) : Met l yX12_byLaw vsX12_byLaw rmX12_byLaw (cPre D C [.ref (aM 0), .int p1] sz (wM aM C ms mw ma ml)) (cQl D (fun (r : Int64) (u : (Nat → Int32) × (Nat → Nat → Int32) × (Nat → Nat → Int64)) => post r u.1 u.2.1 u.2.2) (fun u => wM aM C u.1 mw u.2.1 u.2.2) (va_A (List.flatten (wM aM C ms mw ma ml)) sz)) 0 0 (va_A (List.flatten (wM aM C ms mw ma ml)) sz) := by
  refine cStart (QA := fun A => cQl D (fun (r : Int64) (u : (Nat → Int32) × (Nat → Nat → Int32) × (Nat → Nat → Int64)) => post r u.1 u.2.1 u.2.2) (fun u => wM aM C u.1 mw u.2.1 u.2.2) A) (cc := cX12_byLaw) (maxL := 4) (ret := (some .long)) (by decide) (Nat.le_of_ble_eq_true rfl) ?_
  intro p e s m args below meth c A ls hx hb hr hml hown hw hlocks hname hK hN hA hP hD hS hl
  generalize hQ : MQ below _ args s 0 0 A = Q
  have hl : lv_has ls 4 [(0, .ref (aM 0)), (1, .int p1)] := hl
  obtain ⟨H, hH⟩ : ∃ H, H = s.heap := ⟨_, rfl⟩
  obtain ⟨locs, hlo⟩ : ∃ z : List Loc, z = [] := ⟨_, rfl⟩
  have hP : va_P D vwCl (List.flatten (wM aM C ms mw ma ml)) H := by rw [hH]; exact hP
  have hS : va_S A s.heap H locs := by rw [hH, hlo]; exact hS
  rw [show W p l e rmX12_byLaw s m args below meth c s.heap [] 0 0 Q (F0 m 0 ls []) = W p l e rmX12_byLaw s m args below meth c H locs 0 0 Q (F0 m 0 ls []) from by rw [hH, hlo]]
  have N51 : ∀ (ms : Nat → Int32) (ma : Nat → Nat → Int32) (ml : Nat → Nat → Int64) (H : Heap) (locs : List Loc) (ls : Array Slot), P_X12_byLaw_51 p1 post  ms ma ml → va_P D vwCl (List.flatten (wM aM C ms mw ma ml)) H → va_D A (List.flatten (wM aM C ms mw ma ml)) → va_S A s.heap H locs → lv_has ls 4 [(0, .ref (aM 0))] → W p l e rmX12_byLaw s m args below meth c H locs 0 0 Q (F0 m 51 ls []) := by
    intro ms ma ml H locs ls h hP hD hS hl
    refine lv_aload_n hx hb dX12_byLaw_51 rfl (lv_at hl 0 rfl) ?_
    refine lv_iconst (v := 2) hx hb dX12_byLaw_52 (by decide) ?_
    refine cGoL (wo := fun u => wM aM C u.1 mw u.2.1 u.2.2) (cRunV (As := [.int 2]) (rest := []) ⟨hx, hb, hml, hown, hw⟩ hK hN hP hD [0, 1, 2, 3, 4, 5, 6, 7, 8, 9, 10, 11, 12, 13, 14, 15, 16, 17, 18, 19, 20, 21, 22, 23, 24, 25, 26, 27, 28, 29, 30, 31, 32] rfl rfl (k_X12_allNow l D C _ aM  ms mw ma ml 2 h) (cwV 1 hw (goodV mw_8_28 mw_8_30 mw_s151 mw_1_13 mw_8_31) rfl rfl rfl (by decide +kernel) ⟨Nat.le_of_ble_eq_true rfl, Nat.le_of_ble_eq_true rfl⟩) rfl rfl rfl hl.1 rfl (Nat.le_of_ble_eq_true rfl) dX12_byLaw_53 ⟨Nat.zero_le _, Nat.zero_le _⟩) hP hD hS hA [0, 1, 2, 3, 4, 5, 6, 7, 8, 9, 10, 11, 12, 13, 14, 15, 16, 17, 18, 19, 20, 21, 22, 23, 24, 25, 26, 27, 28, 29, 30, 31, 32] [] [0, 1, 2, 3, 4, 5, 6, 7, 8, 9, 10, 11, 12, 13, 14, 15, 16, 17, 18, 19, 20, 21, 22, 23, 24, 25, 26, 27, 28, 29, 30, 31, 32] rfl rfl rfl (by decide) rfl (fun _ => rfl) (fun r4 u H locs h hP hD hS => ?_)
    obtain ⟨ms_1, ma_2, ml_3⟩ := u
    have hP : va_P D vwCl (List.flatten (wM aM C ms_1 mw ma_2 ml_3)) H := hP
    have hD : va_D A (List.flatten (wM aM C ms_1 mw ma_2 ml_3)) := hD
    refine lv_lstore_n (lv' := [(2, .long r4), (0, .ref (aM 0))]) hx hb dX12_byLaw_56 rfl hl (by decide) rfl (fun ls hl => ?_)
    refine lv_aload_n hx hb dX12_byLaw_57 rfl (lv_at hl 1 rfl) ?_
    refine cGoV (wo := fun u => wM aM C ms_1 mw u ml_3) (cRunV (As := []) (rest := []) ⟨hx, hb, hml, hown, hw⟩ hK hN hP hD [0, 1, 2, 3, 4, 5, 6, 7, 8, 9, 10, 11, 12, 13, 14, 15, 16, 17, 18, 19, 20, 21, 22, 23, 24, 25, 26, 27, 28, 29, 30, 31, 32] rfl rfl (k_X12_takesBack l D C _ aM  ms_1 mw ma_2 ml_3  h) (cwV 0 hw (goodV mw_8_97 mw_8_99 mw_s162 mw_1_13 mw_8_100) rfl rfl rfl (by decide +kernel) ⟨Nat.le_of_ble_eq_true rfl, Nat.le_of_ble_eq_true rfl⟩) rfl rfl rfl hl.1 rfl (Nat.le_of_ble_eq_true rfl) dX12_byLaw_58 ⟨Nat.zero_le _, Nat.zero_le _⟩) hP hD hS hA [0, 1, 2, 3, 4, 5, 6, 7, 8, 9, 10, 11, 12, 13, 14, 15, 16, 17, 18, 19, 20, 21, 22, 23, 24, 25, 26, 27, 28, 29, 30, 31, 32] [] [0, 1, 2, 3, 4, 5, 6, 7, 8, 9, 10, 11, 12, 13, 14, 15, 16, 17, 18, 19, 20, 21, 22, 23, 24, 25, 26, 27, 28, 29, 30, 31, 32] rfl rfl rfl (by decide) rfl (fun _ => rfl) (fun ma_5 H locs h hP hD hS => ?_)
    have hP : va_P D vwCl (List.flatten (wM aM C ms_1 mw ma_5 ml_3)) H := hP
    have hD : va_D A (List.flatten (wM aM C ms_1 mw ma_5 ml_3)) := hD
    refine lv_lload_n hx hb dX12_byLaw_61 rfl (lv_at hl 0 rfl) ?_
    rw [← hQ]
    exact cRetL (v := r4) (ms_1, ma_5, ml_3) hx hb hr hlocks hS hP hD h dX12_byLaw_62
  have N6 : ∀ (ms : Nat → Int32) (ml : Nat → Nat → Int64) (n6 : Nat) (x2_ : Int32) (ma : Nat → Nat → Int32) (H : Heap) (locs : List Loc) (ls : Array Slot), P_X12_byLaw_6 p1 post (fun (ms : Nat → Int32) (ma : Nat → Nat → Int32) (ml : Nat → Nat → Int64) => P_X12_byLaw_51 p1 post  ms ma ml) ms ml n6 x2_ ma → va_P D vwCl (List.flatten (wM aM C ms mw ma ml)) H → va_D A (List.flatten (wM aM C ms mw ma ml)) → va_S A s.heap H locs → lv_has ls 4 [(0, .ref (aM 0)), (1, .int p1), (2, .int x2_)] → W p l e rmX12_byLaw s m args below meth c H locs 0 0 Q (F0 m 6 ls []) := by
    intro ms ml
    intro n6
    induction n6 with
    | zero => intro x2_ ma H locs ls h hP hD hS hl; exact False.elim h
    | succ n6 ih6 =>
      intro x2_ ma H locs ls h hP hD hS hl
      refine lv_iload_n hx hb dX12_byLaw_6 rfl (lv_at hl 2 rfl) ?_
      refine lv_aload_n hx hb dX12_byLaw_7 rfl (lv_at hl 0 rfl) ?_
      refine va_get (D := D) (ci := 12) (v := .ref (aM 13)) (C := RX12) (T := TX12) (N := 51) hx hb hw inW_X12 hown hK hP 0 rfl rfl 23 (by decide) (hw _ mw_6_66) (fun _ h9 => h9) rfl dX12_byLaw_8 ?_
      refine lv_iconst (v := 0) hx hb dX12_byLaw_11 (by decide) ?_
      refine cIald hx hb hK hP 13 0 rfl rfl 0 (by decide +kernel) (cIn (by decide +kernel)) dX12_byLaw_12 ?_
      refine lv_icmp_ge (tgt := 51) hx hb dX12_byLaw_13 (by decide) (fun c6 => ?_) (fun c6 => ?_)
      · have h := h.1 c6
        exact N51 ms ma ml _ _ _ h hP hD hS (lv_sub hl [0] rfl)
      · have h := h.2 c6
        refine lv_aload_n hx hb dX12_byLaw_16 rfl (lv_at hl 0 rfl) ?_
        refine va_get (D := D) (ci := 12) (v := .ref (aM 14)) (C := RX12) (T := TX12) (N := 51) hx hb hw inW_X12 hown hK hP 0 rfl rfl 24 (by decide) (hw _ mw_6_67) (fun _ h9 => h9) rfl dX12_byLaw_17 ?_
        refine lv_iconst (v := 0) hx hb dX12_byLaw_20 (by decide) ?_
        refine lv_iload_n hx hb dX12_byLaw_21 rfl (lv_at hl 2 rfl) ?_
        refine cGoI (wo := fun u => wM aM C ms mw ma ml) (cRunS (As := [.int 0, .int x2_]) (rest := [.ref (aM 14)]) ⟨hx, hb, hml, hown, hw⟩ hK hN hP hD [] rfl rfl (k_X12_at l D C _    0 x2_ h) (va_cwS 2 hw (goodS mw_7_148 mw_7_149 mw_1_13 mw_7_150) rfl rfl rfl (by decide +kernel) ⟨Nat.le_of_ble_eq_true rfl, Nat.le_of_ble_eq_true rfl⟩) rfl hl.1 rfl (Nat.le_of_ble_eq_true rfl) dX12_byLaw_22 ⟨Nat.zero_le _, Nat.zero_le _⟩) hP hD hS hA [] [0, 1, 2, 3, 4, 5, 6, 7, 8, 9, 10, 11, 12, 13, 14, 15, 16, 17, 18, 19, 20, 21, 22, 23, 24, 25, 26, 27, 28, 29, 30, 31, 32] [0, 1, 2, 3, 4, 5, 6, 7, 8, 9, 10, 11, 12, 13, 14, 15, 16, 17, 18, 19, 20, 21, 22, 23, 24, 25, 26, 27, 28, 29, 30, 31, 32] rfl rfl rfl (by decide) rfl (fun _ => rfl) (fun r7 u H locs h hP hD hS => ?_)
        have hP : va_P D vwCl (List.flatten (wM aM C ms mw ma ml)) H := hP
        have hD : va_D A (List.flatten (wM aM C ms mw ma ml)) := hD
        refine lv_iconst (v := 3) hx hb dX12_byLaw_25 (by decide) ?_
        refine lv_iadd hx hb dX12_byLaw_26 ?_
        refine cIald hx hb hK hP 14 0 rfl rfl ((r7 + 3).toNatClampNeg) rfl h.1 dX12_byLaw_27 ?_
        have h := h.2
        refine lv_iload_n hx hb dX12_byLaw_28 rfl (lv_at hl 1 rfl) ?_
        refine lv_icmp_ge (tgt := 45) hx hb dX12_byLaw_29 (by decide) (fun c8 => ?_) (fun c8 => ?_)
        · have h := h.1 c8
          refine lv_iinc (v := (x2_ + 1)) (lv' := [(2, .int (x2_ + 1)), (0, .ref (aM 0)), (1, .int p1)]) hx hb dX12_byLaw_45 hl (k := 2) rfl rfl (by decide) rfl (fun ls hl => ?_)
          refine lv_goto (tgt := 6) hx hb dX12_byLaw_48 (by decide) ?_
          exact ih6 (x2_ + 1) ma _ _ _ h hP hD hS (lv_sub hl [1, 2, 0] rfl)
        · have h := h.2 c8
          refine lv_aload_n hx hb dX12_byLaw_32 rfl (lv_at hl 0 rfl) ?_
          refine va_get (D := D) (ci := 12) (v := .ref (aM 14)) (C := RX12) (T := TX12) (N := 51) hx hb hw inW_X12 hown hK hP 0 rfl rfl 24 (by decide) (hw _ mw_6_67) (fun _ h9 => h9) rfl dX12_byLaw_33 ?_
          refine lv_iconst (v := 0) hx hb dX12_byLaw_36 (by decide) ?_
          refine lv_iload_n hx hb dX12_byLaw_37 rfl (lv_at hl 2 rfl) ?_
          refine cGoI (wo := fun u => wM aM C ms mw ma ml) (cRunS (As := [.int 0, .int x2_]) (rest := [.ref (aM 14)]) ⟨hx, hb, hml, hown, hw⟩ hK hN hP hD [] rfl rfl (k_X12_at l D C _    0 x2_ h) (va_cwS 2 hw (goodS mw_7_148 mw_7_149 mw_1_13 mw_7_150) rfl rfl rfl (by decide +kernel) ⟨Nat.le_of_ble_eq_true rfl, Nat.le_of_ble_eq_true rfl⟩) rfl hl.1 rfl (Nat.le_of_ble_eq_true rfl) dX12_byLaw_38 ⟨Nat.zero_le _, Nat.zero_le _⟩) hP hD hS hA [] [0, 1, 2, 3, 4, 5, 6, 7, 8, 9, 10, 11, 12, 13, 14, 15, 16, 17, 18, 19, 20, 21, 22, 23, 24, 25, 26, 27, 28, 29, 30, 31, 32] [0, 1, 2, 3, 4, 5, 6, 7, 8, 9, 10, 11, 12, 13, 14, 15, 16, 17, 18, 19, 20, 21, 22, 23, 24, 25, 26, 27, 28, 29, 30, 31, 32] rfl rfl rfl (by decide) rfl (fun _ => rfl) (fun r9 u H locs h hP hD hS => ?_)
          have hP : va_P D vwCl (List.flatten (wM aM C ms mw ma ml)) H := hP
          have hD : va_D A (List.flatten (wM aM C ms mw ma ml)) := hD
          refine lv_iconst (v := 3) hx hb dX12_byLaw_41 (by decide) ?_
          refine lv_iadd hx hb dX12_byLaw_42 ?_
          refine lv_iload_n hx hb dX12_byLaw_43 rfl (lv_at hl 1 rfl) ?_
          refine cIast hx hb hK hP hD hS 14 0 rfl rfl ((r9 + 3).toNatClampNeg) rfl h.1 dX12_byLaw_44 (fun H locs hP hD hS => ?_)
          have h := h.2
          refine lv_iinc (v := (x2_ + 1)) (lv' := [(2, .int (x2_ + 1)), (0, .ref (aM 0)), (1, .int p1)]) hx hb dX12_byLaw_45 hl (k := 2) rfl rfl (by decide) rfl (fun ls hl => ?_)
          refine lv_goto (tgt := 6) hx hb dX12_byLaw_48 (by decide) ?_
          have hP : va_P D vwCl (List.flatten (wM aM C ms mw (va_up ma 11 (upd (ma 11) ((r9 + 3).toNatClampNeg) p1)) ml)) H := hP
          have hD : va_D A (List.flatten (wM aM C ms mw (va_up ma 11 (upd (ma 11) ((r9 + 3).toNatClampNeg) p1)) ml)) := hD
          exact ih6 (x2_ + 1) (va_up ma 11 (upd (ma 11) ((r9 + 3).toNatClampNeg) p1)) _ _ _ h hP hD hS (lv_sub hl [1, 2, 0] rfl)
  refine lv_aload_n hx hb dX12_byLaw_0 rfl (lv_at hl 0 rfl) ?_
  refine cGoV (wo := fun u => wM aM C ms mw u ml) (cRunV (As := []) (rest := []) ⟨hx, hb, hml, hown, hw⟩ hK hN hP hD [0, 1, 2, 3, 4, 5, 6, 7, 8, 9, 10, 11, 12, 13, 14, 15, 16, 17, 18, 19, 20, 21, 22, 23, 24, 25, 26, 27, 28, 29, 30, 31, 32] rfl rfl (k_X12_laysAside l D C _ aM  ms mw ma ml  h) (cwV 0 hw (goodV mw_8_93 mw_8_95 mw_s161 mw_1_13 mw_8_96) rfl rfl rfl (by decide +kernel) ⟨Nat.le_of_ble_eq_true rfl, Nat.le_of_ble_eq_true rfl⟩) rfl rfl rfl hl.1 rfl (Nat.le_of_ble_eq_true rfl) dX12_byLaw_1 ⟨Nat.zero_le _, Nat.zero_le _⟩) hP hD hS hA [0, 1, 2, 3, 4, 5, 6, 7, 8, 9, 10, 11, 12, 13, 14, 15, 16, 17, 18, 19, 20, 21, 22, 23, 24, 25, 26, 27, 28, 29, 30, 31, 32] [] [0, 1, 2, 3, 4, 5, 6, 7, 8, 9, 10, 11, 12, 13, 14, 15, 16, 17, 18, 19, 20, 21, 22, 23, 24, 25, 26, 27, 28, 29, 30, 31, 32] rfl rfl rfl (by decide) rfl (fun _ => rfl) (fun ma_10 H locs h hP hD hS => ?_)
  have hP : va_P D vwCl (List.flatten (wM aM C ms mw ma_10 ml)) H := hP
  have hD : va_D A (List.flatten (wM aM C ms mw ma_10 ml)) := hD
  refine lv_iconst (v := 0) hx hb dX12_byLaw_4 (by decide) ?_
  refine lv_istore_n (lv' := [(2, .int 0), (0, .ref (aM 0)), (1, .int p1)]) hx hb dX12_byLaw_5 rfl hl (by decide) rfl (fun ls hl => ?_)
  obtain ⟨n, h⟩ := h
  exact N6 ms ml n 0 ma_10 _ _ _ h hP hD hS (lv_sub hl [1, 2, 0] rfl)
abbrev vsX12_law : List Cond := Cond.code yX12_law cX12_law 2 (some .long) :: WS
abbrev rmX12_law : Room := { frames := 7, cells := 0, slots := 0, locals := 166 }
set_option maxHeartbeats 4000000 in
set_option maxRecDepth 100000 in
theorem k_X12_law (l : Launch) (D : va_G) (C : Nat → ClassId) (sz : Nat) (aM : Nat → Nat)  (ms : Nat → Int32) (mw : Nat → Int64) (ma : Nat → Nat → Int32) (ml : Nat → Nat → Int64) (p1 : Int32) {post : Int64 → (Nat → Int32) → (Nat → Nat → Int32) → (Nat → Nat → Int64) → Prop} (h : P_X12_law ms ma ml p1 post) : Met l yX12_law vsX12_law rmX12_law (cPre D C [.ref (aM 0), .int p1] sz (wM aM C ms mw ma ml)) (cQl D (fun (r : Int64) (u : (Nat → Int32) × (Nat → Nat → Int32) × (Nat → Nat → Int64)) => post r u.1 u.2.1 u.2.2) (fun u => wM aM C u.1 mw u.2.1 u.2.2) (va_A (List.flatten (wM aM C ms mw ma ml)) sz)) 0 0 (va_A (List.flatten (wM aM C ms mw ma ml)) sz) := by
  refine cStart (QA := fun A => cQl D (fun (r : Int64) (u : (Nat → Int32) × (Nat → Nat → Int32) × (Nat → Nat → Int64)) => post r u.1 u.2.1 u.2.2) (fun u => wM aM C u.1 mw u.2.1 u.2.2) A) (cc := cX12_law) (maxL := 2) (ret := (some .long)) (by decide) (Nat.le_of_ble_eq_true rfl) ?_
  intro p e s m args below meth c A ls hx hb hr hml hown hw hlocks hname hK hN hA hP hD hS hl
  generalize hQ : MQ below _ args s 0 0 A = Q
  have hl : lv_has ls 2 [(0, .ref (aM 0)), (1, .int p1)] := hl
  obtain ⟨H, hH⟩ : ∃ H, H = s.heap := ⟨_, rfl⟩
  obtain ⟨locs, hlo⟩ : ∃ z : List Loc, z = [] := ⟨_, rfl⟩
  have hP : va_P D vwCl (List.flatten (wM aM C ms mw ma ml)) H := by rw [hH]; exact hP
  have hS : va_S A s.heap H locs := by rw [hH, hlo]; exact hS
  rw [show W p l e rmX12_law s m args below meth c s.heap [] 0 0 Q (F0 m 0 ls []) = W p l e rmX12_law s m args below meth c H locs 0 0 Q (F0 m 0 ls []) from by rw [hH, hlo]]
  refine lv_aload_n hx hb dX12_law_0 rfl (lv_at hl 0 rfl) ?_
  refine lv_iconst (v := 0) hx hb dX12_law_1 (by decide) ?_
  refine va_put (D := D) (ci := 12) (v := .int 0) (ty := .int) (C := RX12) (T := TX12) (N := 51) hx hb hw inW_X12 tyX12 tyX12_ok nmX12 hown hK hP hD hS 0 rfl rfl 0 (by decide) (hw _ mw_6_43) (fun _ h9 => h9) rfl (by decide +kernel) rfl rfl (Nat.le_of_ble_eq_true rfl) dX12_law_2 (fun H locs hP hD hS => ?_)
  refine lv_aload_n hx hb dX12_law_5 rfl (lv_at hl 0 rfl) ?_
  have hP : va_P D vwCl (List.flatten (wM aM C (va_up ms 0 0) mw ma ml)) H := hP
  have hD : va_D A (List.flatten (wM aM C (va_up ms 0 0) mw ma ml)) := hD
  refine cGoI (wo := fun u => wM aM C (va_up ms 0 0) mw ma ml) (cRunV (As := []) (rest := []) ⟨hx, hb, hml, hown, hw⟩ hK hN hP hD [0, 1, 2, 3, 4, 5, 6, 7, 8, 9, 10, 11, 12, 13, 14, 15, 16, 17, 18, 19, 20, 21, 22, 23, 24, 25, 26, 27, 28, 29, 30, 31, 32] rfl rfl (k_X12_isRail l D C _ aM  (va_up ms 0 0) mw ma ml  h) (cwV 0 hw (goodV mw_7_204 mw_7_206 mw_s142 mw_1_13 mw_7_207) rfl rfl rfl (by decide +kernel) ⟨Nat.le_of_ble_eq_true rfl, Nat.le_of_ble_eq_true rfl⟩) rfl rfl rfl hl.1 rfl (Nat.le_of_ble_eq_true rfl) dX12_law_6 ⟨Nat.zero_le _, Nat.zero_le _⟩) hP hD hS hA [0, 1, 2, 3, 4, 5, 6, 7, 8, 9, 10, 11, 12, 13, 14, 15, 16, 17, 18, 19, 20, 21, 22, 23, 24, 25, 26, 27, 28, 29, 30, 31, 32] [] [0, 1, 2, 3, 4, 5, 6, 7, 8, 9, 10, 11, 12, 13, 14, 15, 16, 17, 18, 19, 20, 21, 22, 23, 24, 25, 26, 27, 28, 29, 30, 31, 32] rfl rfl rfl (by decide) rfl (fun _ => rfl) (fun r1 u H locs h hP hD hS => ?_)
  have hP : va_P D vwCl (List.flatten (wM aM C (va_up ms 0 0) mw ma ml)) H := hP
  have hD : va_D A (List.flatten (wM aM C (va_up ms 0 0) mw ma ml)) := hD
  refine lv_if_eq (tgt := 40) hx hb dX12_law_9 (by decide) (fun c2 => ?_) (fun c2 => ?_)
  · have h := h.1 c2
    refine lv_ldc2 (v := (-2)) hx hb hown (hw _ mw_7_208) dX12_law_40 ?_
    rw [← hQ]
    exact cRetL (v := (-2)) ((va_up ms 0 0), ma, ml) hx hb hr hlocks hS hP hD h dX12_law_43
  · have h := h.2 c2
    refine lv_iload_n hx hb dX12_law_12 rfl (lv_at hl 1 rfl) ?_
    refine lv_i2l hx hb dX12_law_13 rfl ?_
    refine lv_ldc2 (v := (-1)) hx hb hown (hw _ mw_7_15) dX12_law_14 ?_
    refine lv_aload_n hx hb dX12_law_17 rfl (lv_at hl 0 rfl) ?_
    refine va_get (D := D) (ci := 12) (v := .ref (aM 11)) (C := RX12) (T := TX12) (N := 51) hx hb hw inW_X12 hown hK hP 0 rfl rfl 21 (by decide) (hw _ mw_6_64) (fun _ h9 => h9) rfl dX12_law_18 ?_
    refine lv_iconst (v := 0) hx hb dX12_law_21 (by decide) ?_
    refine cIald hx hb hK hP 11 0 rfl rfl 0 (by decide +kernel) (cIn (by decide +kernel)) dX12_law_22 ?_
    refine lv_iconst (v := 1) hx hb dX12_law_23 (by decide) ?_
    refine lv_isub hx hb dX12_law_24 ?_
    refine lv_i2l hx hb dX12_law_25 rfl ?_
    refine cGoI (wo := fun u => wM aM C (va_up ms 0 0) mw ma ml) (cRunS (As := [.long p1.toInt64, .long (-1), .long (((ma 8 0) - 1).toInt64)]) (rest := []) ⟨hx, hb, hml, hown, hw⟩ hK hN hP hD [] rfl rfl (k_X12_in l D C _    p1.toInt64 (-1) (((ma 8 0) - 1).toInt64) h) (va_cwS 3 hw (goodS mw_6_205 mw_6_206 mw_1_13 mw_6_207) rfl rfl rfl (by decide +kernel) ⟨Nat.le_of_ble_eq_true rfl, Nat.le_of_ble_eq_true rfl⟩) rfl hl.1 rfl (Nat.le_of_ble_eq_true rfl) dX12_law_26 ⟨Nat.zero_le _, Nat.zero_le _⟩) hP hD hS hA [] [0, 1, 2, 3, 4, 5, 6, 7, 8, 9, 10, 11, 12, 13, 14, 15, 16, 17, 18, 19, 20, 21, 22, 23, 24, 25, 26, 27, 28, 29, 30, 31, 32] [0, 1, 2, 3, 4, 5, 6, 7, 8, 9, 10, 11, 12, 13, 14, 15, 16, 17, 18, 19, 20, 21, 22, 23, 24, 25, 26, 27, 28, 29, 30, 31, 32] rfl rfl rfl (by decide) rfl (fun _ => rfl) (fun r3 u H locs h hP hD hS => ?_)
    have hP : va_P D vwCl (List.flatten (wM aM C (va_up ms 0 0) mw ma ml)) H := hP
    have hD : va_D A (List.flatten (wM aM C (va_up ms 0 0) mw ma ml)) := hD
    refine lv_if_eq (tgt := 40) hx hb dX12_law_29 (by decide) (fun c4 => ?_) (fun c4 => ?_)
    · have h := h.1 c4
      refine lv_ldc2 (v := (-2)) hx hb hown (hw _ mw_7_208) dX12_law_40 ?_
      rw [← hQ]
      exact cRetL (v := (-2)) ((va_up ms 0 0), ma, ml) hx hb hr hlocks hS hP hD h dX12_law_43
    · have h := h.2 c4
      refine lv_aload_n hx hb dX12_law_32 rfl (lv_at hl 0 rfl) ?_
      refine lv_iload_n hx hb dX12_law_33 rfl (lv_at hl 1 rfl) ?_
      refine cGoL (wo := fun u => wM aM C u.1 mw u.2.1 u.2.2) (cRunV (As := [.int p1]) (rest := []) ⟨hx, hb, hml, hown, hw⟩ hK hN hP hD [0, 1, 2, 3, 4, 5, 6, 7, 8, 9, 10, 11, 12, 13, 14, 15, 16, 17, 18, 19, 20, 21, 22, 23, 24, 25, 26, 27, 28, 29, 30, 31, 32] rfl rfl (k_X12_byLaw l D C _ aM  (va_up ms 0 0) mw ma ml p1 h) (cwV 1 hw (goodV mw_9_23 mw_9_25 mw_s177 mw_1_13 mw_9_26) rfl rfl rfl (by decide +kernel) ⟨Nat.le_of_ble_eq_true rfl, Nat.le_of_ble_eq_true rfl⟩) rfl rfl rfl hl.1 rfl (Nat.le_of_ble_eq_true rfl) dX12_law_34 ⟨Nat.zero_le _, Nat.zero_le _⟩) hP hD hS hA [0, 1, 2, 3, 4, 5, 6, 7, 8, 9, 10, 11, 12, 13, 14, 15, 16, 17, 18, 19, 20, 21, 22, 23, 24, 25, 26, 27, 28, 29, 30, 31, 32] [] [0, 1, 2, 3, 4, 5, 6, 7, 8, 9, 10, 11, 12, 13, 14, 15, 16, 17, 18, 19, 20, 21, 22, 23, 24, 25, 26, 27, 28, 29, 30, 31, 32] rfl rfl rfl (by decide) rfl (fun _ => rfl) (fun r8 u H locs h hP hD hS => ?_)
      obtain ⟨ms_5, ma_6, ml_7⟩ := u
      have hP : va_P D vwCl (List.flatten (wM aM C ms_5 mw ma_6 ml_7)) H := hP
      have hD : va_D A (List.flatten (wM aM C ms_5 mw ma_6 ml_7)) := hD
      refine lv_goto (tgt := 43) hx hb dX12_law_37 (by decide) ?_
      rw [← hQ]
      exact cRetL (v := r8) (ms_5, ma_6, ml_7) hx hb hr hlocks hS hP hD h dX12_law_43
abbrev vsX12_laws : List Cond := Cond.code yX12_laws cX12_laws 7 (some .int) :: WS
abbrev rmX12_laws : Room := { frames := 7, cells := 0, slots := 0, locals := 166 }
set_option maxHeartbeats 4000000 in
set_option maxRecDepth 100000 in
theorem k_X12_laws (l : Launch) (D : va_G) (C : Nat → ClassId) (sz : Nat) (aM : Nat → Nat)  (ms : Nat → Int32) (mw : Nat → Int64) (ma : Nat → Nat → Int32) (ml : Nat → Nat → Int64)  {post : Int32 → (Nat → Int32) → (Nat → Nat → Int32) → (Nat → Nat → Int64) → Prop} (h : P_X12_laws ms ma ml post) : Met l yX12_laws vsX12_laws rmX12_laws (cPre D C [.ref (aM 0)] sz (wM aM C ms mw ma ml)) (cQi D (fun (r : Int32) (u : (Nat → Int32) × (Nat → Nat → Int32) × (Nat → Nat → Int64)) => post r u.1 u.2.1 u.2.2) (fun u => wM aM C u.1 mw u.2.1 u.2.2) (va_A (List.flatten (wM aM C ms mw ma ml)) sz)) 0 0 (va_A (List.flatten (wM aM C ms mw ma ml)) sz) := by
  refine cStart (QA := fun A => cQi D (fun (r : Int32) (u : (Nat → Int32) × (Nat → Nat → Int32) × (Nat → Nat → Int64)) => post r u.1 u.2.1 u.2.2) (fun u => wM aM C u.1 mw u.2.1 u.2.2) A) (cc := cX12_laws) (maxL := 7) (ret := (some .int)) (by decide) (Nat.le_of_ble_eq_true rfl) ?_
  intro p e s m args below meth c A ls hx hb hr hml hown hw hlocks hname hK hN hA hP hD hS hl
  generalize hQ : MQ below _ args s 0 0 A = Q
  have hl : lv_has ls 7 [(0, .ref (aM 0))] := hl
  obtain ⟨H, hH⟩ : ∃ H, H = s.heap := ⟨_, rfl⟩
  obtain ⟨locs, hlo⟩ : ∃ z : List Loc, z = [] := ⟨_, rfl⟩
  have hP : va_P D vwCl (List.flatten (wM aM C ms mw ma ml)) H := by rw [hH]; exact hP
  have hS : va_S A s.heap H locs := by rw [hH, hlo]; exact hS
  rw [show W p l e rmX12_laws s m args below meth c s.heap [] 0 0 Q (F0 m 0 ls []) = W p l e rmX12_laws s m args below meth c H locs 0 0 Q (F0 m 0 ls []) from by rw [hH, hlo]]
  have N26 : ∀  (n26 : Nat) (x1_ : Int32) (x2_ : Int64) (x4_ : Int32) (ms : Nat → Int32) (ma : Nat → Nat → Int32) (ml : Nat → Nat → Int64) (H : Heap) (locs : List Loc) (ls : Array Slot), P_X12_laws_26  post   n26 x1_ x2_ x4_ ms ma ml → va_P D vwCl (List.flatten (wM aM C ms mw ma ml)) H → va_D A (List.flatten (wM aM C ms mw ma ml)) → va_S A s.heap H locs → lv_has ls 7 [(0, .ref (aM 0)), (1, .int x1_), (2, .long x2_), (4, .int x4_)] → W p l e rmX12_laws s m args below meth c H locs 0 0 Q (F0 m 26 ls []) := by
    intro n26
    induction n26 with
    | zero => intro x1_ x2_ x4_ ms ma ml H locs ls h hP hD hS hl; exact False.elim h
    | succ n26 ih26 =>
      intro x1_ x2_ x4_ ms ma ml H locs ls h hP hD hS hl
      refine lv_iload hx hb dX12_laws_26 (lv_at hl 3 rfl) ?_
      refine lv_aload_n hx hb dX12_laws_28 rfl (lv_at hl 0 rfl) ?_
      refine va_get (D := D) (ci := 12) (v := .ref (aM 11)) (C := RX12) (T := TX12) (N := 51) hx hb hw inW_X12 hown hK hP 0 rfl rfl 21 (by decide) (hw _ mw_6_64) (fun _ h9 => h9) rfl dX12_laws_29 ?_
      refine lv_iconst (v := 0) hx hb dX12_laws_32 (by decide) ?_
      refine cIald hx hb hK hP 11 0 rfl rfl 0 (by decide +kernel) (cIn (by decide +kernel)) dX12_laws_33 ?_
      refine lv_icmp_ge (tgt := 67) hx hb dX12_laws_34 (by decide) (fun c1 => ?_) (fun c1 => ?_)
      · have h := h.1 c1
        refine lv_iload_n hx hb dX12_laws_67 rfl (lv_at hl 1 rfl) ?_
        rw [← hQ]
        exact cRetI (v := x1_) (ms, ma, ml) hx hb hr hlocks hS hP hD h dX12_laws_68
      · have h := h.2 c1
        refine lv_aload_n hx hb dX12_laws_37 rfl (lv_at hl 0 rfl) ?_
        refine lv_iload hx hb dX12_laws_38 (lv_at hl 3 rfl) ?_
        refine cGoL (wo := fun u => wM aM C u.1 mw u.2.1 u.2.2) (cRunV (As := [.int x4_]) (rest := []) ⟨hx, hb, hml, hown, hw⟩ hK hN hP hD [0, 1, 2, 3, 4, 5, 6, 7, 8, 9, 10, 11, 12, 13, 14, 15, 16, 17, 18, 19, 20, 21, 22, 23, 24, 25, 26, 27, 28, 29, 30, 31, 32] rfl rfl (k_X12_byLaw l D C _ aM  ms mw ma ml x4_ h) (cwV 1 hw (goodV mw_9_23 mw_9_25 mw_s177 mw_1_13 mw_9_26) rfl rfl rfl (by decide +kernel) ⟨Nat.le_of_ble_eq_true rfl, Nat.le_of_ble_eq_true rfl⟩) rfl rfl rfl hl.1 rfl (Nat.le_of_ble_eq_true rfl) dX12_laws_40 ⟨Nat.zero_le _, Nat.zero_le _⟩) hP hD hS hA [0, 1, 2, 3, 4, 5, 6, 7, 8, 9, 10, 11, 12, 13, 14, 15, 16, 17, 18, 19, 20, 21, 22, 23, 24, 25, 26, 27, 28, 29, 30, 31, 32] [] [0, 1, 2, 3, 4, 5, 6, 7, 8, 9, 10, 11, 12, 13, 14, 15, 16, 17, 18, 19, 20, 21, 22, 23, 24, 25, 26, 27, 28, 29, 30, 31, 32] rfl rfl rfl (by decide) rfl (fun _ => rfl) (fun r5 u H locs h hP hD hS => ?_)
        obtain ⟨ms_2, ma_3, ml_4⟩ := u
        have hP : va_P D vwCl (List.flatten (wM aM C ms_2 mw ma_3 ml_4)) H := hP
        have hD : va_D A (List.flatten (wM aM C ms_2 mw ma_3 ml_4)) := hD
        refine lv_lstore (lv' := [(5, .long r5), (0, .ref (aM 0)), (1, .int x1_), (2, .long x2_), (4, .int x4_)]) hx hb dX12_laws_43 hl (by decide) rfl (fun ls hl => ?_)
        refine lv_lload hx hb dX12_laws_45 (lv_at hl 0 rfl) ?_
        refine lv_lload_n hx hb dX12_laws_47 rfl (lv_at hl 3 rfl) ?_
        refine W.lcmp hx hb dX12_laws_48 ?_
        refine lv_if_lt (tgt := 55) hx hb dX12_laws_49 (by decide) (fun c6 => ?_) (fun c6 => ?_)
        · have c6 : r5 < x2_ := (lg_cmp_lt _ _).mp c6
          have h := h.1 c6
          refine lv_iload hx hb dX12_laws_55 (lv_at hl 4 rfl) ?_
          refine lv_istore_n (lv' := [(1, .int x4_), (5, .long r5), (0, .ref (aM 0)), (2, .long x2_), (4, .int x4_)]) hx hb dX12_laws_57 rfl hl (by decide) rfl (fun ls hl => ?_)
          refine lv_lload hx hb dX12_laws_58 (lv_at hl 1 rfl) ?_
          refine lv_lstore_n (lv' := [(2, .long r5), (1, .int x4_), (5, .long r5), (0, .ref (aM 0)), (4, .int x4_)]) hx hb dX12_laws_60 rfl hl (by decide) rfl (fun ls hl => ?_)
          refine lv_iinc (v := (x4_ + 1)) (lv' := [(4, .int (x4_ + 1)), (2, .long r5), (1, .int x4_), (5, .long r5), (0, .ref (aM 0))]) hx hb dX12_laws_61 hl (k := 4) rfl rfl (by decide) rfl (fun ls hl => ?_)
          refine lv_goto (tgt := 26) hx hb dX12_laws_64 (by decide) ?_
          exact ih26 x4_ r5 (x4_ + 1) ms_2 ma_3 ml_4 _ _ _ h hP hD hS (lv_sub hl [4, 2, 1, 0] rfl)
        · have c6 : ¬ r5 < x2_ := fun q => c6 ((lg_cmp_lt _ _).mpr q)
          have h := h.2 c6
          refine lv_goto (tgt := 61) hx hb dX12_laws_52 (by decide) ?_
          refine lv_iinc (v := (x4_ + 1)) (lv' := [(4, .int (x4_ + 1)), (5, .long r5), (0, .ref (aM 0)), (1, .int x1_), (2, .long x2_)]) hx hb dX12_laws_61 hl (k := 4) rfl rfl (by decide) rfl (fun ls hl => ?_)
          refine lv_goto (tgt := 26) hx hb dX12_laws_64 (by decide) ?_
          exact ih26 x1_ x2_ (x4_ + 1) ms_2 ma_3 ml_4 _ _ _ h hP hD hS (lv_sub hl [2, 3, 4, 0] rfl)
  refine lv_aload_n hx hb dX12_laws_0 rfl (lv_at hl 0 rfl) ?_
  refine lv_iconst (v := 0) hx hb dX12_laws_1 (by decide) ?_
  refine va_put (D := D) (ci := 12) (v := .int 0) (ty := .int) (C := RX12) (T := TX12) (N := 51) hx hb hw inW_X12 tyX12 tyX12_ok nmX12 hown hK hP hD hS 0 rfl rfl 0 (by decide) (hw _ mw_6_43) (fun _ h9 => h9) rfl (by decide +kernel) rfl rfl (Nat.le_of_ble_eq_true rfl) dX12_laws_2 (fun H locs hP hD hS => ?_)
  refine lv_aload_n hx hb dX12_laws_5 rfl (lv_at hl 0 rfl) ?_
  have hP : va_P D vwCl (List.flatten (wM aM C (va_up ms 0 0) mw ma ml)) H := hP
  have hD : va_D A (List.flatten (wM aM C (va_up ms 0 0) mw ma ml)) := hD
  refine cGoI (wo := fun u => wM aM C (va_up ms 0 0) mw ma ml) (cRunV (As := []) (rest := []) ⟨hx, hb, hml, hown, hw⟩ hK hN hP hD [0, 1, 2, 3, 4, 5, 6, 7, 8, 9, 10, 11, 12, 13, 14, 15, 16, 17, 18, 19, 20, 21, 22, 23, 24, 25, 26, 27, 28, 29, 30, 31, 32] rfl rfl (k_X12_isRail l D C _ aM  (va_up ms 0 0) mw ma ml  h) (cwV 0 hw (goodV mw_7_204 mw_7_206 mw_s142 mw_1_13 mw_7_207) rfl rfl rfl (by decide +kernel) ⟨Nat.le_of_ble_eq_true rfl, Nat.le_of_ble_eq_true rfl⟩) rfl rfl rfl hl.1 rfl (Nat.le_of_ble_eq_true rfl) dX12_laws_6 ⟨Nat.zero_le _, Nat.zero_le _⟩) hP hD hS hA [0, 1, 2, 3, 4, 5, 6, 7, 8, 9, 10, 11, 12, 13, 14, 15, 16, 17, 18, 19, 20, 21, 22, 23, 24, 25, 26, 27, 28, 29, 30, 31, 32] [] [0, 1, 2, 3, 4, 5, 6, 7, 8, 9, 10, 11, 12, 13, 14, 15, 16, 17, 18, 19, 20, 21, 22, 23, 24, 25, 26, 27, 28, 29, 30, 31, 32] rfl rfl rfl (by decide) rfl (fun _ => rfl) (fun r7 u H locs h hP hD hS => ?_)
  have hP : va_P D vwCl (List.flatten (wM aM C (va_up ms 0 0) mw ma ml)) H := hP
  have hD : va_D A (List.flatten (wM aM C (va_up ms 0 0) mw ma ml)) := hD
  refine lv_if_ne (tgt := 15) hx hb dX12_laws_9 (by decide) (fun c8 => ?_) (fun c8 => ?_)
  · have h := h.1 c8
    refine lv_iconst (v := (-1)) hx hb dX12_laws_15 (by decide) ?_
    refine lv_istore_n (lv' := [(1, .int (-1)), (0, .ref (aM 0))]) hx hb dX12_laws_16 rfl hl (by decide) rfl (fun ls hl => ?_)
    refine lv_aload_n hx hb dX12_laws_17 rfl (lv_at hl 1 rfl) ?_
    refine lv_iconst (v := (-1)) hx hb dX12_laws_18 (by decide) ?_
    refine cGoL (wo := fun u => wM aM C u.1 mw u.2.1 u.2.2) (cRunV (As := [.int (-1)]) (rest := []) ⟨hx, hb, hml, hown, hw⟩ hK hN hP hD [0, 1, 2, 3, 4, 5, 6, 7, 8, 9, 10, 11, 12, 13, 14, 15, 16, 17, 18, 19, 20, 21, 22, 23, 24, 25, 26, 27, 28, 29, 30, 31, 32] rfl rfl (k_X12_byLaw l D C _ aM  (va_up ms 0 0) mw ma ml (-1) h) (cwV 1 hw (goodV mw_9_23 mw_9_25 mw_s177 mw_1_13 mw_9_26) rfl rfl rfl (by decide +kernel) ⟨Nat.le_of_ble_eq_true rfl, Nat.le_of_ble_eq_true rfl⟩) rfl rfl rfl hl.1 rfl (Nat.le_of_ble_eq_true rfl) dX12_laws_19 ⟨Nat.zero_le _, Nat.zero_le _⟩) hP hD hS hA [0, 1, 2, 3, 4, 5, 6, 7, 8, 9, 10, 11, 12, 13, 14, 15, 16, 17, 18, 19, 20, 21, 22, 23, 24, 25, 26, 27, 28, 29, 30, 31, 32] [] [0, 1, 2, 3, 4, 5, 6, 7, 8, 9, 10, 11, 12, 13, 14, 15, 16, 17, 18, 19, 20, 21, 22, 23, 24, 25, 26, 27, 28, 29, 30, 31, 32] rfl rfl rfl (by decide) rfl (fun _ => rfl) (fun r12 u H locs h hP hD hS => ?_)
    obtain ⟨ms_9, ma_10, ml_11⟩ := u
    have hP : va_P D vwCl (List.flatten (wM aM C ms_9 mw ma_10 ml_11)) H := hP
    have hD : va_D A (List.flatten (wM aM C ms_9 mw ma_10 ml_11)) := hD
    refine lv_lstore_n (lv' := [(2, .long r12), (1, .int (-1)), (0, .ref (aM 0))]) hx hb dX12_laws_22 rfl hl (by decide) rfl (fun ls hl => ?_)
    refine lv_iconst (v := 0) hx hb dX12_laws_23 (by decide) ?_
    refine lv_istore (lv' := [(4, .int 0), (2, .long r12), (1, .int (-1)), (0, .ref (aM 0))]) hx hb dX12_laws_24 hl (by decide) rfl (fun ls hl => ?_)
    obtain ⟨n, h⟩ := h
    exact N26  n (-1) r12 0 ms_9 ma_10 ml_11 _ _ _ h hP hD hS (lv_sub hl [3, 2, 1, 0] rfl)
  · have h := h.2 c8
    refine lv_bipush (v := (-2)) hx hb dX12_laws_12 (by decide) ?_
    rw [← hQ]
    exact cRetI (v := (-2)) ((va_up ms 0 0), ma, ml) hx hb hr hlocks hS hP hD h dX12_laws_14
abbrev vsX12_netOn : List Cond := Cond.code yX12_netOn cX12_netOn 9 (some .int) :: WS
abbrev rmX12_netOn : Room := { frames := 3, cells := 0, slots := 0, locals := 72 }
set_option maxHeartbeats 4000000 in
set_option maxRecDepth 100000 in
theorem k_X12_netOn (l : Launch) (D : va_G) (C : Nat → ClassId) (sz : Nat) (aM : Nat → Nat)  (ms : Nat → Int32) (mw : Nat → Int64) (ma : Nat → Nat → Int32) (ml : Nat → Nat → Int64) (p1 : Int32) (p2 : Int32) {post : Int32 → Prop} (h : P_X12_netOn ms ma p1 p2 post) : Met l yX12_netOn vsX12_netOn rmX12_netOn (cPre D C [.ref (aM 0), .int p1, .int p2] sz (wM aM C ms mw ma ml)) (cQi D (fun (r : Int32) (u : Unit) => post r ) (fun u => wM aM C ms mw ma ml) (va_A (List.flatten (wM aM C ms mw ma ml)) sz)) 0 0 (va_A (List.flatten (wM aM C ms mw ma ml)) sz) := by
  refine cStart (QA := fun A => cQi D (fun (r : Int32) (u : Unit) => post r ) (fun u => wM aM C ms mw ma ml) A) (cc := cX12_netOn) (maxL := 9) (ret := (some .int)) (by decide) (Nat.le_of_ble_eq_true rfl) ?_
  intro p e s m args below meth c A ls hx hb hr hml hown hw hlocks hname hK hN hA hP hD hS hl
  generalize hQ : MQ below _ args s 0 0 A = Q
  have hl : lv_has ls 9 [(0, .ref (aM 0)), (1, .int p1), (2, .int p2)] := hl
  obtain ⟨H, hH⟩ : ∃ H, H = s.heap := ⟨_, rfl⟩
  obtain ⟨locs, hlo⟩ : ∃ z : List Loc, z = [] := ⟨_, rfl⟩
  have hP : va_P D vwCl (List.flatten (wM aM C ms mw ma ml)) H := by rw [hH]; exact hP
  have hS : va_S A s.heap H locs := by rw [hH, hlo]; exact hS
  rw [show W p l e rmX12_netOn s m args below meth c s.heap [] 0 0 Q (F0 m 0 ls []) = W p l e rmX12_netOn s m args below meth c H locs 0 0 Q (F0 m 0 ls []) from by rw [hH, hlo]]
  have N20 : ∀ (x3_ : Int32) (n20 : Nat) (x4_ : Int32) (x5_ : Int32) (x6_ : Int32) (H : Heap) (locs : List Loc) (ls : Array Slot), P_X12_netOn_20 ms ma p1 p2 post  x3_ n20 x4_ x5_ x6_ → va_P D vwCl (List.flatten (wM aM C ms mw ma ml)) H → va_D A (List.flatten (wM aM C ms mw ma ml)) → va_S A s.heap H locs → lv_has ls 9 [(0, .ref (aM 0)), (1, .int p1), (2, .int p2), (3, .int x3_), (4, .int x4_), (5, .int x5_), (6, .int x6_)] → W p l e rmX12_netOn s m args below meth c H locs 0 0 Q (F0 m 20 ls []) := by
    intro x3_
    intro n20
    induction n20 with
    | zero => intro x4_ x5_ x6_ H locs ls h hP hD hS hl; exact False.elim h
    | succ n20 ih20 =>
      have N97 : ∀ (x4_ : Int32) (x5_ : Int32) (x6_ : Int32) (x7_ : Int32) (x8_ : Int32) (H : Heap) (locs : List Loc) (ls : Array Slot), P_X12_netOn_97 ms ma p1 p2 x3_ post (P_X12_netOn_20 ms ma p1 p2 post  x3_ n20) x4_ x5_ x6_ x7_ x8_ → va_P D vwCl (List.flatten (wM aM C ms mw ma ml)) H → va_D A (List.flatten (wM aM C ms mw ma ml)) → va_S A s.heap H locs → lv_has ls 9 [(0, .ref (aM 0)), (1, .int p1), (2, .int p2), (3, .int x3_), (4, .int x4_), (5, .int x5_), (6, .int x6_), (7, .int x7_), (8, .int x8_)] → W p l e rmX12_netOn s m args below meth c H locs 0 0 Q (F0 m 97 ls []) := by
        intro x4_ x5_ x6_ x7_ x8_ H locs ls h hP hD hS hl
        refine lv_iload_n hx hb dX12_netOn_97 rfl (lv_at hl 3 rfl) ?_
        refine lv_iconst (v := 1) hx hb dX12_netOn_98 (by decide) ?_
        refine lv_icmp_ne (tgt := 117) hx hb dX12_netOn_99 (by decide) (fun c1 => ?_) (fun c1 => ?_)
        · have h := h.1 c1
          refine lv_iinc (v := (x6_ + 1)) (lv' := [(6, .int (x6_ + 1)), (0, .ref (aM 0)), (1, .int p1), (2, .int p2), (3, .int x3_), (4, .int x4_), (5, .int x5_), (7, .int x7_), (8, .int x8_)]) hx hb dX12_netOn_117 hl (k := 6) rfl rfl (by decide) rfl (fun ls hl => ?_)
          refine lv_goto (tgt := 20) hx hb dX12_netOn_120 (by decide) ?_
          exact ih20 x4_ x5_ (x6_ + 1) _ _ _ h hP hD hS (lv_sub hl [1, 2, 3, 4, 5, 6, 0] rfl)
        · have h := h.2 c1
          refine lv_iload hx hb dX12_netOn_102 (lv_at hl 7 rfl) ?_
          refine lv_iload hx hb dX12_netOn_104 (lv_at hl 4 rfl) ?_
          refine lv_icmp_ge (tgt := 117) hx hb dX12_netOn_106 (by decide) (fun c2 => ?_) (fun c2 => ?_)
          · have h := h.1 c2
            refine lv_iinc (v := (x6_ + 1)) (lv' := [(6, .int (x6_ + 1)), (0, .ref (aM 0)), (1, .int p1), (2, .int p2), (3, .int x3_), (4, .int x4_), (5, .int x5_), (7, .int x7_), (8, .int x8_)]) hx hb dX12_netOn_117 hl (k := 6) rfl rfl (by decide) rfl (fun ls hl => ?_)
            refine lv_goto (tgt := 20) hx hb dX12_netOn_120 (by decide) ?_
            exact ih20 x4_ x5_ (x6_ + 1) _ _ _ h hP hD hS (lv_sub hl [1, 2, 3, 4, 5, 6, 0] rfl)
          · have h := h.2 c2
            refine lv_iload hx hb dX12_netOn_109 (lv_at hl 8 rfl) ?_
            refine lv_istore (lv' := [(5, .int x8_), (0, .ref (aM 0)), (1, .int p1), (2, .int p2), (3, .int x3_), (4, .int x4_), (6, .int x6_), (7, .int x7_), (8, .int x8_)]) hx hb dX12_netOn_111 hl (by decide) rfl (fun ls hl => ?_)
            refine lv_iload hx hb dX12_netOn_113 (lv_at hl 7 rfl) ?_
            refine lv_istore (lv' := [(4, .int x7_), (5, .int x8_), (0, .ref (aM 0)), (1, .int p1), (2, .int p2), (3, .int x3_), (6, .int x6_), (7, .int x7_), (8, .int x8_)]) hx hb dX12_netOn_115 hl (by decide) rfl (fun ls hl => ?_)
            refine lv_iinc (v := (x6_ + 1)) (lv' := [(6, .int (x6_ + 1)), (4, .int x7_), (5, .int x8_), (0, .ref (aM 0)), (1, .int p1), (2, .int p2), (3, .int x3_), (7, .int x7_), (8, .int x8_)]) hx hb dX12_netOn_117 hl (k := 6) rfl rfl (by decide) rfl (fun ls hl => ?_)
            refine lv_goto (tgt := 20) hx hb dX12_netOn_120 (by decide) ?_
            exact ih20 x7_ x8_ (x6_ + 1) _ _ _ h hP hD hS (lv_sub hl [3, 4, 5, 6, 1, 2, 0] rfl)
      have N81 : ∀ (x4_ : Int32) (x5_ : Int32) (x6_ : Int32) (x7_ : Int32) (x8_ : Int32) (H : Heap) (locs : List Loc) (ls : Array Slot), P_X12_netOn_81 ms ma p1 p2 x3_ post (P_X12_netOn_20 ms ma p1 p2 post  x3_ n20) x4_ x5_ x6_ x7_ x8_ → va_P D vwCl (List.flatten (wM aM C ms mw ma ml)) H → va_D A (List.flatten (wM aM C ms mw ma ml)) → va_S A s.heap H locs → lv_has ls 9 [(0, .ref (aM 0)), (1, .int p1), (2, .int p2), (3, .int x3_), (4, .int x4_), (5, .int x5_), (6, .int x6_), (7, .int x7_), (8, .int x8_)] → W p l e rmX12_netOn s m args below meth c H locs 0 0 Q (F0 m 81 ls []) := by
        intro x4_ x5_ x6_ x7_ x8_ H locs ls h hP hD hS hl
        refine lv_iload hx hb dX12_netOn_81 (lv_at hl 5 rfl) ?_
        refine lv_if_eq (tgt := 109) hx hb dX12_netOn_83 (by decide) (fun c3 => ?_) (fun c3 => ?_)
        · have h := h.1 c3
          refine lv_iload hx hb dX12_netOn_109 (lv_at hl 8 rfl) ?_
          refine lv_istore (lv' := [(5, .int x8_), (0, .ref (aM 0)), (1, .int p1), (2, .int p2), (3, .int x3_), (4, .int x4_), (6, .int x6_), (7, .int x7_), (8, .int x8_)]) hx hb dX12_netOn_111 hl (by decide) rfl (fun ls hl => ?_)
          refine lv_iload hx hb dX12_netOn_113 (lv_at hl 7 rfl) ?_
          refine lv_istore (lv' := [(4, .int x7_), (5, .int x8_), (0, .ref (aM 0)), (1, .int p1), (2, .int p2), (3, .int x3_), (6, .int x6_), (7, .int x7_), (8, .int x8_)]) hx hb dX12_netOn_115 hl (by decide) rfl (fun ls hl => ?_)
          refine lv_iinc (v := (x6_ + 1)) (lv' := [(6, .int (x6_ + 1)), (4, .int x7_), (5, .int x8_), (0, .ref (aM 0)), (1, .int p1), (2, .int p2), (3, .int x3_), (7, .int x7_), (8, .int x8_)]) hx hb dX12_netOn_117 hl (k := 6) rfl rfl (by decide) rfl (fun ls hl => ?_)
          refine lv_goto (tgt := 20) hx hb dX12_netOn_120 (by decide) ?_
          exact ih20 x7_ x8_ (x6_ + 1) _ _ _ h hP hD hS (lv_sub hl [3, 4, 5, 6, 1, 2, 0] rfl)
        · have h := h.2 c3
          refine lv_iload_n hx hb dX12_netOn_86 rfl (lv_at hl 3 rfl) ?_
          refine lv_if_ne (tgt := 97) hx hb dX12_netOn_87 (by decide) (fun c4 => ?_) (fun c4 => ?_)
          · have h := h.1 c4
            exact N97 x4_ x5_ x6_ x7_ x8_ _ _ _ h hP hD hS (lv_sub hl [0, 1, 2, 3, 4, 5, 6, 7, 8] rfl)
          · have h := h.2 c4
            refine lv_iload hx hb dX12_netOn_90 (lv_at hl 8 rfl) ?_
            refine lv_iload hx hb dX12_netOn_92 (lv_at hl 5 rfl) ?_
            refine lv_icmp_gt (tgt := 109) hx hb dX12_netOn_94 (by decide) (fun c5 => ?_) (fun c5 => ?_)
            · have h := h.1 c5
              refine lv_iload hx hb dX12_netOn_109 (lv_at hl 8 rfl) ?_
              refine lv_istore (lv' := [(5, .int x8_), (0, .ref (aM 0)), (1, .int p1), (2, .int p2), (3, .int x3_), (4, .int x4_), (6, .int x6_), (7, .int x7_), (8, .int x8_)]) hx hb dX12_netOn_111 hl (by decide) rfl (fun ls hl => ?_)
              refine lv_iload hx hb dX12_netOn_113 (lv_at hl 7 rfl) ?_
              refine lv_istore (lv' := [(4, .int x7_), (5, .int x8_), (0, .ref (aM 0)), (1, .int p1), (2, .int p2), (3, .int x3_), (6, .int x6_), (7, .int x7_), (8, .int x8_)]) hx hb dX12_netOn_115 hl (by decide) rfl (fun ls hl => ?_)
              refine lv_iinc (v := (x6_ + 1)) (lv' := [(6, .int (x6_ + 1)), (4, .int x7_), (5, .int x8_), (0, .ref (aM 0)), (1, .int p1), (2, .int p2), (3, .int x3_), (7, .int x7_), (8, .int x8_)]) hx hb dX12_netOn_117 hl (k := 6) rfl rfl (by decide) rfl (fun ls hl => ?_)
              refine lv_goto (tgt := 20) hx hb dX12_netOn_120 (by decide) ?_
              exact ih20 x7_ x8_ (x6_ + 1) _ _ _ h hP hD hS (lv_sub hl [3, 4, 5, 6, 1, 2, 0] rfl)
            · have h := h.2 c5
              exact N97 x4_ x5_ x6_ x7_ x8_ _ _ _ h hP hD hS (lv_sub hl [0, 1, 2, 3, 4, 5, 6, 7, 8] rfl)
      intro x4_ x5_ x6_ H locs ls h hP hD hS hl
      refine lv_iload hx hb dX12_netOn_20 (lv_at hl 6 rfl) ?_
      refine lv_aload_n hx hb dX12_netOn_22 rfl (lv_at hl 0 rfl) ?_
      refine va_get (D := D) (ci := 12) (v := .ref (aM 13)) (C := RX12) (T := TX12) (N := 51) hx hb hw inW_X12 hown hK hP 0 rfl rfl 23 (by decide) (hw _ mw_6_66) (fun _ h9 => h9) rfl dX12_netOn_23 ?_
      refine lv_iload_n hx hb dX12_netOn_26 rfl (lv_at hl 2 rfl) ?_
      refine cIald hx hb hK hP 13 0 rfl rfl p2.toNatClampNeg rfl h.1 dX12_netOn_27 ?_
      have h := h.2
      refine lv_icmp_ge (tgt := 123) hx hb dX12_netOn_28 (by decide) (fun c6 => ?_) (fun c6 => ?_)
      · have h := h.1 c6
        refine lv_iload hx hb dX12_netOn_123 (lv_at hl 5 rfl) ?_
        rw [← hQ]
        exact cRetI (v := x5_) () hx hb hr hlocks hS hP hD h dX12_netOn_125
      · have h := h.2 c6
        refine lv_aload_n hx hb dX12_netOn_31 rfl (lv_at hl 0 rfl) ?_
        refine lv_iload_n hx hb dX12_netOn_32 rfl (lv_at hl 1 rfl) ?_
        refine lv_iload_n hx hb dX12_netOn_33 rfl (lv_at hl 2 rfl) ?_
        refine lv_iload hx hb dX12_netOn_34 (lv_at hl 6 rfl) ?_
        refine cGoI (wo := fun u => wM aM C ms mw ma ml) (cRunV (As := [.int p1, .int p2, .int x6_]) (rest := []) ⟨hx, hb, hml, hown, hw⟩ hK hN hP hD [0, 1, 2, 3, 4, 5, 6, 7, 8, 9, 10, 11, 12, 13, 14, 15, 16, 17, 18, 19, 20, 21, 22, 23, 24, 25, 26, 27, 28, 29, 30, 31, 32] rfl rfl (k_X12_troubleOf l D C _ aM  ms mw ma ml p1 p2 x6_ h) (cwV 3 hw (goodV mw_7_159 mw_7_161 mw_s135 mw_1_13 mw_7_162) rfl rfl rfl (by decide +kernel) ⟨Nat.le_of_ble_eq_true rfl, Nat.le_of_ble_eq_true rfl⟩) rfl rfl rfl hl.1 rfl (Nat.le_of_ble_eq_true rfl) dX12_netOn_36 ⟨Nat.zero_le _, Nat.zero_le _⟩) hP hD hS hA [0, 1, 2, 3, 4, 5, 6, 7, 8, 9, 10, 11, 12, 13, 14, 15, 16, 17, 18, 19, 20, 21, 22, 23, 24, 25, 26, 27, 28, 29, 30, 31, 32] [] [0, 1, 2, 3, 4, 5, 6, 7, 8, 9, 10, 11, 12, 13, 14, 15, 16, 17, 18, 19, 20, 21, 22, 23, 24, 25, 26, 27, 28, 29, 30, 31, 32] rfl rfl rfl (by decide) rfl (fun _ => rfl) (fun r7 u H locs h hP hD hS => ?_)
        have hP : va_P D vwCl (List.flatten (wM aM C ms mw ma ml)) H := hP
        have hD : va_D A (List.flatten (wM aM C ms mw ma ml)) := hD
        refine lv_istore (lv' := [(7, .int r7), (0, .ref (aM 0)), (1, .int p1), (2, .int p2), (3, .int x3_), (4, .int x4_), (5, .int x5_), (6, .int x6_)]) hx hb dX12_netOn_39 hl (by decide) rfl (fun ls hl => ?_)
        refine lv_aload_n hx hb dX12_netOn_41 rfl (lv_at hl 1 rfl) ?_
        refine lv_iload_n hx hb dX12_netOn_42 rfl (lv_at hl 3 rfl) ?_
        refine lv_iload hx hb dX12_netOn_43 (lv_at hl 7 rfl) ?_
        refine cGoI (wo := fun u => wM aM C ms mw ma ml) (cRunV (As := [.int p2, .int x6_]) (rest := []) ⟨hx, hb, hml, hown, hw⟩ hK hN hP hD [0, 1, 2, 3, 4, 5, 6, 7, 8, 9, 10, 11, 12, 13, 14, 15, 16, 17, 18, 19, 20, 21, 22, 23, 24, 25, 26, 27, 28, 29, 30, 31, 32] rfl rfl (k_X12_gainOf l D C _ aM  ms mw ma ml p2 x6_ h) (cwV 2 hw (goodV mw_7_168 mw_7_170 mw_s136 mw_1_13 mw_7_171) rfl rfl rfl (by decide +kernel) ⟨Nat.le_of_ble_eq_true rfl, Nat.le_of_ble_eq_true rfl⟩) rfl rfl rfl hl.1 rfl (Nat.le_of_ble_eq_true rfl) dX12_netOn_45 ⟨Nat.zero_le _, Nat.zero_le _⟩) hP hD hS hA [0, 1, 2, 3, 4, 5, 6, 7, 8, 9, 10, 11, 12, 13, 14, 15, 16, 17, 18, 19, 20, 21, 22, 23, 24, 25, 26, 27, 28, 29, 30, 31, 32] [] [0, 1, 2, 3, 4, 5, 6, 7, 8, 9, 10, 11, 12, 13, 14, 15, 16, 17, 18, 19, 20, 21, 22, 23, 24, 25, 26, 27, 28, 29, 30, 31, 32] rfl rfl rfl (by decide) rfl (fun _ => rfl) (fun r8 u H locs h hP hD hS => ?_)
        have hP : va_P D vwCl (List.flatten (wM aM C ms mw ma ml)) H := hP
        have hD : va_D A (List.flatten (wM aM C ms mw ma ml)) := hD
        refine lv_iload hx hb dX12_netOn_48 (lv_at hl 0 rfl) ?_
        refine lv_isub hx hb dX12_netOn_50 ?_
        refine lv_topi (fun x9 ex9 => ?_)
        have h := h x9 ex9
        refine lv_istore (lv' := [(8, .int x9), (7, .int r7), (0, .ref (aM 0)), (1, .int p1), (2, .int p2), (3, .int x3_), (4, .int x4_), (5, .int x5_), (6, .int x6_)]) hx hb dX12_netOn_51 hl (by decide) rfl (fun ls hl => ?_)
        refine lv_iload hx hb dX12_netOn_53 (lv_at hl 0 rfl) ?_
        refine lv_if_le (tgt := 117) hx hb dX12_netOn_55 (by decide) (fun c10 => ?_) (fun c10 => ?_)
        · have h := h.1 c10
          refine lv_iinc (v := (x6_ + 1)) (lv' := [(6, .int (x6_ + 1)), (8, .int x9), (7, .int r7), (0, .ref (aM 0)), (1, .int p1), (2, .int p2), (3, .int x3_), (4, .int x4_), (5, .int x5_)]) hx hb dX12_netOn_117 hl (k := 8) rfl rfl (by decide) rfl (fun ls hl => ?_)
          refine lv_goto (tgt := 20) hx hb dX12_netOn_120 (by decide) ?_
          exact ih20 x4_ x5_ (x6_ + 1) _ _ _ h hP hD hS (lv_sub hl [3, 4, 5, 6, 7, 8, 0] rfl)
        · have h := h.2 c10
          refine lv_iload_n hx hb dX12_netOn_58 rfl (lv_at hl 5 rfl) ?_
          refine lv_iconst (v := 2) hx hb dX12_netOn_59 (by decide) ?_
          refine lv_icmp_ne (tgt := 81) hx hb dX12_netOn_60 (by decide) (fun c11 => ?_) (fun c11 => ?_)
          · have h := h.1 c11
            exact N81 x4_ x5_ x6_ r7 x9 _ _ _ h hP hD hS (lv_sub hl [2, 3, 4, 5, 6, 7, 8, 1, 0] rfl)
          · have h := h.2 c11
            refine lv_iload hx hb dX12_netOn_63 (lv_at hl 8 rfl) ?_
            refine lv_aload_n hx hb dX12_netOn_65 rfl (lv_at hl 2 rfl) ?_
            refine va_get (D := D) (ci := 12) (v := .ref (aM 16)) (C := RX12) (T := TX12) (N := 51) hx hb hw inW_X12 hown hK hP 0 rfl rfl 26 (by decide) (hw _ mw_6_69) (fun _ h9 => h9) rfl dX12_netOn_66 ?_
            refine lv_iconst (v := 5) hx hb dX12_netOn_69 (by decide) ?_
            refine lv_iload_n hx hb dX12_netOn_70 rfl (lv_at hl 3 rfl) ?_
            refine lv_imul hx hb dX12_netOn_71 ?_
            refine lv_iconst (v := 4) hx hb dX12_netOn_72 (by decide) ?_
            refine lv_iadd hx hb dX12_netOn_73 ?_
            refine cIald hx hb hK hP 16 0 rfl rfl (((5 * p1) + 4).toNatClampNeg) rfl h.1 dX12_netOn_74 ?_
            have h := h.2
            refine lv_icmp_eq (tgt := 81) hx hb dX12_netOn_75 (by decide) (fun c12 => ?_) (fun c12 => ?_)
            · have h := h.1 c12
              exact N81 x4_ x5_ x6_ r7 x9 _ _ _ h hP hD hS (lv_sub hl [2, 3, 4, 5, 6, 7, 8, 1, 0] rfl)
            · have h := h.2 c12
              refine lv_goto (tgt := 117) hx hb dX12_netOn_78 (by decide) ?_
              refine lv_iinc (v := (x6_ + 1)) (lv' := [(6, .int (x6_ + 1)), (8, .int x9), (7, .int r7), (0, .ref (aM 0)), (1, .int p1), (2, .int p2), (3, .int x3_), (4, .int x4_), (5, .int x5_)]) hx hb dX12_netOn_117 hl (k := 8) rfl rfl (by decide) rfl (fun ls hl => ?_)
              refine lv_goto (tgt := 20) hx hb dX12_netOn_120 (by decide) ?_
              exact ih20 x4_ x5_ (x6_ + 1) _ _ _ h hP hD hS (lv_sub hl [3, 4, 5, 6, 7, 8, 0] rfl)
  refine lv_aload_n hx hb dX12_netOn_0 rfl (lv_at hl 0 rfl) ?_
  refine va_get (D := D) (ci := 12) (v := .ref (aM 16)) (C := RX12) (T := TX12) (N := 51) hx hb hw inW_X12 hown hK hP 0 rfl rfl 26 (by decide) (hw _ mw_6_69) (fun _ h9 => h9) rfl dX12_netOn_1 ?_
  refine lv_iconst (v := 5) hx hb dX12_netOn_4 (by decide) ?_
  refine lv_iload_n hx hb dX12_netOn_5 rfl (lv_at hl 1 rfl) ?_
  refine lv_imul hx hb dX12_netOn_6 ?_
  refine lv_iconst (v := 3) hx hb dX12_netOn_7 (by decide) ?_
  refine lv_iadd hx hb dX12_netOn_8 ?_
  refine cIald hx hb hK hP 16 0 rfl rfl (((5 * p1) + 3).toNatClampNeg) rfl h.1 dX12_netOn_9 ?_
  have h := h.2
  refine lv_topi (fun x13 ex13 => ?_)
  have h := h x13 ex13
  refine lv_istore_n (lv' := [(3, .int x13), (0, .ref (aM 0)), (1, .int p1), (2, .int p2)]) hx hb dX12_netOn_10 rfl hl (by decide) rfl (fun ls hl => ?_)
  refine lv_iconst (v := 0) hx hb dX12_netOn_11 (by decide) ?_
  refine lv_istore (lv' := [(4, .int 0), (3, .int x13), (0, .ref (aM 0)), (1, .int p1), (2, .int p2)]) hx hb dX12_netOn_12 hl (by decide) rfl (fun ls hl => ?_)
  refine lv_iconst (v := 0) hx hb dX12_netOn_14 (by decide) ?_
  refine lv_istore (lv' := [(5, .int 0), (4, .int 0), (3, .int x13), (0, .ref (aM 0)), (1, .int p1), (2, .int p2)]) hx hb dX12_netOn_15 hl (by decide) rfl (fun ls hl => ?_)
  refine lv_iconst (v := 0) hx hb dX12_netOn_17 (by decide) ?_
  refine lv_istore (lv' := [(6, .int 0), (5, .int 0), (4, .int 0), (3, .int x13), (0, .ref (aM 0)), (1, .int p1), (2, .int p2)]) hx hb dX12_netOn_18 hl (by decide) rfl (fun ls hl => ?_)
  obtain ⟨n, h⟩ := h
  exact N20 x13 n 0 0 0 _ _ _ h hP hD hS (lv_sub hl [4, 5, 6, 3, 2, 1, 0] rfl)
abbrev vsX12_rather : List Cond := Cond.code yX12_rather cX12_rather 5 (some .int) :: WS
abbrev rmX12_rather : Room := { frames := 4, cells := 0, slots := 0, locals := 100 }
set_option maxHeartbeats 4000000 in
set_option maxRecDepth 100000 in
theorem k_X12_rather (l : Launch) (D : va_G) (C : Nat → ClassId) (sz : Nat) (aM : Nat → Nat)  (ms : Nat → Int32) (mw : Nat → Int64) (ma : Nat → Nat → Int32) (ml : Nat → Nat → Int64) (p1 : Int32) (p2 : Int32) {post : Int32 → (Nat → Int32) → Prop} (h : P_X12_rather ms ma p1 p2 post) : Met l yX12_rather vsX12_rather rmX12_rather (cPre D C [.ref (aM 0), .int p1, .int p2] sz (wM aM C ms mw ma ml)) (cQi D (fun (r : Int32) (u : (Nat → Int32)) => post r u) (fun u => wM aM C u mw ma ml) (va_A (List.flatten (wM aM C ms mw ma ml)) sz)) 0 0 (va_A (List.flatten (wM aM C ms mw ma ml)) sz) := by
  refine cStart (QA := fun A => cQi D (fun (r : Int32) (u : (Nat → Int32)) => post r u) (fun u => wM aM C u mw ma ml) A) (cc := cX12_rather) (maxL := 5) (ret := (some .int)) (by decide) (Nat.le_of_ble_eq_true rfl) ?_
  intro p e s m args below meth c A ls hx hb hr hml hown hw hlocks hname hK hN hA hP hD hS hl
  generalize hQ : MQ below _ args s 0 0 A = Q
  have hl : lv_has ls 5 [(0, .ref (aM 0)), (1, .int p1), (2, .int p2)] := hl
  obtain ⟨H, hH⟩ : ∃ H, H = s.heap := ⟨_, rfl⟩
  obtain ⟨locs, hlo⟩ : ∃ z : List Loc, z = [] := ⟨_, rfl⟩
  have hP : va_P D vwCl (List.flatten (wM aM C ms mw ma ml)) H := by rw [hH]; exact hP
  have hS : va_S A s.heap H locs := by rw [hH, hlo]; exact hS
  rw [show W p l e rmX12_rather s m args below meth c s.heap [] 0 0 Q (F0 m 0 ls []) = W p l e rmX12_rather s m args below meth c H locs 0 0 Q (F0 m 0 ls []) from by rw [hH, hlo]]
  have N67 : ∀ (x3_ : Int32) (x4_ : Int32) (ms : Nat → Int32) (H : Heap) (locs : List Loc) (ls : Array Slot), P_X12_rather_67 ma p1 p2 post  x3_ x4_ ms → va_P D vwCl (List.flatten (wM aM C ms mw ma ml)) H → va_D A (List.flatten (wM aM C ms mw ma ml)) → va_S A s.heap H locs → lv_has ls 5 [(3, .int x3_), (4, .int x4_)] → W p l e rmX12_rather s m args below meth c H locs 0 0 Q (F0 m 67 ls []) := by
    intro x3_ x4_ ms H locs ls h hP hD hS hl
    refine lv_iload hx hb dX12_rather_67 (lv_at hl 1 rfl) ?_
    refine lv_iload_n hx hb dX12_rather_69 rfl (lv_at hl 0 rfl) ?_
    refine lv_icmp_le (tgt := 77) hx hb dX12_rather_70 (by decide) (fun c1 => ?_) (fun c1 => ?_)
    · have h := h.1 c1
      refine lv_iconst (v := 0) hx hb dX12_rather_77 (by decide) ?_
      rw [← hQ]
      exact cRetI (v := 0) (ms) hx hb hr hlocks hS hP hD h dX12_rather_78
    · have h := h.2 c1
      refine lv_iconst (v := 1) hx hb dX12_rather_73 (by decide) ?_
      refine lv_goto (tgt := 78) hx hb dX12_rather_74 (by decide) ?_
      rw [← hQ]
      exact cRetI (v := 1) (ms) hx hb hr hlocks hS hP hD h dX12_rather_78
  refine lv_aload_n hx hb dX12_rather_0 rfl (lv_at hl 0 rfl) ?_
  refine lv_iconst (v := 0) hx hb dX12_rather_1 (by decide) ?_
  refine va_put (D := D) (ci := 12) (v := .int 0) (ty := .int) (C := RX12) (T := TX12) (N := 51) hx hb hw inW_X12 tyX12 tyX12_ok nmX12 hown hK hP hD hS 0 rfl rfl 0 (by decide) (hw _ mw_6_43) (fun _ h9 => h9) rfl (by decide +kernel) rfl rfl (Nat.le_of_ble_eq_true rfl) dX12_rather_2 (fun H locs hP hD hS => ?_)
  refine lv_aload_n hx hb dX12_rather_5 rfl (lv_at hl 0 rfl) ?_
  refine lv_iload_n hx hb dX12_rather_6 rfl (lv_at hl 1 rfl) ?_
  have hP : va_P D vwCl (List.flatten (wM aM C (va_up ms 0 0) mw ma ml)) H := hP
  have hD : va_D A (List.flatten (wM aM C (va_up ms 0 0) mw ma ml)) := hD
  refine cGoI (wo := fun u => wM aM C (va_up ms 0 0) mw ma ml) (cRunV (As := [.int p1]) (rest := []) ⟨hx, hb, hml, hown, hw⟩ hK hN hP hD [0, 1, 2, 3, 4, 5, 6, 7, 8, 9, 10, 11, 12, 13, 14, 15, 16, 17, 18, 19, 20, 21, 22, 23, 24, 25, 26, 27, 28, 29, 30, 31, 32] rfl rfl (k_X12_isThief l D C _ aM  (va_up ms 0 0) mw ma ml p1 h) (cwV 1 hw (goodV mw_7_155 mw_7_157 mw_s134 mw_1_13 mw_7_158) rfl rfl rfl (by decide +kernel) ⟨Nat.le_of_ble_eq_true rfl, Nat.le_of_ble_eq_true rfl⟩) rfl rfl rfl hl.1 rfl (Nat.le_of_ble_eq_true rfl) dX12_rather_7 ⟨Nat.zero_le _, Nat.zero_le _⟩) hP hD hS hA [0, 1, 2, 3, 4, 5, 6, 7, 8, 9, 10, 11, 12, 13, 14, 15, 16, 17, 18, 19, 20, 21, 22, 23, 24, 25, 26, 27, 28, 29, 30, 31, 32] [] [0, 1, 2, 3, 4, 5, 6, 7, 8, 9, 10, 11, 12, 13, 14, 15, 16, 17, 18, 19, 20, 21, 22, 23, 24, 25, 26, 27, 28, 29, 30, 31, 32] rfl rfl rfl (by decide) rfl (fun _ => rfl) (fun r2 u H locs h hP hD hS => ?_)
  have hP : va_P D vwCl (List.flatten (wM aM C (va_up ms 0 0) mw ma ml)) H := hP
  have hD : va_D A (List.flatten (wM aM C (va_up ms 0 0) mw ma ml)) := hD
  refine lv_if_eq (tgt := 34) hx hb dX12_rather_10 (by decide) (fun c3 => ?_) (fun c3 => ?_)
  · have h := h.1 c3
    refine lv_bipush (v := (-2)) hx hb dX12_rather_34 (by decide) ?_
    rw [← hQ]
    exact cRetI (v := (-2)) ((va_up ms 0 0)) hx hb hr hlocks hS hP hD h dX12_rather_36
  · have h := h.2 c3
    refine lv_iload_n hx hb dX12_rather_13 rfl (lv_at hl 2 rfl) ?_
    refine lv_i2l hx hb dX12_rather_14 rfl ?_
    refine lv_lconst (v := 0) hx hb dX12_rather_15 (by decide) ?_
    refine lv_ldc2 (v := 2) hx hb hown (hw _ mw_8_1) dX12_rather_16 ?_
    refine cGoI (wo := fun u => wM aM C (va_up ms 0 0) mw ma ml) (cRunS (As := [.long p2.toInt64, .long 0, .long 2]) (rest := []) ⟨hx, hb, hml, hown, hw⟩ hK hN hP hD [] rfl rfl (k_X12_in l D C _    p2.toInt64 0 2 h) (va_cwS 3 hw (goodS mw_6_205 mw_6_206 mw_1_13 mw_6_207) rfl rfl rfl (by decide +kernel) ⟨Nat.le_of_ble_eq_true rfl, Nat.le_of_ble_eq_true rfl⟩) rfl hl.1 rfl (Nat.le_of_ble_eq_true rfl) dX12_rather_19 ⟨Nat.zero_le _, Nat.zero_le _⟩) hP hD hS hA [] [0, 1, 2, 3, 4, 5, 6, 7, 8, 9, 10, 11, 12, 13, 14, 15, 16, 17, 18, 19, 20, 21, 22, 23, 24, 25, 26, 27, 28, 29, 30, 31, 32] [0, 1, 2, 3, 4, 5, 6, 7, 8, 9, 10, 11, 12, 13, 14, 15, 16, 17, 18, 19, 20, 21, 22, 23, 24, 25, 26, 27, 28, 29, 30, 31, 32] rfl rfl rfl (by decide) rfl (fun _ => rfl) (fun r4 u H locs h hP hD hS => ?_)
    have hP : va_P D vwCl (List.flatten (wM aM C (va_up ms 0 0) mw ma ml)) H := hP
    have hD : va_D A (List.flatten (wM aM C (va_up ms 0 0) mw ma ml)) := hD
    refine lv_if_eq (tgt := 34) hx hb dX12_rather_22 (by decide) (fun c5 => ?_) (fun c5 => ?_)
    · have h := h.1 c5
      refine lv_bipush (v := (-2)) hx hb dX12_rather_34 (by decide) ?_
      rw [← hQ]
      exact cRetI (v := (-2)) ((va_up ms 0 0)) hx hb hr hlocks hS hP hD h dX12_rather_36
    · have h := h.2 c5
      refine lv_aload_n hx hb dX12_rather_25 rfl (lv_at hl 0 rfl) ?_
      refine va_get (D := D) (ci := 12) (v := .ref (aM 20)) (C := RX12) (T := TX12) (N := 51) hx hb hw inW_X12 hown hK hP 0 rfl rfl 30 (by decide) (hw _ mw_6_73) (fun _ h9 => h9) rfl dX12_rather_26 ?_
      refine lv_iload_n hx hb dX12_rather_29 rfl (lv_at hl 2 rfl) ?_
      refine cZald hx hb hK hP 20 3 rfl rfl p2.toNatClampNeg rfl h.1 dX12_rather_30 ?_
      have h := h.2
      refine lv_if_ne (tgt := 37) hx hb dX12_rather_31 (by decide) (fun c6 => ?_) (fun c6 => ?_)
      · have h := h.1 c6
        refine lv_aload_n hx hb dX12_rather_37 rfl (lv_at hl 0 rfl) ?_
        refine lv_iload_n hx hb dX12_rather_38 rfl (lv_at hl 1 rfl) ?_
        refine lv_iconst (v := 0) hx hb dX12_rather_39 (by decide) ?_
        refine cGoI (wo := fun u => wM aM C (va_up ms 0 0) mw ma ml) (cRunV (As := [.int p1, .int 0]) (rest := []) ⟨hx, hb, hml, hown, hw⟩ hK hN hP hD [0, 1, 2, 3, 4, 5, 6, 7, 8, 9, 10, 11, 12, 13, 14, 15, 16, 17, 18, 19, 20, 21, 22, 23, 24, 25, 26, 27, 28, 29, 30, 31, 32] rfl rfl (k_X12_netOn l D C _ aM  (va_up ms 0 0) mw ma ml p1 0 h) (cwV 2 hw (goodV mw_9_35 mw_9_37 mw_s178 mw_1_13 mw_9_38) rfl rfl rfl (by decide +kernel) ⟨Nat.le_of_ble_eq_true rfl, Nat.le_of_ble_eq_true rfl⟩) rfl rfl rfl hl.1 rfl (Nat.le_of_ble_eq_true rfl) dX12_rather_40 ⟨Nat.zero_le _, Nat.zero_le _⟩) hP hD hS hA [0, 1, 2, 3, 4, 5, 6, 7, 8, 9, 10, 11, 12, 13, 14, 15, 16, 17, 18, 19, 20, 21, 22, 23, 24, 25, 26, 27, 28, 29, 30, 31, 32] [] [0, 1, 2, 3, 4, 5, 6, 7, 8, 9, 10, 11, 12, 13, 14, 15, 16, 17, 18, 19, 20, 21, 22, 23, 24, 25, 26, 27, 28, 29, 30, 31, 32] rfl rfl rfl (by decide) rfl (fun _ => rfl) (fun r7 u H locs h hP hD hS => ?_)
        have hP : va_P D vwCl (List.flatten (wM aM C (va_up ms 0 0) mw ma ml)) H := hP
        have hD : va_D A (List.flatten (wM aM C (va_up ms 0 0) mw ma ml)) := hD
        refine lv_istore_n (lv' := [(3, .int r7), (0, .ref (aM 0)), (1, .int p1), (2, .int p2)]) hx hb dX12_rather_43 rfl hl (by decide) rfl (fun ls hl => ?_)
        refine lv_aload_n hx hb dX12_rather_44 rfl (lv_at hl 1 rfl) ?_
        refine lv_iload_n hx hb dX12_rather_45 rfl (lv_at hl 2 rfl) ?_
        refine lv_iconst (v := 1) hx hb dX12_rather_46 (by decide) ?_
        refine lv_iload_n hx hb dX12_rather_47 rfl (lv_at hl 3 rfl) ?_
        refine lv_iadd hx hb dX12_rather_48 ?_
        refine cGoI (wo := fun u => wM aM C (va_up ms 0 0) mw ma ml) (cRunV (As := [.int p1, .int (1 + p2)]) (rest := []) ⟨hx, hb, hml, hown, hw⟩ hK hN hP hD [0, 1, 2, 3, 4, 5, 6, 7, 8, 9, 10, 11, 12, 13, 14, 15, 16, 17, 18, 19, 20, 21, 22, 23, 24, 25, 26, 27, 28, 29, 30, 31, 32] rfl rfl (k_X12_netOn l D C _ aM  (va_up ms 0 0) mw ma ml p1 (1 + p2) h) (cwV 2 hw (goodV mw_9_35 mw_9_37 mw_s178 mw_1_13 mw_9_38) rfl rfl rfl (by decide +kernel) ⟨Nat.le_of_ble_eq_true rfl, Nat.le_of_ble_eq_true rfl⟩) rfl rfl rfl hl.1 rfl (Nat.le_of_ble_eq_true rfl) dX12_rather_49 ⟨Nat.zero_le _, Nat.zero_le _⟩) hP hD hS hA [0, 1, 2, 3, 4, 5, 6, 7, 8, 9, 10, 11, 12, 13, 14, 15, 16, 17, 18, 19, 20, 21, 22, 23, 24, 25, 26, 27, 28, 29, 30, 31, 32] [] [0, 1, 2, 3, 4, 5, 6, 7, 8, 9, 10, 11, 12, 13, 14, 15, 16, 17, 18, 19, 20, 21, 22, 23, 24, 25, 26, 27, 28, 29, 30, 31, 32] rfl rfl rfl (by decide) rfl (fun _ => rfl) (fun r8 u H locs h hP hD hS => ?_)
        have hP : va_P D vwCl (List.flatten (wM aM C (va_up ms 0 0) mw ma ml)) H := hP
        have hD : va_D A (List.flatten (wM aM C (va_up ms 0 0) mw ma ml)) := hD
        refine lv_istore (lv' := [(4, .int r8), (3, .int r7), (0, .ref (aM 0)), (1, .int p1), (2, .int p2)]) hx hb dX12_rather_52 hl (by decide) rfl (fun ls hl => ?_)
        refine lv_iload_n hx hb dX12_rather_54 rfl (lv_at hl 1 rfl) ?_
        refine lv_if_ne (tgt := 67) hx hb dX12_rather_55 (by decide) (fun c9 => ?_) (fun c9 => ?_)
        · have h := h.1 c9
          exact N67 r7 r8 (va_up ms 0 0) _ _ _ h hP hD hS (lv_sub hl [1, 0] rfl)
        · have h := h.2 c9
          refine lv_iload hx hb dX12_rather_58 (lv_at hl 0 rfl) ?_
          refine lv_if_ne (tgt := 67) hx hb dX12_rather_60 (by decide) (fun c10 => ?_) (fun c10 => ?_)
          · have h := h.1 c10
            exact N67 r7 r8 (va_up ms 0 0) _ _ _ h hP hD hS (lv_sub hl [1, 0] rfl)
          · have h := h.2 c10
            refine lv_iconst (v := (-1)) hx hb dX12_rather_63 (by decide) ?_
            refine lv_goto (tgt := 78) hx hb dX12_rather_64 (by decide) ?_
            rw [← hQ]
            exact cRetI (v := (-1)) ((va_up ms 0 0)) hx hb hr hlocks hS hP hD h dX12_rather_78
      · have h := h.2 c6
        refine lv_bipush (v := (-2)) hx hb dX12_rather_34 (by decide) ?_
        rw [← hQ]
        exact cRetI (v := (-2)) ((va_up ms 0 0)) hx hb hr hlocks hS hP hD h dX12_rather_36
abbrev vsX12_draw : List Cond := Cond.code yX12_draw cX12_draw 1 (some .int) :: WS
abbrev rmX12_draw : Room := { frames := 0, cells := 0, slots := 0, locals := 0 }
set_option maxHeartbeats 4000000 in
set_option maxRecDepth 100000 in
theorem k_X12_draw (l : Launch) (D : va_G) (C : Nat → ClassId) (sz : Nat) (aM : Nat → Nat)  (ms : Nat → Int32) (mw : Nat → Int64) (ma : Nat → Nat → Int32) (ml : Nat → Nat → Int64)  {post : Int32 → (Nat → Int64) → Prop} (h : P_X12_draw mw post) : Met l yX12_draw vsX12_draw rmX12_draw (cPre D C [.ref (aM 0)] sz (wM aM C ms mw ma ml)) (cQi D (fun (r : Int32) (u : (Nat → Int64)) => post r u) (fun u => wM aM C ms u ma ml) (va_A (List.flatten (wM aM C ms mw ma ml)) sz)) 0 0 (va_A (List.flatten (wM aM C ms mw ma ml)) sz) := by
  refine cStart (QA := fun A => cQi D (fun (r : Int32) (u : (Nat → Int64)) => post r u) (fun u => wM aM C ms u ma ml) A) (cc := cX12_draw) (maxL := 1) (ret := (some .int)) (by decide) (Nat.le_of_ble_eq_true rfl) ?_
  intro p e s m args below meth c A ls hx hb hr hml hown hw hlocks hname hK hN hA hP hD hS hl
  generalize hQ : MQ below _ args s 0 0 A = Q
  have hl : lv_has ls 1 [(0, .ref (aM 0))] := hl
  obtain ⟨H, hH⟩ : ∃ H, H = s.heap := ⟨_, rfl⟩
  obtain ⟨locs, hlo⟩ : ∃ z : List Loc, z = [] := ⟨_, rfl⟩
  have hP : va_P D vwCl (List.flatten (wM aM C ms mw ma ml)) H := by rw [hH]; exact hP
  have hS : va_S A s.heap H locs := by rw [hH, hlo]; exact hS
  rw [show W p l e rmX12_draw s m args below meth c s.heap [] 0 0 Q (F0 m 0 ls []) = W p l e rmX12_draw s m args below meth c H locs 0 0 Q (F0 m 0 ls []) from by rw [hH, hlo]]
  refine lv_aload_n hx hb dX12_draw_0 rfl (lv_at hl 0 rfl) ?_
  refine lv_ldc2 (v := 1103515245) hx hb hown (hw _ mw_9_59) dX12_draw_1 ?_
  refine lv_aload_n hx hb dX12_draw_4 rfl (lv_at hl 0 rfl) ?_
  refine va_get (D := D) (ci := 12) (v := .long (mw 4)) (C := RX12) (T := TX12) (N := 51) hx hb hw inW_X12 hown hK hP 0 rfl rfl 50 (by decide) (hw _ mw_6_93) (fun _ h9 => h9) rfl dX12_draw_5 ?_
  refine lv_lmul hx hb dX12_draw_8 ?_
  refine lv_ldc2 (v := 12345) hx hb hown (hw _ mw_9_60) dX12_draw_9 ?_
  refine lv_ladd hx hb dX12_draw_12 ?_
  refine lv_ldc2 (v := 2147483648) hx hb hown (hw _ mw_9_61) dX12_draw_13 ?_
  refine lv_lrem hx hb dX12_draw_16 (by decide) ?_
  refine lv_topl (fun x1 ex1 => ?_)
  have h := h x1 ex1
  refine va_put (D := D) (ci := 12) (v := .long x1) (ty := .long) (C := RX12) (T := TX12) (N := 51) hx hb hw inW_X12 tyX12 tyX12_ok nmX12 hown hK hP hD hS 0 rfl rfl 50 (by decide) (hw _ mw_6_93) (fun _ h9 => h9) rfl (by decide +kernel) rfl rfl (Nat.le_of_ble_eq_true rfl) dX12_draw_17 (fun H locs hP hD hS => ?_)
  refine lv_aload_n hx hb dX12_draw_20 rfl (lv_at hl 0 rfl) ?_
  refine va_get (D := D) (ci := 12) (v := .long x1) (C := RX12) (T := TX12) (N := 51) hx hb hw inW_X12 hown hK hP 0 rfl rfl 50 (by decide) (hw _ mw_6_93) (fun _ h9 => h9) rfl dX12_draw_21 ?_
  refine lv_ldc2 (v := 65536) hx hb hown (hw _ mw_9_62) dX12_draw_24 ?_
  refine lv_ldiv hx hb dX12_draw_27 (by decide) ?_
  refine lv_ldc2 (v := 100) hx hb hown (hw _ mw_7_163) dX12_draw_28 ?_
  refine lv_lrem hx hb dX12_draw_31 (by decide) ?_
  refine lv_l2i hx hb dX12_draw_32 rfl ?_
  have hP : va_P D vwCl (List.flatten (wM aM C ms (va_up mw 4 x1) ma ml)) H := hP
  have hD : va_D A (List.flatten (wM aM C ms (va_up mw 4 x1) ma ml)) := hD
  rw [← hQ]
  exact cRetI (v := ((x1 / 65536) - (x1 / 65536) / 100 * 100).toInt32) ((va_up mw 4 x1)) hx hb hr hlocks hS hP hD h dX12_draw_33
abbrev vsX12_newYear : List Cond := Cond.code yX12_newYear cX12_newYear 2 none :: WS
abbrev rmX12_newYear : Room := { frames := 4, cells := 0, slots := 0, locals := 95 }
set_option maxHeartbeats 4000000 in
set_option maxRecDepth 100000 in
theorem k_X12_newYear (l : Launch) (D : va_G) (C : Nat → ClassId) (sz : Nat) (aM : Nat → Nat)  (ms : Nat → Int32) (mw : Nat → Int64) (ma : Nat → Nat → Int32) (ml : Nat → Nat → Int64)  {post : (Nat → Int32) → (Nat → Nat → Int32) → Prop} (h : P_X12_newYear ms ma post) : Met l yX12_newYear vsX12_newYear rmX12_newYear (cPre D C [.ref (aM 0)] sz (wM aM C ms mw ma ml)) (cQv D (fun (u : (Nat → Int32) × (Nat → Nat → Int32)) => post u.1 u.2) (fun u => wM aM C u.1 mw u.2 ml) (va_A (List.flatten (wM aM C ms mw ma ml)) sz)) 0 0 (va_A (List.flatten (wM aM C ms mw ma ml)) sz) := by
  refine cStart (QA := fun A => cQv D (fun (u : (Nat → Int32) × (Nat → Nat → Int32)) => post u.1 u.2) (fun u => wM aM C u.1 mw u.2 ml) A) (cc := cX12_newYear) (maxL := 2) (ret := none) (by decide) (Nat.le_of_ble_eq_true rfl) ?_
  intro p e s m args below meth c A ls hx hb hr hml hown hw hlocks hname hK hN hA hP hD hS hl
  generalize hQ : MQ below _ args s 0 0 A = Q
  have hl : lv_has ls 2 [(0, .ref (aM 0))] := hl
  obtain ⟨H, hH⟩ : ∃ H, H = s.heap := ⟨_, rfl⟩
  obtain ⟨locs, hlo⟩ : ∃ z : List Loc, z = [] := ⟨_, rfl⟩
  have hP : va_P D vwCl (List.flatten (wM aM C ms mw ma ml)) H := by rw [hH]; exact hP
  have hS : va_S A s.heap H locs := by rw [hH, hlo]; exact hS
  rw [show W p l e rmX12_newYear s m args below meth c s.heap [] 0 0 Q (F0 m 0 ls []) = W p l e rmX12_newYear s m args below meth c H locs 0 0 Q (F0 m 0 ls []) from by rw [hH, hlo]]
  have N7 : ∀ (ms : Nat → Int32) (n7 : Nat) (x1_ : Int32) (ma : Nat → Nat → Int32) (H : Heap) (locs : List Loc) (ls : Array Slot), P_X12_newYear_7  post  ms n7 x1_ ma → va_P D vwCl (List.flatten (wM aM C ms mw ma ml)) H → va_D A (List.flatten (wM aM C ms mw ma ml)) → va_S A s.heap H locs → lv_has ls 2 [(0, .ref (aM 0)), (1, .int x1_)] → W p l e rmX12_newYear s m args below meth c H locs 0 0 Q (F0 m 7 ls []) := by
    intro ms
    intro n7
    induction n7 with
    | zero => intro x1_ ma H locs ls h hP hD hS hl; exact False.elim h
    | succ n7 ih7 =>
      intro x1_ ma H locs ls h hP hD hS hl
      refine lv_iload_n hx hb dX12_newYear_7 rfl (lv_at hl 1 rfl) ?_
      refine lv_bipush (v := 16) hx hb dX12_newYear_8 (by decide) ?_
      refine lv_icmp_ge (tgt := 26) hx hb dX12_newYear_10 (by decide) (fun c1 => ?_) (fun c1 => ?_)
      · have h := h.1 c1
        rw [← hQ]
        exact cRetV (ms, ma) hx hb hr hlocks hS hP hD h dX12_newYear_26
      · have h := h.2 c1
        refine lv_aload_n hx hb dX12_newYear_13 rfl (lv_at hl 0 rfl) ?_
        refine va_get (D := D) (ci := 12) (v := .ref (aM 32)) (C := RX12) (T := TX12) (N := 51) hx hb hw inW_X12 hown hK hP 0 rfl rfl 49 (by decide) (hw _ mw_6_92) (fun _ h9 => h9) rfl dX12_newYear_14 ?_
        refine lv_iload_n hx hb dX12_newYear_17 rfl (lv_at hl 1 rfl) ?_
        refine lv_iconst (v := 0) hx hb dX12_newYear_18 (by decide) ?_
        refine cIast hx hb hK hP hD hS 32 0 rfl rfl x1_.toNatClampNeg rfl h.1 dX12_newYear_19 (fun H locs hP hD hS => ?_)
        have h := h.2
        refine lv_iinc (v := (x1_ + 1)) (lv' := [(1, .int (x1_ + 1)), (0, .ref (aM 0))]) hx hb dX12_newYear_20 hl (k := 1) rfl rfl (by decide) rfl (fun ls hl => ?_)
        refine lv_goto (tgt := 7) hx hb dX12_newYear_23 (by decide) ?_
        have hP : va_P D vwCl (List.flatten (wM aM C ms mw (va_up ma 21 (upd (ma 21) x1_.toNatClampNeg 0)) ml)) H := hP
        have hD : va_D A (List.flatten (wM aM C ms mw (va_up ma 21 (upd (ma 21) x1_.toNatClampNeg 0)) ml)) := hD
        exact ih7 (x1_ + 1) (va_up ma 21 (upd (ma 21) x1_.toNatClampNeg 0)) _ _ _ h hP hD hS (lv_sub hl [1, 0] rfl)
  refine lv_aload_n hx hb dX12_newYear_0 rfl (lv_at hl 0 rfl) ?_
  refine lv_iconst (v := (-1)) hx hb dX12_newYear_1 (by decide) ?_
  refine cGoV (wo := fun u => wM aM C u.1 mw u.2 ml) (cRunV (As := [.int (-1)]) (rest := []) ⟨hx, hb, hml, hown, hw⟩ hK hN hP hD [0, 1, 2, 3, 4, 5, 6, 7, 8, 9, 10, 11, 12, 13, 14, 15, 16, 17, 18, 19, 20, 21, 22, 23, 24, 25, 26, 27, 28, 29, 30, 31, 32] rfl rfl (k_X12_lays l D C _ aM  ms mw ma ml (-1) h) (cwV 1 hw (goodV mw_7_180 mw_7_182 mw_s138 mw_1_13 mw_7_183) rfl rfl rfl (by decide +kernel) ⟨Nat.le_of_ble_eq_true rfl, Nat.le_of_ble_eq_true rfl⟩) rfl rfl rfl hl.1 rfl (Nat.le_of_ble_eq_true rfl) dX12_newYear_2 ⟨Nat.zero_le _, Nat.zero_le _⟩) hP hD hS hA [0, 1, 2, 3, 4, 5, 6, 7, 8, 9, 10, 11, 12, 13, 14, 15, 16, 17, 18, 19, 20, 21, 22, 23, 24, 25, 26, 27, 28, 29, 30, 31, 32] [] [0, 1, 2, 3, 4, 5, 6, 7, 8, 9, 10, 11, 12, 13, 14, 15, 16, 17, 18, 19, 20, 21, 22, 23, 24, 25, 26, 27, 28, 29, 30, 31, 32] rfl rfl rfl (by decide) rfl (fun _ => rfl) (fun u H locs h hP hD hS => ?_)
  obtain ⟨ms_2, ma_3⟩ := u
  have hP : va_P D vwCl (List.flatten (wM aM C ms_2 mw ma_3 ml)) H := hP
  have hD : va_D A (List.flatten (wM aM C ms_2 mw ma_3 ml)) := hD
  refine lv_iconst (v := 0) hx hb dX12_newYear_5 (by decide) ?_
  refine lv_istore_n (lv' := [(1, .int 0), (0, .ref (aM 0))]) hx hb dX12_newYear_6 rfl hl (by decide) rfl (fun ls hl => ?_)
  obtain ⟨n, h⟩ := h
  exact N7 ms_2 n 0 ma_3 _ _ _ h hP hD hS (lv_sub hl [1, 0] rfl)
abbrev vsX12_comes : List Cond := Cond.code yX12_comes cX12_comes 4 (some .int) :: WS
abbrev rmX12_comes : Room := { frames := 1, cells := 0, slots := 0, locals := 26 }
set_option maxHeartbeats 4000000 in
set_option maxRecDepth 100000 in
theorem k_X12_comes (l : Launch) (D : va_G) (C : Nat → ClassId) (sz : Nat) (aM : Nat → Nat)  (ms : Nat → Int32) (mw : Nat → Int64) (ma : Nat → Nat → Int32) (ml : Nat → Nat → Int64) (p1 : Int32) (p2 : Int32) {post : Int32 → (Nat → Nat → Int32) → Prop} (h : P_X12_comes ms ma p1 p2 post) : Met l yX12_comes vsX12_comes rmX12_comes (cPre D C [.ref (aM 0), .int p1, .int p2] sz (wM aM C ms mw ma ml)) (cQi D (fun (r : Int32) (u : (Nat → Nat → Int32)) => post r u) (fun u => wM aM C ms mw u ml) (va_A (List.flatten (wM aM C ms mw ma ml)) sz)) 0 0 (va_A (List.flatten (wM aM C ms mw ma ml)) sz) := by
  refine cStart (QA := fun A => cQi D (fun (r : Int32) (u : (Nat → Nat → Int32)) => post r u) (fun u => wM aM C ms mw u ml) A) (cc := cX12_comes) (maxL := 4) (ret := (some .int)) (by decide) (Nat.le_of_ble_eq_true rfl) ?_
  intro p e s m args below meth c A ls hx hb hr hml hown hw hlocks hname hK hN hA hP hD hS hl
  generalize hQ : MQ below _ args s 0 0 A = Q
  have hl : lv_has ls 4 [(0, .ref (aM 0)), (1, .int p1), (2, .int p2)] := hl
  obtain ⟨H, hH⟩ : ∃ H, H = s.heap := ⟨_, rfl⟩
  obtain ⟨locs, hlo⟩ : ∃ z : List Loc, z = [] := ⟨_, rfl⟩
  have hP : va_P D vwCl (List.flatten (wM aM C ms mw ma ml)) H := by rw [hH]; exact hP
  have hS : va_S A s.heap H locs := by rw [hH, hlo]; exact hS
  rw [show W p l e rmX12_comes s m args below meth c s.heap [] 0 0 Q (F0 m 0 ls []) = W p l e rmX12_comes s m args below meth c H locs 0 0 Q (F0 m 0 ls []) from by rw [hH, hlo]]
  refine lv_aload_n hx hb dX12_comes_0 rfl (lv_at hl 0 rfl) ?_
  refine lv_iload_n hx hb dX12_comes_1 rfl (lv_at hl 1 rfl) ?_
  refine lv_iload_n hx hb dX12_comes_2 rfl (lv_at hl 2 rfl) ?_
  refine cGoI (wo := fun u => wM aM C ms mw ma ml) (cRunV (As := [.int p1, .int p2]) (rest := []) ⟨hx, hb, hml, hown, hw⟩ hK hN hP hD [0, 1, 2, 3, 4, 5, 6, 7, 8, 9, 10, 11, 12, 13, 14, 15, 16, 17, 18, 19, 20, 21, 22, 23, 24, 25, 26, 27, 28, 29, 30, 31, 32] rfl rfl (k_X12_takesOf l D C _ aM  ms mw ma ml p1 p2 h) (cwV 2 hw (goodV mw_7_184 mw_7_186 mw_s139 mw_1_13 mw_7_187) rfl rfl rfl (by decide +kernel) ⟨Nat.le_of_ble_eq_true rfl, Nat.le_of_ble_eq_true rfl⟩) rfl rfl rfl hl.1 rfl (Nat.le_of_ble_eq_true rfl) dX12_comes_3 ⟨Nat.zero_le _, Nat.zero_le _⟩) hP hD hS hA [0, 1, 2, 3, 4, 5, 6, 7, 8, 9, 10, 11, 12, 13, 14, 15, 16, 17, 18, 19, 20, 21, 22, 23, 24, 25, 26, 27, 28, 29, 30, 31, 32] [] [0, 1, 2, 3, 4, 5, 6, 7, 8, 9, 10, 11, 12, 13, 14, 15, 16, 17, 18, 19, 20, 21, 22, 23, 24, 25, 26, 27, 28, 29, 30, 31, 32] rfl rfl rfl (by decide) rfl (fun _ => rfl) (fun r1 u H locs h hP hD hS => ?_)
  have hP : va_P D vwCl (List.flatten (wM aM C ms mw ma ml)) H := hP
  have hD : va_D A (List.flatten (wM aM C ms mw ma ml)) := hD
  refine lv_istore_n (lv' := [(3, .int r1), (0, .ref (aM 0)), (1, .int p1), (2, .int p2)]) hx hb dX12_comes_6 rfl hl (by decide) rfl (fun ls hl => ?_)
  refine lv_iload_n hx hb dX12_comes_7 rfl (lv_at hl 0 rfl) ?_
  refine lv_iconst (v := (-1)) hx hb dX12_comes_8 (by decide) ?_
  refine lv_icmp_ne (tgt := 14) hx hb dX12_comes_9 (by decide) (fun c2 => ?_) (fun c2 => ?_)
  · have h := h.1 c2
    refine lv_aload_n hx hb dX12_comes_14 rfl (lv_at hl 1 rfl) ?_
    refine va_get (D := D) (ci := 12) (v := .ref (aM 32)) (C := RX12) (T := TX12) (N := 51) hx hb hw inW_X12 hown hK hP 0 rfl rfl 49 (by decide) (hw _ mw_6_92) (fun _ h9 => h9) rfl dX12_comes_15 ?_
    refine lv_iload_n hx hb dX12_comes_18 rfl (lv_at hl 0 rfl) ?_
    refine lv_dup2_11 hx hb dX12_comes_19 rfl rfl ?_
    refine cIald hx hb hK hP 32 0 rfl rfl r1.toNatClampNeg rfl h.1 dX12_comes_20 ?_
    have h := h.2
    refine lv_iconst (v := 1) hx hb dX12_comes_21 (by decide) ?_
    refine lv_iadd hx hb dX12_comes_22 ?_
    refine cIast hx hb hK hP hD hS 32 0 rfl rfl r1.toNatClampNeg rfl h.1 dX12_comes_23 (fun H locs hP hD hS => ?_)
    have h := h.2
    refine lv_aload_n hx hb dX12_comes_24 rfl (lv_at hl 1 rfl) ?_
    refine va_get (D := D) (ci := 12) (v := .ref (aM 32)) (C := RX12) (T := TX12) (N := 51) hx hb hw inW_X12 hown hK hP 0 rfl rfl 49 (by decide) (hw _ mw_6_92) (fun _ h9 => h9) rfl dX12_comes_25 ?_
    refine lv_bipush (v := 10) hx hb dX12_comes_28 (by decide) ?_
    refine lv_iload_n hx hb dX12_comes_30 rfl (lv_at hl 2 rfl) ?_
    refine lv_iadd hx hb dX12_comes_31 ?_
    refine lv_dup2_11 hx hb dX12_comes_32 rfl rfl ?_
    refine cIald hx hb hK hP 32 0 rfl rfl ((10 + p1).toNatClampNeg) rfl h.1 dX12_comes_33 ?_
    have h := h.2
    refine lv_iconst (v := 1) hx hb dX12_comes_34 (by decide) ?_
    refine lv_iadd hx hb dX12_comes_35 ?_
    refine cIast hx hb hK hP hD hS 32 0 rfl rfl ((10 + p1).toNatClampNeg) rfl h.1 dX12_comes_36 (fun H locs hP hD hS => ?_)
    have h := h.2
    refine lv_iload_n hx hb dX12_comes_37 rfl (lv_at hl 3 rfl) ?_
    refine lv_iconst (v := 1) hx hb dX12_comes_38 (by decide) ?_
    refine lv_iload_n hx hb dX12_comes_39 rfl (lv_at hl 0 rfl) ?_
    refine lv_ishl hx hb dX12_comes_40 ?_
    refine lv_ior hx hb dX12_comes_41 ?_
    have hP : va_P D vwCl (List.flatten (wM aM C ms mw (va_up ma 21 (upd (upd (ma 21) r1.toNatClampNeg ((ma 21 r1.toNatClampNeg) + 1)) ((10 + p1).toNatClampNeg) (((upd (ma 21) r1.toNatClampNeg ((ma 21 r1.toNatClampNeg) + 1)) ((10 + p1).toNatClampNeg)) + 1))) ml)) H := hP
    have hD : va_D A (List.flatten (wM aM C ms mw (va_up ma 21 (upd (upd (ma 21) r1.toNatClampNeg ((ma 21 r1.toNatClampNeg) + 1)) ((10 + p1).toNatClampNeg) (((upd (ma 21) r1.toNatClampNeg ((ma 21 r1.toNatClampNeg) + 1)) ((10 + p1).toNatClampNeg)) + 1))) ml)) := hD
    rw [← hQ]
    exact cRetI (v := (p2 ||| ((1 : Int32) <<< (r1 &&& 31)))) ((va_up ma 21 (upd (upd (ma 21) r1.toNatClampNeg ((ma 21 r1.toNatClampNeg) + 1)) ((10 + p1).toNatClampNeg) (((upd (ma 21) r1.toNatClampNeg ((ma 21 r1.toNatClampNeg) + 1)) ((10 + p1).toNatClampNeg)) + 1)))) hx hb hr hlocks hS hP hD h dX12_comes_42
  · have h := h.2 c2
    refine lv_iload_n hx hb dX12_comes_12 rfl (lv_at hl 3 rfl) ?_
    rw [← hQ]
    exact cRetI (v := p2) (ma) hx hb hr hlocks hS hP hD h dX12_comes_13
abbrev vsX12_drawnAll : List Cond := Cond.code yX12_drawnAll cX12_drawnAll 3 (some .int) :: WS
abbrev rmX12_drawnAll : Room := { frames := 0, cells := 0, slots := 0, locals := 0 }
set_option maxHeartbeats 4000000 in
set_option maxRecDepth 100000 in
theorem k_X12_drawnAll (l : Launch) (D : va_G) (C : Nat → ClassId) (sz : Nat) (aM : Nat → Nat)  (ms : Nat → Int32) (mw : Nat → Int64) (ma : Nat → Nat → Int32) (ml : Nat → Nat → Int64)  {post : Int32 → Prop} (h : P_X12_drawnAll ma post) : Met l yX12_drawnAll vsX12_drawnAll rmX12_drawnAll (cPre D C [.ref (aM 0)] sz (wM aM C ms mw ma ml)) (cQi D (fun (r : Int32) (u : Unit) => post r ) (fun u => wM aM C ms mw ma ml) (va_A (List.flatten (wM aM C ms mw ma ml)) sz)) 0 0 (va_A (List.flatten (wM aM C ms mw ma ml)) sz) := by
  refine cStart (QA := fun A => cQi D (fun (r : Int32) (u : Unit) => post r ) (fun u => wM aM C ms mw ma ml) A) (cc := cX12_drawnAll) (maxL := 3) (ret := (some .int)) (by decide) (Nat.le_of_ble_eq_true rfl) ?_
  intro p e s m args below meth c A ls hx hb hr hml hown hw hlocks hname hK hN hA hP hD hS hl
  generalize hQ : MQ below _ args s 0 0 A = Q
  have hl : lv_has ls 3 [(0, .ref (aM 0))] := hl
  obtain ⟨H, hH⟩ : ∃ H, H = s.heap := ⟨_, rfl⟩
  obtain ⟨locs, hlo⟩ : ∃ z : List Loc, z = [] := ⟨_, rfl⟩
  have hP : va_P D vwCl (List.flatten (wM aM C ms mw ma ml)) H := by rw [hH]; exact hP
  have hS : va_S A s.heap H locs := by rw [hH, hlo]; exact hS
  rw [show W p l e rmX12_drawnAll s m args below meth c s.heap [] 0 0 Q (F0 m 0 ls []) = W p l e rmX12_drawnAll s m args below meth c H locs 0 0 Q (F0 m 0 ls []) from by rw [hH, hlo]]
  have N4 : ∀  (n4 : Nat) (x1_ : Int32) (x2_ : Int32) (H : Heap) (locs : List Loc) (ls : Array Slot), P_X12_drawnAll_4 ma post   n4 x1_ x2_ → va_P D vwCl (List.flatten (wM aM C ms mw ma ml)) H → va_D A (List.flatten (wM aM C ms mw ma ml)) → va_S A s.heap H locs → lv_has ls 3 [(0, .ref (aM 0)), (1, .int x1_), (2, .int x2_)] → W p l e rmX12_drawnAll s m args below meth c H locs 0 0 Q (F0 m 4 ls []) := by
    intro n4
    induction n4 with
    | zero => intro x1_ x2_ H locs ls h hP hD hS hl; exact False.elim h
    | succ n4 ih4 =>
      intro x1_ x2_ H locs ls h hP hD hS hl
      refine lv_iload_n hx hb dX12_drawnAll_4 rfl (lv_at hl 2 rfl) ?_
      refine lv_bipush (v := 10) hx hb dX12_drawnAll_5 (by decide) ?_
      refine lv_icmp_ge (tgt := 25) hx hb dX12_drawnAll_7 (by decide) (fun c1 => ?_) (fun c1 => ?_)
      · have h := h.1 c1
        refine lv_iload_n hx hb dX12_drawnAll_25 rfl (lv_at hl 1 rfl) ?_
        rw [← hQ]
        exact cRetI (v := x1_) () hx hb hr hlocks hS hP hD h dX12_drawnAll_26
      · have h := h.2 c1
        refine lv_iload_n hx hb dX12_drawnAll_10 rfl (lv_at hl 1 rfl) ?_
        refine lv_aload_n hx hb dX12_drawnAll_11 rfl (lv_at hl 0 rfl) ?_
        refine va_get (D := D) (ci := 12) (v := .ref (aM 32)) (C := RX12) (T := TX12) (N := 51) hx hb hw inW_X12 hown hK hP 0 rfl rfl 49 (by decide) (hw _ mw_6_92) (fun _ h9 => h9) rfl dX12_drawnAll_12 ?_
        refine lv_iload_n hx hb dX12_drawnAll_15 rfl (lv_at hl 2 rfl) ?_
        refine cIald hx hb hK hP 32 0 rfl rfl x2_.toNatClampNeg rfl h.1 dX12_drawnAll_16 ?_
        have h := h.2
        refine lv_iadd hx hb dX12_drawnAll_17 ?_
        refine lv_topi (fun x2 ex2 => ?_)
        have h := h x2 ex2
        refine lv_istore_n (lv' := [(1, .int x2), (0, .ref (aM 0)), (2, .int x2_)]) hx hb dX12_drawnAll_18 rfl hl (by decide) rfl (fun ls hl => ?_)
        refine lv_iinc (v := (x2_ + 1)) (lv' := [(2, .int (x2_ + 1)), (1, .int x2), (0, .ref (aM 0))]) hx hb dX12_drawnAll_19 hl (k := 2) rfl rfl (by decide) rfl (fun ls hl => ?_)
        refine lv_goto (tgt := 4) hx hb dX12_drawnAll_22 (by decide) ?_
        exact ih4 x2 (x2_ + 1) _ _ _ h hP hD hS (lv_sub hl [2, 1, 0] rfl)
  refine lv_iconst (v := 0) hx hb dX12_drawnAll_0 (by decide) ?_
  refine lv_istore_n (lv' := [(1, .int 0), (0, .ref (aM 0))]) hx hb dX12_drawnAll_1 rfl hl (by decide) rfl (fun ls hl => ?_)
  refine lv_iconst (v := 0) hx hb dX12_drawnAll_2 (by decide) ?_
  refine lv_istore_n (lv' := [(2, .int 0), (1, .int 0), (0, .ref (aM 0))]) hx hb dX12_drawnAll_3 rfl hl (by decide) rfl (fun ls hl => ?_)
  obtain ⟨n, h⟩ := h
  exact N4  n 0 0 _ _ _ h hP hD hS (lv_sub hl [2, 1, 0] rfl)
abbrev vsX12_draws : List Cond := Cond.code yX12_draws cX12_draws 6 none :: WS
abbrev rmX12_draws : Room := { frames := 5, cells := 0, slots := 0, locals := 116 }
set_option maxHeartbeats 4000000 in
set_option maxRecDepth 100000 in
theorem k_X12_draws (l : Launch) (D : va_G) (C : Nat → ClassId) (sz : Nat) (aM : Nat → Nat)  (ms : Nat → Int32) (mw : Nat → Int64) (ma : Nat → Nat → Int32) (ml : Nat → Nat → Int64) (p1 : Int64) {post : (Nat → Int32) → (Nat → Int64) → (Nat → Nat → Int32) → Prop} (h : P_X12_draws ms mw ma p1 post) : Met l yX12_draws vsX12_draws rmX12_draws (cPre D C [.ref (aM 0), .long p1] sz (wM aM C ms mw ma ml)) (cQv D (fun (u : (Nat → Int32) × (Nat → Int64) × (Nat → Nat → Int32)) => post u.1 u.2.1 u.2.2) (fun u => wM aM C u.1 u.2.1 u.2.2 ml) (va_A (List.flatten (wM aM C ms mw ma ml)) sz)) 0 0 (va_A (List.flatten (wM aM C ms mw ma ml)) sz) := by
  refine cStart (QA := fun A => cQv D (fun (u : (Nat → Int32) × (Nat → Int64) × (Nat → Nat → Int32)) => post u.1 u.2.1 u.2.2) (fun u => wM aM C u.1 u.2.1 u.2.2 ml) A) (cc := cX12_draws) (maxL := 6) (ret := none) (by decide) (Nat.le_of_ble_eq_true rfl) ?_
  intro p e s m args below meth c A ls hx hb hr hml hown hw hlocks hname hK hN hA hP hD hS hl
  generalize hQ : MQ below _ args s 0 0 A = Q
  have hl : lv_has ls 6 [(0, .ref (aM 0)), (1, .long p1)] := hl
  obtain ⟨H, hH⟩ : ∃ H, H = s.heap := ⟨_, rfl⟩
  obtain ⟨locs, hlo⟩ : ∃ z : List Loc, z = [] := ⟨_, rfl⟩
  have hP : va_P D vwCl (List.flatten (wM aM C ms mw ma ml)) H := by rw [hH]; exact hP
  have hS : va_S A s.heap H locs := by rw [hH, hlo]; exact hS
  rw [show W p l e rmX12_draws s m args below meth c s.heap [] 0 0 Q (F0 m 0 ls []) = W p l e rmX12_draws s m args below meth c H locs 0 0 Q (F0 m 0 ls []) from by rw [hH, hlo]]
  have N11 : ∀ (ms : Nat → Int32) (n11 : Nat) (x3_ : Int32) (mw : Nat → Int64) (ma : Nat → Nat → Int32) (H : Heap) (locs : List Loc) (ls : Array Slot), P_X12_draws_11 p1 post  ms n11 x3_ mw ma → va_P D vwCl (List.flatten (wM aM C ms mw ma ml)) H → va_D A (List.flatten (wM aM C ms mw ma ml)) → va_S A s.heap H locs → lv_has ls 6 [(0, .ref (aM 0)), (3, .int x3_)] → W p l e rmX12_draws s m args below meth c H locs 0 0 Q (F0 m 11 ls []) := by
    intro ms
    intro n11
    induction n11 with
    | zero => intro x3_ mw ma H locs ls h hP hD hS hl; exact False.elim h
    | succ n11 ih11 =>
      have N27 : ∀ (x3_ : Int32) (n27 : Nat) (x4_ : Int32) (x5_ : Int32) (mw : Nat → Int64) (ma : Nat → Nat → Int32) (H : Heap) (locs : List Loc) (ls : Array Slot), P_X12_draws_27 p1 ms post (P_X12_draws_11 p1 post  ms n11) x3_ n27 x4_ x5_ mw ma → va_P D vwCl (List.flatten (wM aM C ms mw ma ml)) H → va_D A (List.flatten (wM aM C ms mw ma ml)) → va_S A s.heap H locs → lv_has ls 6 [(0, .ref (aM 0)), (3, .int x3_), (4, .int x4_), (5, .int x5_)] → W p l e rmX12_draws s m args below meth c H locs 0 0 Q (F0 m 27 ls []) := by
        intro x3_
        intro n27
        induction n27 with
        | zero => intro x4_ x5_ mw ma H locs ls h hP hD hS hl; exact False.elim h
        | succ n27 ih27 =>
          intro x4_ x5_ mw ma H locs ls h hP hD hS hl
          refine lv_iload hx hb dX12_draws_27 (lv_at hl 3 rfl) ?_
          refine lv_aload_n hx hb dX12_draws_29 rfl (lv_at hl 0 rfl) ?_
          refine va_get (D := D) (ci := 12) (v := .ref (aM 15)) (C := RX12) (T := TX12) (N := 51) hx hb hw inW_X12 hown hK hP 0 rfl rfl 25 (by decide) (hw _ mw_6_68) (fun _ h9 => h9) rfl dX12_draws_30 ?_
          refine lv_iconst (v := 0) hx hb dX12_draws_33 (by decide) ?_
          refine cIald hx hb hK hP 15 0 rfl rfl 0 (by decide +kernel) (cIn (by decide +kernel)) dX12_draws_34 ?_
          refine lv_icmp_ge (tgt := 77) hx hb dX12_draws_35 (by decide) (fun c1 => ?_) (fun c1 => ?_)
          · have h := h.1 c1
            refine lv_iinc (v := (x3_ + 1)) (lv' := [(3, .int (x3_ + 1)), (0, .ref (aM 0)), (4, .int x4_), (5, .int x5_)]) hx hb dX12_draws_77 hl (k := 1) rfl rfl (by decide) rfl (fun ls hl => ?_)
            refine lv_goto (tgt := 11) hx hb dX12_draws_80 (by decide) ?_
            exact ih11 (x3_ + 1) mw ma _ _ _ h hP hD hS (lv_sub hl [1, 0] rfl)
          · have h := h.2 c1
            refine lv_aload_n hx hb dX12_draws_38 rfl (lv_at hl 0 rfl) ?_
            refine cGoI (wo := fun u => wM aM C ms u ma ml) (cRunV (As := []) (rest := []) ⟨hx, hb, hml, hown, hw⟩ hK hN hP hD [0, 1, 2, 3, 4, 5, 6, 7, 8, 9, 10, 11, 12, 13, 14, 15, 16, 17, 18, 19, 20, 21, 22, 23, 24, 25, 26, 27, 28, 29, 30, 31, 32] rfl rfl (k_X12_draw l D C _ aM  ms mw ma ml  h) (cwV 0 hw (goodV mw_9_55 mw_9_57 mw_s181 mw_1_13 mw_9_58) rfl rfl rfl (by decide +kernel) ⟨Nat.le_of_ble_eq_true rfl, Nat.le_of_ble_eq_true rfl⟩) rfl rfl rfl hl.1 rfl (Nat.le_of_ble_eq_true rfl) dX12_draws_39 ⟨Nat.zero_le _, Nat.zero_le _⟩) hP hD hS hA [0, 1, 2, 3, 4, 5, 6, 7, 8, 9, 10, 11, 12, 13, 14, 15, 16, 17, 18, 19, 20, 21, 22, 23, 24, 25, 26, 27, 28, 29, 30, 31, 32] [] [0, 1, 2, 3, 4, 5, 6, 7, 8, 9, 10, 11, 12, 13, 14, 15, 16, 17, 18, 19, 20, 21, 22, 23, 24, 25, 26, 27, 28, 29, 30, 31, 32] rfl rfl rfl (by decide) rfl (fun _ => rfl) (fun r3 mw_2 H locs h hP hD hS => ?_)
            have hP : va_P D vwCl (List.flatten (wM aM C ms mw_2 ma ml)) H := hP
            have hD : va_D A (List.flatten (wM aM C ms mw_2 ma ml)) := hD
            refine lv_aload_n hx hb dX12_draws_42 rfl (lv_at hl 0 rfl) ?_
            refine va_get (D := D) (ci := 12) (v := .ref (aM 16)) (C := RX12) (T := TX12) (N := 51) hx hb hw inW_X12 hown hK hP 0 rfl rfl 26 (by decide) (hw _ mw_6_69) (fun _ h9 => h9) rfl dX12_draws_43 ?_
            refine lv_iconst (v := 5) hx hb dX12_draws_46 (by decide) ?_
            refine lv_iload hx hb dX12_draws_47 (lv_at hl 3 rfl) ?_
            refine lv_imul hx hb dX12_draws_49 ?_
            refine lv_iconst (v := 1) hx hb dX12_draws_50 (by decide) ?_
            refine lv_iadd hx hb dX12_draws_51 ?_
            refine cIald hx hb hK hP 16 0 rfl rfl (((5 * x5_) + 1).toNatClampNeg) rfl h.1 dX12_draws_52 ?_
            have h := h.2
            refine lv_icmp_ge (tgt := 67) hx hb dX12_draws_53 (by decide) (fun c4 => ?_) (fun c4 => ?_)
            · have h := h.1 c4
              refine lv_iload hx hb dX12_draws_67 (lv_at hl 2 rfl) ?_
              refine lv_istore (lv' := [(4, .int x4_), (0, .ref (aM 0)), (3, .int x3_), (5, .int x5_)]) hx hb dX12_draws_69 hl (by decide) rfl (fun ls hl => ?_)
              refine lv_iinc (v := (x5_ + 1)) (lv' := [(5, .int (x5_ + 1)), (4, .int x4_), (0, .ref (aM 0)), (3, .int x3_)]) hx hb dX12_draws_71 hl (k := 3) rfl rfl (by decide) rfl (fun ls hl => ?_)
              refine lv_goto (tgt := 27) hx hb dX12_draws_74 (by decide) ?_
              exact ih27 x4_ (x5_ + 1) mw_2 ma _ _ _ h hP hD hS (lv_sub hl [2, 3, 1, 0] rfl)
            · have h := h.2 c4
              refine lv_aload_n hx hb dX12_draws_56 rfl (lv_at hl 0 rfl) ?_
              refine lv_iload hx hb dX12_draws_57 (lv_at hl 3 rfl) ?_
              refine lv_iload hx hb dX12_draws_59 (lv_at hl 2 rfl) ?_
              refine cGoI (wo := fun u => wM aM C ms mw_2 u ml) (cRunV (As := [.int x5_, .int x4_]) (rest := []) ⟨hx, hb, hml, hown, hw⟩ hK hN hP hD [0, 1, 2, 3, 4, 5, 6, 7, 8, 9, 10, 11, 12, 13, 14, 15, 16, 17, 18, 19, 20, 21, 22, 23, 24, 25, 26, 27, 28, 29, 30, 31, 32] rfl rfl (k_X12_comes l D C _ aM  ms mw_2 ma ml x5_ x4_ h) (cwV 2 hw (goodV mw_9_63 mw_9_65 mw_s182 mw_1_13 mw_9_66) rfl rfl rfl (by decide +kernel) ⟨Nat.le_of_ble_eq_true rfl, Nat.le_of_ble_eq_true rfl⟩) rfl rfl rfl hl.1 rfl (Nat.le_of_ble_eq_true rfl) dX12_draws_61 ⟨Nat.zero_le _, Nat.zero_le _⟩) hP hD hS hA [0, 1, 2, 3, 4, 5, 6, 7, 8, 9, 10, 11, 12, 13, 14, 15, 16, 17, 18, 19, 20, 21, 22, 23, 24, 25, 26, 27, 28, 29, 30, 31, 32] [] [0, 1, 2, 3, 4, 5, 6, 7, 8, 9, 10, 11, 12, 13, 14, 15, 16, 17, 18, 19, 20, 21, 22, 23, 24, 25, 26, 27, 28, 29, 30, 31, 32] rfl rfl rfl (by decide) rfl (fun _ => rfl) (fun r6 ma_5 H locs h hP hD hS => ?_)
              have hP : va_P D vwCl (List.flatten (wM aM C ms mw_2 ma_5 ml)) H := hP
              have hD : va_D A (List.flatten (wM aM C ms mw_2 ma_5 ml)) := hD
              refine lv_goto (tgt := 69) hx hb dX12_draws_64 (by decide) ?_
              refine lv_istore (lv' := [(4, .int r6), (0, .ref (aM 0)), (3, .int x3_), (5, .int x5_)]) hx hb dX12_draws_69 hl (by decide) rfl (fun ls hl => ?_)
              refine lv_iinc (v := (x5_ + 1)) (lv' := [(5, .int (x5_ + 1)), (4, .int r6), (0, .ref (aM 0)), (3, .int x3_)]) hx hb dX12_draws_71 hl (k := 3) rfl rfl (by decide) rfl (fun ls hl => ?_)
              refine lv_goto (tgt := 27) hx hb dX12_draws_74 (by decide) ?_
              exact ih27 r6 (x5_ + 1) mw_2 ma_5 _ _ _ h hP hD hS (lv_sub hl [2, 3, 1, 0] rfl)
      intro x3_ mw ma H locs ls h hP hD hS hl
      refine lv_iload_n hx hb dX12_draws_11 rfl (lv_at hl 1 rfl) ?_
      refine lv_aload_n hx hb dX12_draws_12 rfl (lv_at hl 0 rfl) ?_
      refine va_get (D := D) (ci := 12) (v := .ref (aM 8)) (C := RX12) (T := TX12) (N := 51) hx hb hw inW_X12 hown hK hP 0 rfl rfl 18 (by decide) (hw _ mw_6_61) (fun _ h9 => h9) rfl dX12_draws_13 ?_
      refine lv_iconst (v := 0) hx hb dX12_draws_16 (by decide) ?_
      refine cIald hx hb hK hP 8 0 rfl rfl 0 (by decide +kernel) (cIn (by decide +kernel)) dX12_draws_17 ?_
      refine lv_icmp_ge (tgt := 83) hx hb dX12_draws_18 (by decide) (fun c7 => ?_) (fun c7 => ?_)
      · have h := h.1 c7
        rw [← hQ]
        exact cRetV (ms, mw, ma) hx hb hr hlocks hS hP hD h dX12_draws_83
      · have h := h.2 c7
        refine lv_iconst (v := 0) hx hb dX12_draws_21 (by decide) ?_
        refine lv_istore (lv' := [(4, .int 0), (0, .ref (aM 0)), (3, .int x3_)]) hx hb dX12_draws_22 hl (by decide) rfl (fun ls hl => ?_)
        refine lv_iconst (v := 0) hx hb dX12_draws_24 (by decide) ?_
        refine lv_istore (lv' := [(5, .int 0), (4, .int 0), (0, .ref (aM 0)), (3, .int x3_)]) hx hb dX12_draws_25 hl (by decide) rfl (fun ls hl => ?_)
        obtain ⟨n, h⟩ := h
        exact N27 x3_ n 0 0 mw ma _ _ _ h hP hD hS (lv_sub hl [2, 3, 1, 0] rfl)
  refine lv_aload_n hx hb dX12_draws_0 rfl (lv_at hl 0 rfl) ?_
  refine cGoV (wo := fun u => wM aM C u.1 mw u.2 ml) (cRunV (As := []) (rest := []) ⟨hx, hb, hml, hown, hw⟩ hK hN hP hD [0, 1, 2, 3, 4, 5, 6, 7, 8, 9, 10, 11, 12, 13, 14, 15, 16, 17, 18, 19, 20, 21, 22, 23, 24, 25, 26, 27, 28, 29, 30, 31, 32] rfl rfl (k_X12_newYear l D C _ aM  ms mw ma ml  h) (cwV 0 hw (goodV mw_9_51 mw_9_53 mw_s180 mw_1_13 mw_9_54) rfl rfl rfl (by decide +kernel) ⟨Nat.le_of_ble_eq_true rfl, Nat.le_of_ble_eq_true rfl⟩) rfl rfl rfl hl.1 rfl (Nat.le_of_ble_eq_true rfl) dX12_draws_1 ⟨Nat.zero_le _, Nat.zero_le _⟩) hP hD hS hA [0, 1, 2, 3, 4, 5, 6, 7, 8, 9, 10, 11, 12, 13, 14, 15, 16, 17, 18, 19, 20, 21, 22, 23, 24, 25, 26, 27, 28, 29, 30, 31, 32] [] [0, 1, 2, 3, 4, 5, 6, 7, 8, 9, 10, 11, 12, 13, 14, 15, 16, 17, 18, 19, 20, 21, 22, 23, 24, 25, 26, 27, 28, 29, 30, 31, 32] rfl rfl rfl (by decide) rfl (fun _ => rfl) (fun u H locs h hP hD hS => ?_)
  obtain ⟨ms_8, ma_9⟩ := u
  have hP : va_P D vwCl (List.flatten (wM aM C ms_8 mw ma_9 ml)) H := hP
  have hD : va_D A (List.flatten (wM aM C ms_8 mw ma_9 ml)) := hD
  refine lv_aload_n hx hb dX12_draws_4 rfl (lv_at hl 0 rfl) ?_
  refine lv_lload_n hx hb dX12_draws_5 rfl (lv_at hl 1 rfl) ?_
  refine va_put (D := D) (ci := 12) (v := .long p1) (ty := .long) (C := RX12) (T := TX12) (N := 51) hx hb hw inW_X12 tyX12 tyX12_ok nmX12 hown hK hP hD hS 0 rfl rfl 50 (by decide) (hw _ mw_6_93) (fun _ h9 => h9) rfl (by decide +kernel) rfl rfl (Nat.le_of_ble_eq_true rfl) dX12_draws_6 (fun H locs hP hD hS => ?_)
  refine lv_iconst (v := 0) hx hb dX12_draws_9 (by decide) ?_
  refine lv_istore_n (lv' := [(3, .int 0), (0, .ref (aM 0)), (1, .long p1)]) hx hb dX12_draws_10 rfl hl (by decide) rfl (fun ls hl => ?_)
  have hP : va_P D vwCl (List.flatten (wM aM C ms_8 (va_up mw 4 p1) ma_9 ml)) H := hP
  have hD : va_D A (List.flatten (wM aM C ms_8 (va_up mw 4 p1) ma_9 ml)) := hD
  obtain ⟨n, h⟩ := h
  exact N11 ms_8 n 0 (va_up mw 4 p1) ma_9 _ _ _ h hP hD hS (lv_sub hl [1, 0] rfl)
abbrev vsX12_tellsYear : List Cond := Cond.code yX12_tellsYear cX12_tellsYear 2 (some .int) :: WS
abbrev rmX12_tellsYear : Room := { frames := 1, cells := 0, slots := 0, locals := 22 }
set_option maxHeartbeats 4000000 in
set_option maxRecDepth 100000 in
theorem k_X12_tellsYear (l : Launch) (D : va_G) (C : Nat → ClassId) (sz : Nat) (aM : Nat → Nat)  (ms : Nat → Int32) (mw : Nat → Int64) (ma : Nat → Nat → Int32) (ml : Nat → Nat → Int64)  {post : Int32 → (Nat → Nat → Int32) → Prop} (h : P_X12_tellsYear ma post) : Met l yX12_tellsYear vsX12_tellsYear rmX12_tellsYear (cPre D C [.ref (aM 0)] sz (wM aM C ms mw ma ml)) (cQi D (fun (r : Int32) (u : (Nat → Nat → Int32)) => post r u) (fun u => wM aM C ms mw u ml) (va_A (List.flatten (wM aM C ms mw ma ml)) sz)) 0 0 (va_A (List.flatten (wM aM C ms mw ma ml)) sz) := by
  refine cStart (QA := fun A => cQi D (fun (r : Int32) (u : (Nat → Nat → Int32)) => post r u) (fun u => wM aM C ms mw u ml) A) (cc := cX12_tellsYear) (maxL := 2) (ret := (some .int)) (by decide) (Nat.le_of_ble_eq_true rfl) ?_
  intro p e s m args below meth c A ls hx hb hr hml hown hw hlocks hname hK hN hA hP hD hS hl
  generalize hQ : MQ below _ args s 0 0 A = Q
  have hl : lv_has ls 2 [(0, .ref (aM 0))] := hl
  obtain ⟨H, hH⟩ : ∃ H, H = s.heap := ⟨_, rfl⟩
  obtain ⟨locs, hlo⟩ : ∃ z : List Loc, z = [] := ⟨_, rfl⟩
  have hP : va_P D vwCl (List.flatten (wM aM C ms mw ma ml)) H := by rw [hH]; exact hP
  have hS : va_S A s.heap H locs := by rw [hH, hlo]; exact hS
  rw [show W p l e rmX12_tellsYear s m args below meth c s.heap [] 0 0 Q (F0 m 0 ls []) = W p l e rmX12_tellsYear s m args below meth c H locs 0 0 Q (F0 m 0 ls []) from by rw [hH, hlo]]
  have N35 : ∀ (ma : Nat → Nat → Int32) (H : Heap) (locs : List Loc) (ls : Array Slot), P_X12_tellsYear_35  post  ma → va_P D vwCl (List.flatten (wM aM C ms mw ma ml)) H → va_D A (List.flatten (wM aM C ms mw ma ml)) → va_S A s.heap H locs → lv_has ls 2 [(0, .ref (aM 0))] → W p l e rmX12_tellsYear s m args below meth c H locs 0 0 Q (F0 m 35 ls []) := by
    intro ma H locs ls h hP hD hS hl
    refine lv_aload_n hx hb dX12_tellsYear_35 rfl (lv_at hl 0 rfl) ?_
    refine cGoI (wo := fun u => wM aM C ms mw ma ml) (cRunV (As := []) (rest := []) ⟨hx, hb, hml, hown, hw⟩ hK hN hP hD [0, 1, 2, 3, 4, 5, 6, 7, 8, 9, 10, 11, 12, 13, 14, 15, 16, 17, 18, 19, 20, 21, 22, 23, 24, 25, 26, 27, 28, 29, 30, 31, 32] rfl rfl (k_X12_drawnAll l D C _ aM  ms mw ma ml  h) (cwV 0 hw (goodV mw_9_71 mw_9_73 mw_s184 mw_1_13 mw_9_74) rfl rfl rfl (by decide +kernel) ⟨Nat.le_of_ble_eq_true rfl, Nat.le_of_ble_eq_true rfl⟩) rfl rfl rfl hl.1 rfl (Nat.le_of_ble_eq_true rfl) dX12_tellsYear_36 ⟨Nat.zero_le _, Nat.zero_le _⟩) hP hD hS hA [0, 1, 2, 3, 4, 5, 6, 7, 8, 9, 10, 11, 12, 13, 14, 15, 16, 17, 18, 19, 20, 21, 22, 23, 24, 25, 26, 27, 28, 29, 30, 31, 32] [] [0, 1, 2, 3, 4, 5, 6, 7, 8, 9, 10, 11, 12, 13, 14, 15, 16, 17, 18, 19, 20, 21, 22, 23, 24, 25, 26, 27, 28, 29, 30, 31, 32] rfl rfl rfl (by decide) rfl (fun _ => rfl) (fun r1 u H locs h hP hD hS => ?_)
    have hP : va_P D vwCl (List.flatten (wM aM C ms mw ma ml)) H := hP
    have hD : va_D A (List.flatten (wM aM C ms mw ma ml)) := hD
    rw [← hQ]
    exact cRetI (v := r1) (ma) hx hb hr hlocks hS hP hD h dX12_tellsYear_39
  have N9 : ∀  (n9 : Nat) (x1_ : Int32) (ma : Nat → Nat → Int32) (H : Heap) (locs : List Loc) (ls : Array Slot), P_X12_tellsYear_9  post (fun (ma : Nat → Nat → Int32) => P_X12_tellsYear_35  post  ma)  n9 x1_ ma → va_P D vwCl (List.flatten (wM aM C ms mw ma ml)) H → va_D A (List.flatten (wM aM C ms mw ma ml)) → va_S A s.heap H locs → lv_has ls 2 [(0, .ref (aM 0)), (1, .int x1_)] → W p l e rmX12_tellsYear s m args below meth c H locs 0 0 Q (F0 m 9 ls []) := by
    intro n9
    induction n9 with
    | zero => intro x1_ ma H locs ls h hP hD hS hl; exact False.elim h
    | succ n9 ih9 =>
      intro x1_ ma H locs ls h hP hD hS hl
      refine lv_iload_n hx hb dX12_tellsYear_9 rfl (lv_at hl 1 rfl) ?_
      refine lv_bipush (v := 16) hx hb dX12_tellsYear_10 (by decide) ?_
      refine lv_icmp_ge (tgt := 35) hx hb dX12_tellsYear_12 (by decide) (fun c2 => ?_) (fun c2 => ?_)
      · have h := h.1 c2
        exact N35 ma _ _ _ h hP hD hS (lv_sub hl [0] rfl)
      · have h := h.2 c2
        refine lv_aload_n hx hb dX12_tellsYear_15 rfl (lv_at hl 0 rfl) ?_
        refine va_get (D := D) (ci := 12) (v := .ref (aM 19)) (C := RX12) (T := TX12) (N := 51) hx hb hw inW_X12 hown hK hP 0 rfl rfl 29 (by decide) (hw _ mw_6_72) (fun _ h9 => h9) rfl dX12_tellsYear_16 ?_
        refine lv_iconst (v := 1) hx hb dX12_tellsYear_19 (by decide) ?_
        refine lv_iload_n hx hb dX12_tellsYear_20 rfl (lv_at hl 1 rfl) ?_
        refine lv_iadd hx hb dX12_tellsYear_21 ?_
        refine lv_aload_n hx hb dX12_tellsYear_22 rfl (lv_at hl 0 rfl) ?_
        refine va_get (D := D) (ci := 12) (v := .ref (aM 32)) (C := RX12) (T := TX12) (N := 51) hx hb hw inW_X12 hown hK hP 0 rfl rfl 49 (by decide) (hw _ mw_6_92) (fun _ h9 => h9) rfl dX12_tellsYear_23 ?_
        refine lv_iload_n hx hb dX12_tellsYear_26 rfl (lv_at hl 1 rfl) ?_
        refine cIald hx hb hK hP 32 0 rfl rfl x1_.toNatClampNeg rfl h.1 dX12_tellsYear_27 ?_
        have h := h.2
        refine cIast hx hb hK hP hD hS 19 0 rfl rfl ((1 + x1_).toNatClampNeg) rfl h.1 dX12_tellsYear_28 (fun H locs hP hD hS => ?_)
        have h := h.2
        refine lv_iinc (v := (x1_ + 1)) (lv' := [(1, .int (x1_ + 1)), (0, .ref (aM 0))]) hx hb dX12_tellsYear_29 hl (k := 1) rfl rfl (by decide) rfl (fun ls hl => ?_)
        refine lv_goto (tgt := 9) hx hb dX12_tellsYear_32 (by decide) ?_
        have hP : va_P D vwCl (List.flatten (wM aM C ms mw (va_up ma 16 (upd (ma 16) ((1 + x1_).toNatClampNeg) (ma 21 x1_.toNatClampNeg))) ml)) H := hP
        have hD : va_D A (List.flatten (wM aM C ms mw (va_up ma 16 (upd (ma 16) ((1 + x1_).toNatClampNeg) (ma 21 x1_.toNatClampNeg))) ml)) := hD
        exact ih9 (x1_ + 1) (va_up ma 16 (upd (ma 16) ((1 + x1_).toNatClampNeg) (ma 21 x1_.toNatClampNeg))) _ _ _ h hP hD hS (lv_sub hl [1, 0] rfl)
  refine lv_aload_n hx hb dX12_tellsYear_0 rfl (lv_at hl 0 rfl) ?_
  refine va_get (D := D) (ci := 12) (v := .ref (aM 19)) (C := RX12) (T := TX12) (N := 51) hx hb hw inW_X12 hown hK hP 0 rfl rfl 29 (by decide) (hw _ mw_6_72) (fun _ h9 => h9) rfl dX12_tellsYear_1 ?_
  refine lv_iconst (v := 0) hx hb dX12_tellsYear_4 (by decide) ?_
  refine lv_iconst (v := 1) hx hb dX12_tellsYear_5 (by decide) ?_
  refine cIast hx hb hK hP hD hS 19 0 rfl rfl 0 (by decide +kernel) (cIn (by decide +kernel)) dX12_tellsYear_6 (fun H locs hP hD hS => ?_)
  refine lv_iconst (v := 0) hx hb dX12_tellsYear_7 (by decide) ?_
  refine lv_istore_n (lv' := [(1, .int 0), (0, .ref (aM 0))]) hx hb dX12_tellsYear_8 rfl hl (by decide) rfl (fun ls hl => ?_)
  have hP : va_P D vwCl (List.flatten (wM aM C ms mw (va_up ma 16 (upd (ma 16) 0 1)) ml)) H := hP
  have hD : va_D A (List.flatten (wM aM C ms mw (va_up ma 16 (upd (ma 16) 0 1)) ml)) := hD
  obtain ⟨n, h⟩ := h
  exact N9  n 0 (va_up ma 16 (upd (ma 16) 0 1)) _ _ _ h hP hD hS (lv_sub hl [1, 0] rfl)
abbrev vsX12_isSeed : List Cond := Cond.code yX12_isSeed cX12_isSeed 1 (some .boolean) :: WS
abbrev rmX12_isSeed : Room := { frames := 1, cells := 0, slots := 0, locals := 25 }
set_option maxHeartbeats 4000000 in
set_option maxRecDepth 100000 in
theorem k_X12_isSeed (l : Launch) (D : va_G) (C : Nat → ClassId) (sz : Nat)    (p1 : Int32) {post : Int32 → Prop} (h : P_X12_isSeed p1 post) : Met l yX12_isSeed vsX12_isSeed rmX12_isSeed (cPre D C [.int p1] sz (([] : List va_W))) (cQi D (fun (r : Int32) (u : Unit) => post r ) (fun u => ([] : List va_W)) (va_A (List.flatten (([] : List va_W))) sz)) 0 0 (va_A (List.flatten (([] : List va_W))) sz) := by
  refine cStart (QA := fun A => cQi D (fun (r : Int32) (u : Unit) => post r ) (fun u => ([] : List va_W)) A) (cc := cX12_isSeed) (maxL := 1) (ret := (some .boolean)) (by decide) (Nat.le_of_ble_eq_true rfl) ?_
  intro p e s m args below meth c A ls hx hb hr hml hown hw hlocks hname hK hN hA hP hD hS hl
  generalize hQ : MQ below _ args s 0 0 A = Q
  have hl : lv_has ls 1 [(0, .int p1)] := hl
  obtain ⟨H, hH⟩ : ∃ H, H = s.heap := ⟨_, rfl⟩
  obtain ⟨locs, hlo⟩ : ∃ z : List Loc, z = [] := ⟨_, rfl⟩
  have hP : va_P D vwCl (List.flatten (([] : List va_W))) H := by rw [hH]; exact hP
  have hS : va_S A s.heap H locs := by rw [hH, hlo]; exact hS
  rw [show W p l e rmX12_isSeed s m args below meth c s.heap [] 0 0 Q (F0 m 0 ls []) = W p l e rmX12_isSeed s m args below meth c H locs 0 0 Q (F0 m 0 ls []) from by rw [hH, hlo]]
  refine lv_iload_n hx hb dX12_isSeed_0 rfl (lv_at hl 0 rfl) ?_
  refine lv_i2l hx hb dX12_isSeed_1 rfl ?_
  refine lv_lconst (v := 0) hx hb dX12_isSeed_2 (by decide) ?_
  refine lv_ldc2 (v := 2000000000) hx hb hown (hw _ mw_9_46) dX12_isSeed_3 ?_
  refine cGoI (wo := fun u => ([] : List va_W)) (cRunS (As := [.long p1.toInt64, .long 0, .long 2000000000]) (rest := []) ⟨hx, hb, hml, hown, hw⟩ hK hN hP hD [] rfl rfl (k_X12_in l D C _    p1.toInt64 0 2000000000 h) (va_cwS 3 hw (goodS mw_6_205 mw_6_206 mw_1_13 mw_6_207) rfl rfl rfl (by decide +kernel) ⟨Nat.le_of_ble_eq_true rfl, Nat.le_of_ble_eq_true rfl⟩) rfl hl.1 rfl (Nat.le_of_ble_eq_true rfl) dX12_isSeed_6 ⟨Nat.zero_le _, Nat.zero_le _⟩) hP hD hS hA [] [] [] rfl rfl rfl (by decide) rfl (fun _ => rfl) (fun r1 u H locs h hP hD hS => ?_)
  have hP : va_P D vwCl (List.flatten (([] : List va_W))) H := hP
  have hD : va_D A (List.flatten (([] : List va_W))) := hD
  rw [← hQ]
  exact cRetZ (v := r1) () hx hb hr hlocks hS hP hD h.1 h.2 dX12_isSeed_9
abbrev vsX12_run : List Cond := Cond.code yX12_run cX12_run 2 (some .int) :: WS
abbrev rmX12_run : Room := { frames := 6, cells := 0, slots := 0, locals := 141 }
set_option maxHeartbeats 4000000 in
set_option maxRecDepth 100000 in
theorem k_X12_run (l : Launch) (D : va_G) (C : Nat → ClassId) (sz : Nat) (aM : Nat → Nat)  (ms : Nat → Int32) (mw : Nat → Int64) (ma : Nat → Nat → Int32) (ml : Nat → Nat → Int64) (p1 : Int32) {post : Int32 → (Nat → Int32) → (Nat → Int64) → (Nat → Nat → Int32) → Prop} (h : P_X12_run ms mw ma p1 post) : Met l yX12_run vsX12_run rmX12_run (cPre D C [.ref (aM 0), .int p1] sz (wM aM C ms mw ma ml)) (cQi D (fun (r : Int32) (u : (Nat → Int32) × (Nat → Int64) × (Nat → Nat → Int32)) => post r u.1 u.2.1 u.2.2) (fun u => wM aM C u.1 u.2.1 u.2.2 ml) (va_A (List.flatten (wM aM C ms mw ma ml)) sz)) 0 0 (va_A (List.flatten (wM aM C ms mw ma ml)) sz) := by
  refine cStart (QA := fun A => cQi D (fun (r : Int32) (u : (Nat → Int32) × (Nat → Int64) × (Nat → Nat → Int32)) => post r u.1 u.2.1 u.2.2) (fun u => wM aM C u.1 u.2.1 u.2.2 ml) A) (cc := cX12_run) (maxL := 2) (ret := (some .int)) (by decide) (Nat.le_of_ble_eq_true rfl) ?_
  intro p e s m args below meth c A ls hx hb hr hml hown hw hlocks hname hK hN hA hP hD hS hl
  generalize hQ : MQ below _ args s 0 0 A = Q
  have hl : lv_has ls 2 [(0, .ref (aM 0)), (1, .int p1)] := hl
  obtain ⟨H, hH⟩ : ∃ H, H = s.heap := ⟨_, rfl⟩
  obtain ⟨locs, hlo⟩ : ∃ z : List Loc, z = [] := ⟨_, rfl⟩
  have hP : va_P D vwCl (List.flatten (wM aM C ms mw ma ml)) H := by rw [hH]; exact hP
  have hS : va_S A s.heap H locs := by rw [hH, hlo]; exact hS
  rw [show W p l e rmX12_run s m args below meth c s.heap [] 0 0 Q (F0 m 0 ls []) = W p l e rmX12_run s m args below meth c H locs 0 0 Q (F0 m 0 ls []) from by rw [hH, hlo]]
  refine lv_aload_n hx hb dX12_run_0 rfl (lv_at hl 0 rfl) ?_
  refine lv_iconst (v := 0) hx hb dX12_run_1 (by decide) ?_
  refine va_put (D := D) (ci := 12) (v := .int 0) (ty := .int) (C := RX12) (T := TX12) (N := 51) hx hb hw inW_X12 tyX12 tyX12_ok nmX12 hown hK hP hD hS 0 rfl rfl 0 (by decide) (hw _ mw_6_43) (fun _ h9 => h9) rfl (by decide +kernel) rfl rfl (Nat.le_of_ble_eq_true rfl) dX12_run_2 (fun H locs hP hD hS => ?_)
  refine lv_iload_n hx hb dX12_run_5 rfl (lv_at hl 1 rfl) ?_
  have hP : va_P D vwCl (List.flatten (wM aM C (va_up ms 0 0) mw ma ml)) H := hP
  have hD : va_D A (List.flatten (wM aM C (va_up ms 0 0) mw ma ml)) := hD
  refine cGoI (wo := fun u => wM aM C (va_up ms 0 0) mw ma ml) (cRunS (As := [.int p1]) (rest := []) ⟨hx, hb, hml, hown, hw⟩ hK hN hP hD [] rfl rfl (k_X12_isSeed l D C _    p1 h) (va_cwS 1 hw (goodS mw_9_43 mw_9_44 mw_1_13 mw_9_45) rfl rfl rfl (by decide +kernel) ⟨Nat.le_of_ble_eq_true rfl, Nat.le_of_ble_eq_true rfl⟩) rfl hl.1 rfl (Nat.le_of_ble_eq_true rfl) dX12_run_6 ⟨Nat.zero_le _, Nat.zero_le _⟩) hP hD hS hA [] [0, 1, 2, 3, 4, 5, 6, 7, 8, 9, 10, 11, 12, 13, 14, 15, 16, 17, 18, 19, 20, 21, 22, 23, 24, 25, 26, 27, 28, 29, 30, 31, 32] [0, 1, 2, 3, 4, 5, 6, 7, 8, 9, 10, 11, 12, 13, 14, 15, 16, 17, 18, 19, 20, 21, 22, 23, 24, 25, 26, 27, 28, 29, 30, 31, 32] rfl rfl rfl (by decide) rfl (fun _ => rfl) (fun r1 u H locs h hP hD hS => ?_)
  have hP : va_P D vwCl (List.flatten (wM aM C (va_up ms 0 0) mw ma ml)) H := hP
  have hD : va_D A (List.flatten (wM aM C (va_up ms 0 0) mw ma ml)) := hD
  refine lv_if_eq (tgt := 19) hx hb dX12_run_9 (by decide) (fun c2 => ?_) (fun c2 => ?_)
  · have h := h.1 c2
    refine lv_bipush (v := (-2)) hx hb dX12_run_19 (by decide) ?_
    rw [← hQ]
    exact cRetI (v := (-2)) ((va_up ms 0 0), mw, ma) hx hb hr hlocks hS hP hD h dX12_run_21
  · have h := h.2 c2
    refine lv_aload_n hx hb dX12_run_12 rfl (lv_at hl 0 rfl) ?_
    refine cGoI (wo := fun u => wM aM C (va_up ms 0 0) mw ma ml) (cRunV (As := []) (rest := []) ⟨hx, hb, hml, hown, hw⟩ hK hN hP hD [0, 1, 2, 3, 4, 5, 6, 7, 8, 9, 10, 11, 12, 13, 14, 15, 16, 17, 18, 19, 20, 21, 22, 23, 24, 25, 26, 27, 28, 29, 30, 31, 32] rfl rfl (k_X12_isRail l D C _ aM  (va_up ms 0 0) mw ma ml  h) (cwV 0 hw (goodV mw_7_204 mw_7_206 mw_s142 mw_1_13 mw_7_207) rfl rfl rfl (by decide +kernel) ⟨Nat.le_of_ble_eq_true rfl, Nat.le_of_ble_eq_true rfl⟩) rfl rfl rfl hl.1 rfl (Nat.le_of_ble_eq_true rfl) dX12_run_13 ⟨Nat.zero_le _, Nat.zero_le _⟩) hP hD hS hA [0, 1, 2, 3, 4, 5, 6, 7, 8, 9, 10, 11, 12, 13, 14, 15, 16, 17, 18, 19, 20, 21, 22, 23, 24, 25, 26, 27, 28, 29, 30, 31, 32] [] [0, 1, 2, 3, 4, 5, 6, 7, 8, 9, 10, 11, 12, 13, 14, 15, 16, 17, 18, 19, 20, 21, 22, 23, 24, 25, 26, 27, 28, 29, 30, 31, 32] rfl rfl rfl (by decide) rfl (fun _ => rfl) (fun r3 u H locs h hP hD hS => ?_)
    have hP : va_P D vwCl (List.flatten (wM aM C (va_up ms 0 0) mw ma ml)) H := hP
    have hD : va_D A (List.flatten (wM aM C (va_up ms 0 0) mw ma ml)) := hD
    refine lv_if_ne (tgt := 22) hx hb dX12_run_16 (by decide) (fun c4 => ?_) (fun c4 => ?_)
    · have h := h.1 c4
      refine lv_aload_n hx hb dX12_run_22 rfl (lv_at hl 0 rfl) ?_
      refine lv_iload_n hx hb dX12_run_23 rfl (lv_at hl 1 rfl) ?_
      refine lv_i2l hx hb dX12_run_24 rfl ?_
      refine cGoV (wo := fun u => wM aM C u.1 u.2.1 u.2.2 ml) (cRunV (As := [.long p1.toInt64]) (rest := []) ⟨hx, hb, hml, hown, hw⟩ hK hN hP hD [0, 1, 2, 3, 4, 5, 6, 7, 8, 9, 10, 11, 12, 13, 14, 15, 16, 17, 18, 19, 20, 21, 22, 23, 24, 25, 26, 27, 28, 29, 30, 31, 32] rfl rfl (k_X12_draws l D C _ aM  (va_up ms 0 0) mw ma ml p1.toInt64 h) (cwV 1 hw (goodV mw_9_47 mw_9_49 mw_s179 mw_1_13 mw_9_50) rfl rfl rfl (by decide +kernel) ⟨Nat.le_of_ble_eq_true rfl, Nat.le_of_ble_eq_true rfl⟩) rfl rfl rfl hl.1 rfl (Nat.le_of_ble_eq_true rfl) dX12_run_25 ⟨Nat.zero_le _, Nat.zero_le _⟩) hP hD hS hA [0, 1, 2, 3, 4, 5, 6, 7, 8, 9, 10, 11, 12, 13, 14, 15, 16, 17, 18, 19, 20, 21, 22, 23, 24, 25, 26, 27, 28, 29, 30, 31, 32] [] [0, 1, 2, 3, 4, 5, 6, 7, 8, 9, 10, 11, 12, 13, 14, 15, 16, 17, 18, 19, 20, 21, 22, 23, 24, 25, 26, 27, 28, 29, 30, 31, 32] rfl rfl rfl (by decide) rfl (fun _ => rfl) (fun u H locs h hP hD hS => ?_)
      obtain ⟨ms_5, mw_6, ma_7⟩ := u
      have hP : va_P D vwCl (List.flatten (wM aM C ms_5 mw_6 ma_7 ml)) H := hP
      have hD : va_D A (List.flatten (wM aM C ms_5 mw_6 ma_7 ml)) := hD
      refine lv_aload_n hx hb dX12_run_28 rfl (lv_at hl 0 rfl) ?_
      refine cGoI (wo := fun u => wM aM C ms_5 mw_6 u ml) (cRunV (As := []) (rest := []) ⟨hx, hb, hml, hown, hw⟩ hK hN hP hD [0, 1, 2, 3, 4, 5, 6, 7, 8, 9, 10, 11, 12, 13, 14, 15, 16, 17, 18, 19, 20, 21, 22, 23, 24, 25, 26, 27, 28, 29, 30, 31, 32] rfl rfl (k_X12_tellsYear l D C _ aM  ms_5 mw_6 ma_7 ml  h) (cwV 0 hw (goodV mw_9_67 mw_9_69 mw_s183 mw_1_13 mw_9_70) rfl rfl rfl (by decide +kernel) ⟨Nat.le_of_ble_eq_true rfl, Nat.le_of_ble_eq_true rfl⟩) rfl rfl rfl hl.1 rfl (Nat.le_of_ble_eq_true rfl) dX12_run_29 ⟨Nat.zero_le _, Nat.zero_le _⟩) hP hD hS hA [0, 1, 2, 3, 4, 5, 6, 7, 8, 9, 10, 11, 12, 13, 14, 15, 16, 17, 18, 19, 20, 21, 22, 23, 24, 25, 26, 27, 28, 29, 30, 31, 32] [] [0, 1, 2, 3, 4, 5, 6, 7, 8, 9, 10, 11, 12, 13, 14, 15, 16, 17, 18, 19, 20, 21, 22, 23, 24, 25, 26, 27, 28, 29, 30, 31, 32] rfl rfl rfl (by decide) rfl (fun _ => rfl) (fun r9 ma_8 H locs h hP hD hS => ?_)
      have hP : va_P D vwCl (List.flatten (wM aM C ms_5 mw_6 ma_8 ml)) H := hP
      have hD : va_D A (List.flatten (wM aM C ms_5 mw_6 ma_8 ml)) := hD
      rw [← hQ]
      exact cRetI (v := r9) (ms_5, mw_6, ma_8) hx hb hr hlocks hS hP hD h dX12_run_32
    · have h := h.2 c4
      refine lv_bipush (v := (-2)) hx hb dX12_run_19 (by decide) ?_
      rw [← hQ]
      exact cRetI (v := (-2)) ((va_up ms 0 0), mw, ma) hx hb hr hlocks hS hP hD h dX12_run_21
