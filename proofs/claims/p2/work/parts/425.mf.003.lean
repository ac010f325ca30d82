abbrev vsX12_caught : List Cond := Cond.code yX12_caught cX12_caught 9 (some .long) :: WS
abbrev rmX12_caught : Room := { frames := 5, cells := 0, slots := 0, locals := 124 }
set_option maxHeartbeats 4000000 in
set_option maxRecDepth 100000 in
theorem k_X12_caught (l : Launch) (D : va_G) (C : Nat → ClassId) (sz : Nat) (aM : Nat → Nat)  (ms : Nat → Int32) (mw : Nat → Int64) (ma : Nat → Nat → Int32) (ml : Nat → Nat → Int64) (p1 : Int32) (p2 : Int32) (p3 : Int32) (p4 : Int32) {post : Int64 → (Nat → Int32) → (Nat → Int64) → (Nat → Nat → Int32) → (Nat → Nat → Int64) → Prop} (h : P_X12_caught ms mw ma ml p1 p2 p3 p4 post) : Met l yX12_caught vsX12_caught rmX12_caught (cPre D C [.ref (aM 0), .int p1, .int p2, .int p3, .int p4] sz (wM aM C ms mw ma ml)) (cQl D (fun (r : Int64) (u : (Nat → Int32) × (Nat → Int64) × (Nat → Nat → Int32) × (Nat → Nat → Int64)) => post r u.1 u.2.1 u.2.2.1 u.2.2.2) (fun u => wM aM C u.1 u.2.1 u.2.2.1 u.2.2.2) (va_A (List.flatten (wM aM C ms mw ma ml)) sz)) 0 0 (va_A (List.flatten (wM aM C ms mw ma ml)) sz) := by
  refine cStart (QA := fun A => cQl D (fun (r : Int64) (u : (Nat → Int32) × (Nat → Int64) × (Nat → Nat → Int32) × (Nat → Nat → Int64)) => post r u.1 u.2.1 u.2.2.1 u.2.2.2) (fun u => wM aM C u.1 u.2.1 u.2.2.1 u.2.2.2) A) (cc := cX12_caught) (maxL := 9) (ret := (some .long)) (by decide) (Nat.le_of_ble_eq_true rfl) ?_
  intro p e s m args below meth c A ls hx hb hr hml hown hw hlocks hname hK hN hA hP hD hS hl
  generalize hQ : MQ below _ args s 0 0 A = Q
  have hl : lv_has ls 9 [(0, .ref (aM 0)), (1, .int p1), (2, .int p2), (3, .int p3), (4, .int p4)] := hl
  obtain ⟨H, hH⟩ : ∃ H, H = s.heap := ⟨_, rfl⟩
  obtain ⟨locs, hlo⟩ : ∃ z : List Loc, z = [] := ⟨_, rfl⟩
  have hP : va_P D vwCl (List.flatten (wM aM C ms mw ma ml)) H := by rw [hH]; exact hP
  have hS : va_S A s.heap H locs := by rw [hH, hlo]; exact hS
  rw [show W p l e rmX12_caught s m args below meth c s.heap [] 0 0 Q (F0 m 0 ls []) = W p l e rmX12_caught s m args below meth c H locs 0 0 Q (F0 m 0 ls []) from by rw [hH, hlo]]
  have N50 : ∀ (ms : Nat → Int32) (mw : Nat → Int64) (ma : Nat → Nat → Int32) (ml : Nat → Nat → Int64) (n50 : Nat) (x6_ : Int64) (x8_ : Int32) (H : Heap) (locs : List Loc) (ls : Array Slot), P_X12_caught_50 p1 p2 p3 p4 post  ms mw ma ml n50 x6_ x8_ → va_P D vwCl (List.flatten (wM aM C ms mw ma ml)) H → va_D A (List.flatten (wM aM C ms mw ma ml)) → va_S A s.heap H locs → lv_has ls 9 [(0, .ref (aM 0)), (1, .int p1), (6, .long x6_), (8, .int x8_)] → W p l e rmX12_caught s m args below meth c H locs 0 0 Q (F0 m 50 ls []) := by
    intro ms mw ma ml
    intro n50
    induction n50 with
    | zero => intro x6_ x8_ H locs ls h hP hD hS hl; exact False.elim h
    | succ n50 ih50 =>
      intro x6_ x8_ H locs ls h hP hD hS hl
      refine lv_iload hx hb dX12_caught_50 (lv_at hl 3 rfl) ?_
      refine lv_iconst (v := 1) hx hb dX12_caught_52 (by decide) ?_
      refine lv_aload_n hx hb dX12_caught_53 rfl (lv_at hl 0 rfl) ?_
      refine va_get (D := D) (ci := 12) (v := .ref (aM 15)) (C := RX12) (T := TX12) (N := 51) hx hb hw inW_X12 hown hK hP 0 rfl rfl 25 (by decide) (hw _ mw_6_68) (fun _ h9 => h9) rfl dX12_caught_54 ?_
      refine lv_iconst (v := 0) hx hb dX12_caught_57 (by decide) ?_
      refine cIald hx hb hK hP 15 0 rfl rfl 0 (by decide +kernel) (cIn (by decide +kernel)) dX12_caught_58 ?_
      refine lv_ishl hx hb dX12_caught_59 ?_
      refine lv_icmp_ge (tgt := 95) hx hb dX12_caught_60 (by decide) (fun c1 => ?_) (fun c1 => ?_)
      · have h := h.1 c1
        refine lv_lload hx hb dX12_caught_95 (lv_at hl 2 rfl) ?_
        rw [← hQ]
        exact cRetL (v := x6_) (ms, mw, ma, ml) hx hb hr hlocks hS hP hD h dX12_caught_97
      · have h := h.2 c1
        refine lv_lload hx hb dX12_caught_63 (lv_at hl 2 rfl) ?_
        refine lv_iload hx hb dX12_caught_65 (lv_at hl 3 rfl) ?_
        refine lv_iload_n hx hb dX12_caught_67 rfl (lv_at hl 1 rfl) ?_
        refine lv_ishr hx hb dX12_caught_68 ?_
        refine lv_iconst (v := 1) hx hb dX12_caught_69 (by decide) ?_
        refine lv_iand hx hb dX12_caught_70 ?_
        refine lv_iconst (v := 1) hx hb dX12_caught_71 (by decide) ?_
        refine lv_icmp_ne (tgt := 85) hx hb dX12_caught_72 (by decide) (fun c2 => ?_) (fun c2 => ?_)
        · have h := h.1 c2
          refine lv_lconst (v := 0) hx hb dX12_caught_85 (by decide) ?_
          refine lv_ladd hx hb dX12_caught_86 ?_
          refine lv_topl (fun x3 ex3 => ?_)
          have h := h x3 ex3
          refine lv_lstore (lv' := [(6, .long x3), (0, .ref (aM 0)), (1, .int p1), (8, .int x8_)]) hx hb dX12_caught_87 hl (by decide) rfl (fun ls hl => ?_)
          refine lv_iinc (v := (x8_ + 1)) (lv' := [(8, .int (x8_ + 1)), (6, .long x3), (0, .ref (aM 0)), (1, .int p1)]) hx hb dX12_caught_89 hl (k := 3) rfl rfl (by decide) rfl (fun ls hl => ?_)
          refine lv_goto (tgt := 50) hx hb dX12_caught_92 (by decide) ?_
          exact ih50 x3 (x8_ + 1) _ _ _ h hP hD hS (lv_sub hl [2, 3, 1, 0] rfl)
        · have h := h.2 c2
          refine lv_aload_n hx hb dX12_caught_75 rfl (lv_at hl 0 rfl) ?_
          refine va_get (D := D) (ci := 12) (v := .ref (aM 31)) (C := RX12) (T := TX12) (N := 51) hx hb hw inW_X12 hown hK hP 0 rfl rfl 46 (by decide) (hw _ mw_6_89) (fun _ h9 => h9) rfl dX12_caught_76 ?_
          refine lv_iload hx hb dX12_caught_79 (lv_at hl 3 rfl) ?_
          refine cLald hx hb hK hP 31 1 rfl rfl x8_.toNatClampNeg rfl h.1 dX12_caught_81 ?_
          have h := h.2
          refine lv_goto (tgt := 86) hx hb dX12_caught_82 (by decide) ?_
          refine lv_ladd hx hb dX12_caught_86 ?_
          refine lv_topl (fun x4 ex4 => ?_)
          have h := h x4 ex4
          refine lv_lstore (lv' := [(6, .long x4), (0, .ref (aM 0)), (1, .int p1), (8, .int x8_)]) hx hb dX12_caught_87 hl (by decide) rfl (fun ls hl => ?_)
          refine lv_iinc (v := (x8_ + 1)) (lv' := [(8, .int (x8_ + 1)), (6, .long x4), (0, .ref (aM 0)), (1, .int p1)]) hx hb dX12_caught_89 hl (k := 3) rfl rfl (by decide) rfl (fun ls hl => ?_)
          refine lv_goto (tgt := 50) hx hb dX12_caught_92 (by decide) ?_
          exact ih50 x4 (x8_ + 1) _ _ _ h hP hD hS (lv_sub hl [2, 3, 1, 0] rfl)
  refine lv_aload_n hx hb dX12_caught_0 rfl (lv_at hl 0 rfl) ?_
  refine lv_iconst (v := 0) hx hb dX12_caught_1 (by decide) ?_
  refine va_put (D := D) (ci := 12) (v := .int 0) (ty := .int) (C := RX12) (T := TX12) (N := 51) hx hb hw inW_X12 tyX12 tyX12_ok nmX12 hown hK hP hD hS 0 rfl rfl 0 (by decide) (hw _ mw_6_43) (fun _ h9 => h9) rfl (by decide +kernel) rfl rfl (Nat.le_of_ble_eq_true rfl) dX12_caught_2 (fun H locs hP hD hS => ?_)
  refine lv_aload_n hx hb dX12_caught_5 rfl (lv_at hl 0 rfl) ?_
  refine lv_iload_n hx hb dX12_caught_6 rfl (lv_at hl 1 rfl) ?_
  have hP : va_P D vwCl (List.flatten (wM aM C (va_up ms 0 0) mw ma ml)) H := hP
  have hD : va_D A (List.flatten (wM aM C (va_up ms 0 0) mw ma ml)) := hD
  refine cGoI (wo := fun u => wM aM C (va_up ms 0 0) mw ma ml) (cRunV (As := [.int p1]) (rest := []) ⟨hx, hb, hml, hown, hw⟩ hK hN hP hD [0, 1, 2, 3, 4, 5, 6, 7, 8, 9, 10, 11, 12, 13, 14, 15, 16, 17, 18, 19, 20, 21, 22, 23, 24, 25, 26, 27, 28, 29, 30, 31, 32] rfl rfl (k_X12_isThief l D C _ aM  (va_up ms 0 0) mw ma ml p1 h) (cwV 1 hw (goodV mw_7_155 mw_7_157 mw_s134 mw_1_13 mw_7_158) rfl rfl rfl (by decide +kernel) ⟨Nat.le_of_ble_eq_true rfl, Nat.le_of_ble_eq_true rfl⟩) rfl rfl rfl hl.1 rfl (Nat.le_of_ble_eq_true rfl) dX12_caught_7 ⟨Nat.zero_le _, Nat.zero_le _⟩) hP hD hS hA [0, 1, 2, 3, 4, 5, 6, 7, 8, 9, 10, 11, 12, 13, 14, 15, 16, 17, 18, 19, 20, 21, 22, 23, 24, 25, 26, 27, 28, 29, 30, 31, 32] [] [0, 1, 2, 3, 4, 5, 6, 7, 8, 9, 10, 11, 12, 13, 14, 15, 16, 17, 18, 19, 20, 21, 22, 23, 24, 25, 26, 27, 28, 29, 30, 31, 32] rfl rfl rfl (by decide) rfl (fun _ => rfl) (fun r5 u H locs h hP hD hS => ?_)
  have hP : va_P D vwCl (List.flatten (wM aM C (va_up ms 0 0) mw ma ml)) H := hP
  have hD : va_D A (List.flatten (wM aM C (va_up ms 0 0) mw ma ml)) := hD
  refine lv_if_ne (tgt := 17) hx hb dX12_caught_10 (by decide) (fun c6 => ?_) (fun c6 => ?_)
  · have h := h.1 c6
    refine lv_aload_n hx hb dX12_caught_17 rfl (lv_at hl 0 rfl) ?_
    refine lv_iload_n hx hb dX12_caught_18 rfl (lv_at hl 2 rfl) ?_
    refine lv_iload_n hx hb dX12_caught_19 rfl (lv_at hl 3 rfl) ?_
    refine lv_iload hx hb dX12_caught_20 (lv_at hl 4 rfl) ?_
    refine cGoI (wo := fun u => wM aM C (va_up ms 0 0) mw ma ml) (cRunV (As := [.int p2, .int p3, .int p4]) (rest := []) ⟨hx, hb, hml, hown, hw⟩ hK hN hP hD [0, 1, 2, 3, 4, 5, 6, 7, 8, 9, 10, 11, 12, 13, 14, 15, 16, 17, 18, 19, 20, 21, 22, 23, 24, 25, 26, 27, 28, 29, 30, 31, 32] rfl rfl (k_X12_whyNot l D C _ aM  (va_up ms 0 0) mw ma ml p2 p3 p4 h) (cwV 3 hw (goodV mw_8_219 mw_8_221 mw_s172 mw_1_13 mw_8_222) rfl rfl rfl (by decide +kernel) ⟨Nat.le_of_ble_eq_true rfl, Nat.le_of_ble_eq_true rfl⟩) rfl rfl rfl hl.1 rfl (Nat.le_of_ble_eq_true rfl) dX12_caught_22 ⟨Nat.zero_le _, Nat.zero_le _⟩) hP hD hS hA [0, 1, 2, 3, 4, 5, 6, 7, 8, 9, 10, 11, 12, 13, 14, 15, 16, 17, 18, 19, 20, 21, 22, 23, 24, 25, 26, 27, 28, 29, 30, 31, 32] [] [0, 1, 2, 3, 4, 5, 6, 7, 8, 9, 10, 11, 12, 13, 14, 15, 16, 17, 18, 19, 20, 21, 22, 23, 24, 25, 26, 27, 28, 29, 30, 31, 32] rfl rfl rfl (by decide) rfl (fun _ => rfl) (fun r7 u H locs h hP hD hS => ?_)
    have hP : va_P D vwCl (List.flatten (wM aM C (va_up ms 0 0) mw ma ml)) H := hP
    have hD : va_D A (List.flatten (wM aM C (va_up ms 0 0) mw ma ml)) := hD
    refine lv_istore (lv' := [(5, .int r7), (0, .ref (aM 0)), (1, .int p1), (2, .int p2), (3, .int p3), (4, .int p4)]) hx hb dX12_caught_25 hl (by decide) rfl (fun ls hl => ?_)
    refine lv_iload hx hb dX12_caught_27 (lv_at hl 0 rfl) ?_
    refine lv_if_eq (tgt := 36) hx hb dX12_caught_29 (by decide) (fun c8 => ?_) (fun c8 => ?_)
    · have h := h.1 c8
      refine lv_aload_n hx hb dX12_caught_36 rfl (lv_at hl 1 rfl) ?_
      refine lv_iload_n hx hb dX12_caught_37 rfl (lv_at hl 3 rfl) ?_
      refine lv_iload_n hx hb dX12_caught_38 rfl (lv_at hl 4 rfl) ?_
      refine lv_iload hx hb dX12_caught_39 (lv_at hl 5 rfl) ?_
      refine cGoV (wo := fun u => wM aM C u.1 u.2.1 u.2.2.1 u.2.2.2) (cRunV (As := [.int p2, .int p3, .int p4]) (rest := []) ⟨hx, hb, hml, hown, hw⟩ hK hN hP hD [0, 1, 2, 3, 4, 5, 6, 7, 8, 9, 10, 11, 12, 13, 14, 15, 16, 17, 18, 19, 20, 21, 22, 23, 24, 25, 26, 27, 28, 29, 30, 31, 32] rfl rfl (k_X12_baits l D C _ aM  (va_up ms 0 0) mw ma ml p2 p3 p4 h) (cwV 3 hw (goodV mw_8_224 mw_8_226 mw_s173 mw_1_13 mw_8_227) rfl rfl rfl (by decide +kernel) ⟨Nat.le_of_ble_eq_true rfl, Nat.le_of_ble_eq_true rfl⟩) rfl rfl rfl hl.1 rfl (Nat.le_of_ble_eq_true rfl) dX12_caught_41 ⟨Nat.zero_le _, Nat.zero_le _⟩) hP hD hS hA [0, 1, 2, 3, 4, 5, 6, 7, 8, 9, 10, 11, 12, 13, 14, 15, 16, 17, 18, 19, 20, 21, 22, 23, 24, 25, 26, 27, 28, 29, 30, 31, 32] [] [0, 1, 2, 3, 4, 5, 6, 7, 8, 9, 10, 11, 12, 13, 14, 15, 16, 17, 18, 19, 20, 21, 22, 23, 24, 25, 26, 27, 28, 29, 30, 31, 32] rfl rfl rfl (by decide) rfl (fun _ => rfl) (fun u H locs h hP hD hS => ?_)
      obtain ⟨ms_9, mw_10, ma_11, ml_12⟩ := u
      have hP : va_P D vwCl (List.flatten (wM aM C ms_9 mw_10 ma_11 ml_12)) H := hP
      have hD : va_D A (List.flatten (wM aM C ms_9 mw_10 ma_11 ml_12)) := hD
      refine lv_lconst (v := 0) hx hb dX12_caught_44 (by decide) ?_
      refine lv_lstore (lv' := [(6, .long 0), (5, .int r7), (0, .ref (aM 0)), (1, .int p1), (2, .int p2), (3, .int p3), (4, .int p4)]) hx hb dX12_caught_45 hl (by decide) rfl (fun ls hl => ?_)
      refine lv_iconst (v := 0) hx hb dX12_caught_47 (by decide) ?_
      refine lv_istore (lv' := [(8, .int 0), (6, .long 0), (5, .int r7), (0, .ref (aM 0)), (1, .int p1), (2, .int p2), (3, .int p3), (4, .int p4)]) hx hb dX12_caught_48 hl (by decide) rfl (fun ls hl => ?_)
      obtain ⟨n, h⟩ := h
      exact N50 ms_9 mw_10 ma_11 ml_12 n 0 0 _ _ _ h hP hD hS (lv_sub hl [3, 4, 1, 0] rfl)
    · have h := h.2 c8
      refine lv_iload hx hb dX12_caught_32 (lv_at hl 0 rfl) ?_
      refine lv_i2l hx hb dX12_caught_34 rfl ?_
      rw [← hQ]
      exact cRetL (v := r7.toInt64) ((va_up ms 0 0), mw, ma, ml) hx hb hr hlocks hS hP hD h dX12_caught_35
  · have h := h.2 c6
    refine lv_ldc2 (v := (-2)) hx hb hown (hw _ mw_7_208) dX12_caught_13 ?_
    rw [← hQ]
    exact cRetL (v := (-2)) ((va_up ms 0 0), mw, ma, ml) hx hb hr hlocks hS hP hD h dX12_caught_16
abbrev vsX12_lures : List Cond := Cond.code yX12_lures cX12_lures 5 (some .int) :: WS
abbrev rmX12_lures : Room := { frames := 4, cells := 0, slots := 0, locals := 95 }
set_option maxHeartbeats 4000000 in
set_option maxRecDepth 100000 in
theorem k_X12_lures (l : Launch) (D : va_G) (C : Nat → ClassId) (sz : Nat) (aM : Nat → Nat)  (ms : Nat → Int32) (mw : Nat → Int64) (ma : Nat → Nat → Int32) (ml : Nat → Nat → Int64) (p1 : Int32) {post : Int32 → (Nat → Int32) → (Nat → Nat → Int32) → Prop} (h : P_X12_lures ms ma p1 post) : Met l yX12_lures vsX12_lures rmX12_lures (cPre D C [.ref (aM 0), .int p1] sz (wM aM C ms mw ma ml)) (cQi D (fun (r : Int32) (u : (Nat → Int32) × (Nat → Nat → Int32)) => post r u.1 u.2) (fun u => wM aM C u.1 mw u.2 ml) (va_A (List.flatten (wM aM C ms mw ma ml)) sz)) 0 0 (va_A (List.flatten (wM aM C ms mw ma ml)) sz) := by
  refine cStart (QA := fun A => cQi D (fun (r : Int32) (u : (Nat → Int32) × (Nat → Nat → Int32)) => post r u.1 u.2) (fun u => wM aM C u.1 mw u.2 ml) A) (cc := cX12_lures) (maxL := 5) (ret := (some .int)) (by decide) (Nat.le_of_ble_eq_true rfl) ?_
  intro p e s m args below meth c A ls hx hb hr hml hown hw hlocks hname hK hN hA hP hD hS hl
  generalize hQ : MQ below _ args s 0 0 A = Q
  have hl : lv_has ls 5 [(0, .ref (aM 0)), (1, .int p1)] := hl
  obtain ⟨H, hH⟩ : ∃ H, H = s.heap := ⟨_, rfl⟩
  obtain ⟨locs, hlo⟩ : ∃ z : List Loc, z = [] := ⟨_, rfl⟩
  have hP : va_P D vwCl (List.flatten (wM aM C ms mw ma ml)) H := by rw [hH]; exact hP
  have hS : va_S A s.heap H locs := by rw [hH, hlo]; exact hS
  rw [show W p l e rmX12_lures s m args below meth c s.heap [] 0 0 Q (F0 m 0 ls []) = W p l e rmX12_lures s m args below meth c H locs 0 0 Q (F0 m 0 ls []) from by rw [hH, hlo]]
  have N26 : ∀ (ms : Nat → Int32) (n26 : Nat) (x3_ : Int32) (ma : Nat → Nat → Int32) (H : Heap) (locs : List Loc) (ls : Array Slot), P_X12_lures_26 p1 post  ms n26 x3_ ma → va_P D vwCl (List.flatten (wM aM C ms mw ma ml)) H → va_D A (List.flatten (wM aM C ms mw ma ml)) → va_S A s.heap H locs → lv_has ls 5 [(0, .ref (aM 0)), (3, .int x3_)] → W p l e rmX12_lures s m args below meth c H locs 0 0 Q (F0 m 26 ls []) := by
    intro ms
    intro n26
    induction n26 with
    | zero => intro x3_ ma H locs ls h hP hD hS hl; exact False.elim h
    | succ n26 ih26 =>
      have N36 : ∀ (x3_ : Int32) (n36 : Nat) (x4_ : Int32) (ma : Nat → Nat → Int32) (H : Heap) (locs : List Loc) (ls : Array Slot), P_X12_lures_36 p1 ms post (P_X12_lures_26 p1 post  ms n26) x3_ n36 x4_ ma → va_P D vwCl (List.flatten (wM aM C ms mw ma ml)) H → va_D A (List.flatten (wM aM C ms mw ma ml)) → va_S A s.heap H locs → lv_has ls 5 [(0, .ref (aM 0)), (3, .int x3_), (4, .int x4_)] → W p l e rmX12_lures s m args below meth c H locs 0 0 Q (F0 m 36 ls []) := by
        intro x3_
        intro n36
        induction n36 with
        | zero => intro x4_ ma H locs ls h hP hD hS hl; exact False.elim h
        | succ n36 ih36 =>
          intro x4_ ma H locs ls h hP hD hS hl
          refine lv_iload hx hb dX12_lures_36 (lv_at hl 2 rfl) ?_
          refine lv_aload_n hx hb dX12_lures_38 rfl (lv_at hl 0 rfl) ?_
          refine va_get (D := D) (ci := 12) (v := .ref (aM 15)) (C := RX12) (T := TX12) (N := 51) hx hb hw inW_X12 hown hK hP 0 rfl rfl 25 (by decide) (hw _ mw_6_68) (fun _ h9 => h9) rfl dX12_lures_39 ?_
          refine lv_iconst (v := 0) hx hb dX12_lures_42 (by decide) ?_
          refine cIald hx hb hK hP 15 0 rfl rfl 0 (by decide +kernel) (cIn (by decide +kernel)) dX12_lures_43 ?_
          refine lv_icmp_ge (tgt := 89) hx hb dX12_lures_44 (by decide) (fun c1 => ?_) (fun c1 => ?_)
          · have h := h.1 c1
            refine lv_iinc (v := (x3_ + 1)) (lv' := [(3, .int (x3_ + 1)), (0, .ref (aM 0)), (4, .int x4_)]) hx hb dX12_lures_89 hl (k := 1) rfl rfl (by decide) rfl (fun ls hl => ?_)
            refine lv_goto (tgt := 26) hx hb dX12_lures_92 (by decide) ?_
            exact ih26 (x3_ + 1) ma _ _ _ h hP hD hS (lv_sub hl [1, 0] rfl)
          · have h := h.2 c1
            refine lv_aload_n hx hb dX12_lures_47 rfl (lv_at hl 0 rfl) ?_
            refine va_get (D := D) (ci := 12) (v := .ref (aM 22)) (C := RX12) (T := TX12) (N := 51) hx hb hw inW_X12 hown hK hP 0 rfl rfl 34 (by decide) (hw _ mw_6_77) (fun _ h9 => h9) rfl dX12_lures_48 ?_
            refine lv_bipush (v := 11) hx hb dX12_lures_51 (by decide) ?_
            refine lv_iload hx hb dX12_lures_53 (lv_at hl 2 rfl) ?_
            refine lv_imul hx hb dX12_lures_55 ?_
            refine lv_aload_n hx hb dX12_lures_56 rfl (lv_at hl 0 rfl) ?_
            refine va_get (D := D) (ci := 12) (v := .ref (aM 13)) (C := RX12) (T := TX12) (N := 51) hx hb hw inW_X12 hown hK hP 0 rfl rfl 23 (by decide) (hw _ mw_6_66) (fun _ h9 => h9) rfl dX12_lures_57 ?_
            refine lv_iconst (v := 0) hx hb dX12_lures_60 (by decide) ?_
            refine cIald hx hb hK hP 13 0 rfl rfl 0 (by decide +kernel) (cIn (by decide +kernel)) dX12_lures_61 ?_
            refine lv_iadd hx hb dX12_lures_62 ?_
            refine lv_iload_n hx hb dX12_lures_63 rfl (lv_at hl 1 rfl) ?_
            refine cIast hx hb hK hP hD hS 22 0 rfl rfl (((11 * x4_) + (ma 10 0)).toNatClampNeg) rfl h.1 dX12_lures_64 (fun H locs hP hD hS => ?_)
            have h := h.2
            refine lv_aload_n hx hb dX12_lures_65 rfl (lv_at hl 0 rfl) ?_
            refine lv_iload hx hb dX12_lures_66 (lv_at hl 2 rfl) ?_
            refine lv_iconst (v := 0) hx hb dX12_lures_68 (by decide) ?_
            have hP : va_P D vwCl (List.flatten (wM aM C ms mw (va_up ma 19 (upd (ma 19) (((11 * x4_) + (ma 10 0)).toNatClampNeg) x3_)) ml)) H := hP
            have hD : va_D A (List.flatten (wM aM C ms mw (va_up ma 19 (upd (ma 19) (((11 * x4_) + (ma 10 0)).toNatClampNeg) x3_)) ml)) := hD
            refine cGoI (wo := fun u => wM aM C ms mw (va_up ma 19 (upd (ma 19) (((11 * x4_) + (ma 10 0)).toNatClampNeg) x3_)) ml) (cRunV (As := [.int x4_, .int 0]) (rest := []) ⟨hx, hb, hml, hown, hw⟩ hK hN hP hD [0, 1, 2, 3, 4, 5, 6, 7, 8, 9, 10, 11, 12, 13, 14, 15, 16, 17, 18, 19, 20, 21, 22, 23, 24, 25, 26, 27, 28, 29, 30, 31, 32] rfl rfl (k_X12_takesOf l D C _ aM  ms mw (va_up ma 19 (upd (ma 19) (((11 * x4_) + (ma 10 0)).toNatClampNeg) x3_)) ml x4_ 0 h) (cwV 2 hw (goodV mw_7_184 mw_7_186 mw_s139 mw_1_13 mw_7_187) rfl rfl rfl (by decide +kernel) ⟨Nat.le_of_ble_eq_true rfl, Nat.le_of_ble_eq_true rfl⟩) rfl rfl rfl hl.1 rfl (Nat.le_of_ble_eq_true rfl) dX12_lures_69 ⟨Nat.zero_le _, Nat.zero_le _⟩) hP hD hS hA [0, 1, 2, 3, 4, 5, 6, 7, 8, 9, 10, 11, 12, 13, 14, 15, 16, 17, 18, 19, 20, 21, 22, 23, 24, 25, 26, 27, 28, 29, 30, 31, 32] [] [0, 1, 2, 3, 4, 5, 6, 7, 8, 9, 10, 11, 12, 13, 14, 15, 16, 17, 18, 19, 20, 21, 22, 23, 24, 25, 26, 27, 28, 29, 30, 31, 32] rfl rfl rfl (by decide) rfl (fun _ => rfl) (fun r2 u H locs h hP hD hS => ?_)
            have hP : va_P D vwCl (List.flatten (wM aM C ms mw (va_up ma 19 (upd (ma 19) (((11 * x4_) + (ma 10 0)).toNatClampNeg) x3_)) ml)) H := hP
            have hD : va_D A (List.flatten (wM aM C ms mw (va_up ma 19 (upd (ma 19) (((11 * x4_) + (ma 10 0)).toNatClampNeg) x3_)) ml)) := hD
            refine lv_aload_n hx hb dX12_lures_72 rfl (lv_at hl 0 rfl) ?_
            refine va_get (D := D) (ci := 12) (v := .ref (aM 13)) (C := RX12) (T := TX12) (N := 51) hx hb hw inW_X12 hown hK hP 0 rfl rfl 23 (by decide) (hw _ mw_6_66) (fun _ h9 => h9) rfl dX12_lures_73 ?_
            refine lv_iconst (v := 0) hx hb dX12_lures_76 (by decide) ?_
            refine cIald hx hb hK hP 13 0 rfl rfl 0 (by decide +kernel) (cIn (by decide +kernel)) dX12_lures_77 ?_
            refine lv_icmp_ne (tgt := 83) hx hb dX12_lures_78 (by decide) (fun c3 => ?_) (fun c3 => ?_)
            · have h := h.1 c3
              refine lv_iinc (v := (x4_ + 1)) (lv' := [(4, .int (x4_ + 1)), (0, .ref (aM 0)), (3, .int x3_)]) hx hb dX12_lures_83 hl (k := 2) rfl rfl (by decide) rfl (fun ls hl => ?_)
              refine lv_goto (tgt := 36) hx hb dX12_lures_86 (by decide) ?_
              exact ih36 (x4_ + 1) (va_up ma 19 (upd (ma 19) (((11 * x4_) + (ma 10 0)).toNatClampNeg) x3_)) _ _ _ h hP hD hS (lv_sub hl [1, 2, 0] rfl)
            · have h := h.2 c3
              refine lv_iload_n hx hb dX12_lures_81 rfl (lv_at hl 1 rfl) ?_
              rw [← hQ]
              exact cRetI (v := x3_) (ms, (va_up ma 19 (upd (ma 19) (((11 * x4_) + (ma 10 0)).toNatClampNeg) x3_))) hx hb hr hlocks hS hP hD h dX12_lures_82
      intro x3_ ma H locs ls h hP hD hS hl
      refine lv_iload_n hx hb dX12_lures_26 rfl (lv_at hl 1 rfl) ?_
      refine lv_sipush (v := 9999) hx hb dX12_lures_27 (by decide) ?_
      refine lv_icmp_gt (tgt := 95) hx hb dX12_lures_30 (by decide) (fun c4 => ?_) (fun c4 => ?_)
      · have h := h.1 c4
        refine lv_iconst (v := (-1)) hx hb dX12_lures_95 (by decide) ?_
        rw [← hQ]
        exact cRetI (v := (-1)) (ms, ma) hx hb hr hlocks hS hP hD h dX12_lures_96
      · have h := h.2 c4
        refine lv_iconst (v := 0) hx hb dX12_lures_33 (by decide) ?_
        refine lv_istore (lv' := [(4, .int 0), (0, .ref (aM 0)), (3, .int x3_)]) hx hb dX12_lures_34 hl (by decide) rfl (fun ls hl => ?_)
        obtain ⟨n, h⟩ := h
        exact N36 x3_ n 0 ma _ _ _ h hP hD hS (lv_sub hl [1, 2, 0] rfl)
  refine lv_aload_n hx hb dX12_lures_0 rfl (lv_at hl 0 rfl) ?_
  refine lv_iconst (v := 0) hx hb dX12_lures_1 (by decide) ?_
  refine va_put (D := D) (ci := 12) (v := .int 0) (ty := .int) (C := RX12) (T := TX12) (N := 51) hx hb hw inW_X12 tyX12 tyX12_ok nmX12 hown hK hP hD hS 0 rfl rfl 0 (by decide) (hw _ mw_6_43) (fun _ h9 => h9) rfl (by decide +kernel) rfl rfl (Nat.le_of_ble_eq_true rfl) dX12_lures_2 (fun H locs hP hD hS => ?_)
  refine lv_aload_n hx hb dX12_lures_5 rfl (lv_at hl 0 rfl) ?_
  refine lv_iload_n hx hb dX12_lures_6 rfl (lv_at hl 1 rfl) ?_
  refine lv_iconst (v := 0) hx hb dX12_lures_7 (by decide) ?_
  refine lv_iconst (v := 0) hx hb dX12_lures_8 (by decide) ?_
  have hP : va_P D vwCl (List.flatten (wM aM C (va_up ms 0 0) mw ma ml)) H := hP
  have hD : va_D A (List.flatten (wM aM C (va_up ms 0 0) mw ma ml)) := hD
  refine cGoI (wo := fun u => wM aM C (va_up ms 0 0) mw ma ml) (cRunV (As := [.int p1, .int 0, .int 0]) (rest := []) ⟨hx, hb, hml, hown, hw⟩ hK hN hP hD [0, 1, 2, 3, 4, 5, 6, 7, 8, 9, 10, 11, 12, 13, 14, 15, 16, 17, 18, 19, 20, 21, 22, 23, 24, 25, 26, 27, 28, 29, 30, 31, 32] rfl rfl (k_X12_whyNot l D C _ aM  (va_up ms 0 0) mw ma ml p1 0 0 h) (cwV 3 hw (goodV mw_8_219 mw_8_221 mw_s172 mw_1_13 mw_8_222) rfl rfl rfl (by decide +kernel) ⟨Nat.le_of_ble_eq_true rfl, Nat.le_of_ble_eq_true rfl⟩) rfl rfl rfl hl.1 rfl (Nat.le_of_ble_eq_true rfl) dX12_lures_9 ⟨Nat.zero_le _, Nat.zero_le _⟩) hP hD hS hA [0, 1, 2, 3, 4, 5, 6, 7, 8, 9, 10, 11, 12, 13, 14, 15, 16, 17, 18, 19, 20, 21, 22, 23, 24, 25, 26, 27, 28, 29, 30, 31, 32] [] [0, 1, 2, 3, 4, 5, 6, 7, 8, 9, 10, 11, 12, 13, 14, 15, 16, 17, 18, 19, 20, 21, 22, 23, 24, 25, 26, 27, 28, 29, 30, 31, 32] rfl rfl rfl (by decide) rfl (fun _ => rfl) (fun r5 u H locs h hP hD hS => ?_)
  have hP : va_P D vwCl (List.flatten (wM aM C (va_up ms 0 0) mw ma ml)) H := hP
  have hD : va_D A (List.flatten (wM aM C (va_up ms 0 0) mw ma ml)) := hD
  refine lv_istore_n (lv' := [(2, .int r5), (0, .ref (aM 0)), (1, .int p1)]) hx hb dX12_lures_12 rfl hl (by decide) rfl (fun ls hl => ?_)
  refine lv_iload_n hx hb dX12_lures_13 rfl (lv_at hl 0 rfl) ?_
  refine lv_if_eq (tgt := 19) hx hb dX12_lures_14 (by decide) (fun c6 => ?_) (fun c6 => ?_)
  · have h := h.1 c6
    refine lv_aload_n hx hb dX12_lures_19 rfl (lv_at hl 1 rfl) ?_
    refine lv_iconst (v := 0) hx hb dX12_lures_20 (by decide) ?_
    refine cGoV (wo := fun u => wM aM C u.1 mw u.2 ml) (cRunV (As := [.int 0]) (rest := []) ⟨hx, hb, hml, hown, hw⟩ hK hN hP hD [0, 1, 2, 3, 4, 5, 6, 7, 8, 9, 10, 11, 12, 13, 14, 15, 16, 17, 18, 19, 20, 21, 22, 23, 24, 25, 26, 27, 28, 29, 30, 31, 32] rfl rfl (k_X12_lays l D C _ aM  (va_up ms 0 0) mw ma ml 0 h) (cwV 1 hw (goodV mw_7_180 mw_7_182 mw_s138 mw_1_13 mw_7_183) rfl rfl rfl (by decide +kernel) ⟨Nat.le_of_ble_eq_true rfl, Nat.le_of_ble_eq_true rfl⟩) rfl rfl rfl hl.1 rfl (Nat.le_of_ble_eq_true rfl) dX12_lures_21 ⟨Nat.zero_le _, Nat.zero_le _⟩) hP hD hS hA [0, 1, 2, 3, 4, 5, 6, 7, 8, 9, 10, 11, 12, 13, 14, 15, 16, 17, 18, 19, 20, 21, 22, 23, 24, 25, 26, 27, 28, 29, 30, 31, 32] [] [0, 1, 2, 3, 4, 5, 6, 7, 8, 9, 10, 11, 12, 13, 14, 15, 16, 17, 18, 19, 20, 21, 22, 23, 24, 25, 26, 27, 28, 29, 30, 31, 32] rfl rfl rfl (by decide) rfl (fun _ => rfl) (fun u H locs h hP hD hS => ?_)
    obtain ⟨ms_7, ma_8⟩ := u
    have hP : va_P D vwCl (List.flatten (wM aM C ms_7 mw ma_8 ml)) H := hP
    have hD : va_D A (List.flatten (wM aM C ms_7 mw ma_8 ml)) := hD
    refine lv_iconst (v := 0) hx hb dX12_lures_24 (by decide) ?_
    refine lv_istore_n (lv' := [(3, .int 0), (2, .int r5), (0, .ref (aM 0)), (1, .int p1)]) hx hb dX12_lures_25 rfl hl (by decide) rfl (fun ls hl => ?_)
    obtain ⟨n, h⟩ := h
    exact N26 ms_7 n 0 ma_8 _ _ _ h hP hD hS (lv_sub hl [2, 0] rfl)
  · have h := h.2 c6
    refine lv_iload_n hx hb dX12_lures_17 rfl (lv_at hl 0 rfl) ?_
    rw [← hQ]
    exact cRetI (v := r5) ((va_up ms 0 0), ma) hx hb hr hlocks hS hP hD h dX12_lures_18
abbrev vsX12_covers : List Cond := Cond.code yX12_covers cX12_covers 9 (some .int) :: WS
abbrev rmX12_covers : Room := { frames := 5, cells := 0, slots := 0, locals := 119 }
set_option maxHeartbeats 4000000 in
set_option maxRecDepth 100000 in
theorem k_X12_covers (l : Launch) (D : va_G) (C : Nat → ClassId) (sz : Nat) (aM : Nat → Nat)  (ms : Nat → Int32) (mw : Nat → Int64) (ma : Nat → Nat → Int32) (ml : Nat → Nat → Int64) (p1 : Int32) (p2 : Int32) (p3 : Int32) {post : Int32 → (Nat → Int32) → (Nat → Int64) → (Nat → Nat → Int32) → (Nat → Nat → Int64) → Prop} (h : P_X12_covers ms mw ma ml p1 p2 p3 post) : Met l yX12_covers vsX12_covers rmX12_covers (cPre D C [.ref (aM 0), .int p1, .int p2, .int p3] sz (wM aM C ms mw ma ml)) (cQi D (fun (r : Int32) (u : (Nat → Int32) × (Nat → Int64) × (Nat → Nat → Int32) × (Nat → Nat → Int64)) => post r u.1 u.2.1 u.2.2.1 u.2.2.2) (fun u => wM aM C u.1 u.2.1 u.2.2.1 u.2.2.2) (va_A (List.flatten (wM aM C ms mw ma ml)) sz)) 0 0 (va_A (List.flatten (wM aM C ms mw ma ml)) sz) := by
  refine cStart (QA := fun A => cQi D (fun (r : Int32) (u : (Nat → Int32) × (Nat → Int64) × (Nat → Nat → Int32) × (Nat → Nat → Int64)) => post r u.1 u.2.1 u.2.2.1 u.2.2.2) (fun u => wM aM C u.1 u.2.1 u.2.2.1 u.2.2.2) A) (cc := cX12_covers) (maxL := 9) (ret := (some .int)) (by decide) (Nat.le_of_ble_eq_true rfl) ?_
  intro p e s m args below meth c A ls hx hb hr hml hown hw hlocks hname hK hN hA hP hD hS hl
  generalize hQ : MQ below _ args s 0 0 A = Q
  have hl : lv_has ls 9 [(0, .ref (aM 0)), (1, .int p1), (2, .int p2), (3, .int p3)] := hl
  obtain ⟨H, hH⟩ : ∃ H, H = s.heap := ⟨_, rfl⟩
  obtain ⟨locs, hlo⟩ : ∃ z : List Loc, z = [] := ⟨_, rfl⟩
  have hP : va_P D vwCl (List.flatten (wM aM C ms mw ma ml)) H := by rw [hH]; exact hP
  have hS : va_S A s.heap H locs := by rw [hH, hlo]; exact hS
  rw [show W p l e rmX12_covers s m args below meth c s.heap [] 0 0 Q (F0 m 0 ls []) = W p l e rmX12_covers s m args below meth c H locs 0 0 Q (F0 m 0 ls []) from by rw [hH, hlo]]
  have N98 : ∀ (x4_ : Int32) (x5_ : Int32) (ms : Nat → Int32) (mw : Nat → Int64) (ma : Nat → Nat → Int32) (ml : Nat → Nat → Int64) (H : Heap) (locs : List Loc) (ls : Array Slot), P_X12_covers_98 p1 p2 p3 post  x4_ x5_ ms mw ma ml → va_P D vwCl (List.flatten (wM aM C ms mw ma ml)) H → va_D A (List.flatten (wM aM C ms mw ma ml)) → va_S A s.heap H locs → lv_has ls 9 [(0, .ref (aM 0)), (1, .int p1), (4, .int x4_), (5, .int x5_)] → W p l e rmX12_covers s m args below meth c H locs 0 0 Q (F0 m 98 ls []) := by
    intro x4_ x5_ ms mw ma ml H locs ls h hP hD hS hl
    refine lv_aload_n hx hb dX12_covers_98 rfl (lv_at hl 0 rfl) ?_
    refine lv_iload_n hx hb dX12_covers_99 rfl (lv_at hl 1 rfl) ?_
    refine lv_iload hx hb dX12_covers_100 (lv_at hl 2 rfl) ?_
    refine cGoV (wo := fun u => wM aM C ms mw u ml) (cRunV (As := [.int p1, .int x4_]) (rest := []) ⟨hx, hb, hml, hown, hw⟩ hK hN hP hD [0, 1, 2, 3, 4, 5, 6, 7, 8, 9, 10, 11, 12, 13, 14, 15, 16, 17, 18, 19, 20, 21, 22, 23, 24, 25, 26, 27, 28, 29, 30, 31, 32] rfl rfl (k_X12_hasOption l D C _ aM  ms mw ma ml p1 x4_ h) (cwV 2 hw (goodV mw_8_48 mw_8_50 mw_s155 mw_1_13 mw_8_51) rfl rfl rfl (by decide +kernel) ⟨Nat.le_of_ble_eq_true rfl, Nat.le_of_ble_eq_true rfl⟩) rfl rfl rfl hl.1 rfl (Nat.le_of_ble_eq_true rfl) dX12_covers_102 ⟨Nat.zero_le _, Nat.zero_le _⟩) hP hD hS hA [0, 1, 2, 3, 4, 5, 6, 7, 8, 9, 10, 11, 12, 13, 14, 15, 16, 17, 18, 19, 20, 21, 22, 23, 24, 25, 26, 27, 28, 29, 30, 31, 32] [] [0, 1, 2, 3, 4, 5, 6, 7, 8, 9, 10, 11, 12, 13, 14, 15, 16, 17, 18, 19, 20, 21, 22, 23, 24, 25, 26, 27, 28, 29, 30, 31, 32] rfl rfl rfl (by decide) rfl (fun _ => rfl) (fun ma_1 H locs h hP hD hS => ?_)
    have hP : va_P D vwCl (List.flatten (wM aM C ms mw ma_1 ml)) H := hP
    have hD : va_D A (List.flatten (wM aM C ms mw ma_1 ml)) := hD
    refine lv_iload hx hb dX12_covers_105 (lv_at hl 3 rfl) ?_
    rw [← hQ]
    exact cRetI (v := x5_) (ms, mw, ma_1, ml) hx hb hr hlocks hS hP hD h dX12_covers_107
  have N13 : ∀ (x4_ : Int32) (n13 : Nat) (x5_ : Int32) (x6_ : Int32) (ms : Nat → Int32) (mw : Nat → Int64) (ma : Nat → Nat → Int32) (ml : Nat → Nat → Int64) (H : Heap) (locs : List Loc) (ls : Array Slot), P_X12_covers_13 p1 p2 p3 post (fun (x4_ : Int32) (x5_ : Int32) (ms : Nat → Int32) (mw : Nat → Int64) (ma : Nat → Nat → Int32) (ml : Nat → Nat → Int64) => P_X12_covers_98 p1 p2 p3 post  x4_ x5_ ms mw ma ml) x4_ n13 x5_ x6_ ms mw ma ml → va_P D vwCl (List.flatten (wM aM C ms mw ma ml)) H → va_D A (List.flatten (wM aM C ms mw ma ml)) → va_S A s.heap H locs → lv_has ls 9 [(0, .ref (aM 0)), (1, .int p1), (2, .int p2), (3, .int p3), (4, .int x4_), (5, .int x5_), (6, .int x6_)] → W p l e rmX12_covers s m args below meth c H locs 0 0 Q (F0 m 13 ls []) := by
    intro x4_
    intro n13
    induction n13 with
    | zero => intro x5_ x6_ ms mw ma ml H locs ls h hP hD hS hl; exact False.elim h
    | succ n13 ih13 =>
      intro x5_ x6_ ms mw ma ml H locs ls h hP hD hS hl
      have h : P_X12_covers_13_b p1 p2 p3 post (fun (x4_ : Int32) (x5_ : Int32) (ms : Nat → Int32) (mw : Nat → Int64) (ma : Nat → Nat → Int32) (ml : Nat → Nat → Int64) => P_X12_covers_98 p1 p2 p3 post  x4_ x5_ ms mw ma ml) x4_ (P_X12_covers_13 p1 p2 p3 post (fun (x4_ : Int32) (x5_ : Int32) (ms : Nat → Int32) (mw : Nat → Int64) (ma : Nat → Nat → Int32) (ml : Nat → Nat → Int64) => P_X12_covers_98 p1 p2 p3 post  x4_ x5_ ms mw ma ml) x4_ n13) x5_ x6_ ms mw ma ml := h
      unfold P_X12_covers_13_b at h
      refine lv_iload hx hb dX12_covers_13 (lv_at hl 6 rfl) ?_
      refine lv_aload_n hx hb dX12_covers_15 rfl (lv_at hl 0 rfl) ?_
      refine cGoI (wo := fun u => wM aM C ms mw ma ml) (cRunV (As := []) (rest := [.int x6_]) ⟨hx, hb, hml, hown, hw⟩ hK hN hP hD [0, 1, 2, 3, 4, 5, 6, 7, 8, 9, 10, 11, 12, 13, 14, 15, 16, 17, 18, 19, 20, 21, 22, 23, 24, 25, 26, 27, 28, 29, 30, 31, 32] rfl rfl (k_X12_optionMany l D C _ aM  ms mw ma ml  h) (cwV 0 hw (goodV mw_8_40 mw_8_42 mw_s153 mw_1_13 mw_8_43) rfl rfl rfl (by decide +kernel) ⟨Nat.le_of_ble_eq_true rfl, Nat.le_of_ble_eq_true rfl⟩) rfl rfl rfl hl.1 rfl (Nat.le_of_ble_eq_true rfl) dX12_covers_16 ⟨Nat.zero_le _, Nat.zero_le _⟩) hP hD hS hA [0, 1, 2, 3, 4, 5, 6, 7, 8, 9, 10, 11, 12, 13, 14, 15, 16, 17, 18, 19, 20, 21, 22, 23, 24, 25, 26, 27, 28, 29, 30, 31, 32] [] [0, 1, 2, 3, 4, 5, 6, 7, 8, 9, 10, 11, 12, 13, 14, 15, 16, 17, 18, 19, 20, 21, 22, 23, 24, 25, 26, 27, 28, 29, 30, 31, 32] rfl rfl rfl (by decide) rfl (fun _ => rfl) (fun r2 u H locs h hP hD hS => ?_)
      have hP : va_P D vwCl (List.flatten (wM aM C ms mw ma ml)) H := hP
      have hD : va_D A (List.flatten (wM aM C ms mw ma ml)) := hD
      refine lv_icmp_ge (tgt := 98) hx hb dX12_covers_19 (by decide) (fun c3 => ?_) (fun c3 => ?_)
      · have h := h.1 c3
        exact N98 x4_ x5_ ms mw ma ml _ _ _ h hP hD hS (lv_sub hl [0, 1, 4, 5] rfl)
      · have h := h.2 c3
        refine lv_aload_n hx hb dX12_covers_22 rfl (lv_at hl 0 rfl) ?_
        refine lv_iload_n hx hb dX12_covers_23 rfl (lv_at hl 1 rfl) ?_
        refine lv_iload hx hb dX12_covers_24 (lv_at hl 6 rfl) ?_
        refine cGoV (wo := fun u => wM aM C ms mw u ml) (cRunV (As := [.int p1, .int x6_]) (rest := []) ⟨hx, hb, hml, hown, hw⟩ hK hN hP hD [0, 1, 2, 3, 4, 5, 6, 7, 8, 9, 10, 11, 12, 13, 14, 15, 16, 17, 18, 19, 20, 21, 22, 23, 24, 25, 26, 27, 28, 29, 30, 31, 32] rfl rfl (k_X12_hasOption l D C _ aM  ms mw ma ml p1 x6_ h) (cwV 2 hw (goodV mw_8_48 mw_8_50 mw_s155 mw_1_13 mw_8_51) rfl rfl rfl (by decide +kernel) ⟨Nat.le_of_ble_eq_true rfl, Nat.le_of_ble_eq_true rfl⟩) rfl rfl rfl hl.1 rfl (Nat.le_of_ble_eq_true rfl) dX12_covers_26 ⟨Nat.zero_le _, Nat.zero_le _⟩) hP hD hS hA [0, 1, 2, 3, 4, 5, 6, 7, 8, 9, 10, 11, 12, 13, 14, 15, 16, 17, 18, 19, 20, 21, 22, 23, 24, 25, 26, 27, 28, 29, 30, 31, 32] [] [0, 1, 2, 3, 4, 5, 6, 7, 8, 9, 10, 11, 12, 13, 14, 15, 16, 17, 18, 19, 20, 21, 22, 23, 24, 25, 26, 27, 28, 29, 30, 31, 32] rfl rfl rfl (by decide) rfl (fun _ => rfl) (fun ma_4 H locs h hP hD hS => ?_)
        have hP : va_P D vwCl (List.flatten (wM aM C ms mw ma_4 ml)) H := hP
        have hD : va_D A (List.flatten (wM aM C ms mw ma_4 ml)) := hD
        refine lv_aload_n hx hb dX12_covers_29 rfl (lv_at hl 0 rfl) ?_
        refine cGoV (wo := fun u => wM aM C u.1 mw u.2.1 u.2.2) (cRunV (As := []) (rest := []) ⟨hx, hb, hml, hown, hw⟩ hK hN hP hD [0, 1, 2, 3, 4, 5, 6, 7, 8, 9, 10, 11, 12, 13, 14, 15, 16, 17, 18, 19, 20, 21, 22, 23, 24, 25, 26, 27, 28, 29, 30, 31, 32] rfl rfl (k_X12_night l D C _ aM  ms mw ma_4 ml  h) (cwV 0 hw (goodV mw_7_209 mw_7_211 mw_s143 mw_1_13 mw_7_212) rfl rfl rfl (by decide +kernel) ⟨Nat.le_of_ble_eq_true rfl, Nat.le_of_ble_eq_true rfl⟩) rfl rfl rfl hl.1 rfl (Nat.le_of_ble_eq_true rfl) dX12_covers_30 ⟨Nat.zero_le _, Nat.zero_le _⟩) hP hD hS hA [0, 1, 2, 3, 4, 5, 6, 7, 8, 9, 10, 11, 12, 13, 14, 15, 16, 17, 18, 19, 20, 21, 22, 23, 24, 25, 26, 27, 28, 29, 30, 31, 32] [] [0, 1, 2, 3, 4, 5, 6, 7, 8, 9, 10, 11, 12, 13, 14, 15, 16, 17, 18, 19, 20, 21, 22, 23, 24, 25, 26, 27, 28, 29, 30, 31, 32] rfl rfl rfl (by decide) rfl (fun _ => rfl) (fun u H locs h hP hD hS => ?_)
        obtain ⟨ms_5, ma_6, ml_7⟩ := u
        have hP : va_P D vwCl (List.flatten (wM aM C ms_5 mw ma_6 ml_7)) H := hP
        have hD : va_D A (List.flatten (wM aM C ms_5 mw ma_6 ml_7)) := hD
        refine lv_ldc2 (v := 1000) hx hb hown (hw _ mw_8_10) dX12_covers_33 ?_
        refine lv_iload_n hx hb dX12_covers_36 rfl (lv_at hl 2 rfl) ?_
        refine lv_i2l hx hb dX12_covers_37 rfl ?_
        refine lv_lmul hx hb dX12_covers_38 ?_
        refine lv_aload_n hx hb dX12_covers_39 rfl (lv_at hl 0 rfl) ?_
        refine lv_iload_n hx hb dX12_covers_40 rfl (lv_at hl 1 rfl) ?_
        refine cGoL (wo := fun u => wM aM C ms_5 mw ma_6 ml_7) (cRunV (As := [.int p1]) (rest := [.long (1000 * p2.toInt64)]) ⟨hx, hb, hml, hown, hw⟩ hK hN hP hD [0, 1, 2, 3, 4, 5, 6, 7, 8, 9, 10, 11, 12, 13, 14, 15, 16, 17, 18, 19, 20, 21, 22, 23, 24, 25, 26, 27, 28, 29, 30, 31, 32] rfl rfl (k_X12_paidOf l D C _ aM  ms_5 mw ma_6 ml_7 p1 h) (cwV 1 hw (goodV mw_8_6 mw_8_8 mw_s147 mw_1_13 mw_8_9) rfl rfl rfl (by decide +kernel) ⟨Nat.le_of_ble_eq_true rfl, Nat.le_of_ble_eq_true rfl⟩) rfl rfl rfl hl.1 rfl (Nat.le_of_ble_eq_true rfl) dX12_covers_41 ⟨Nat.zero_le _, Nat.zero_le _⟩) hP hD hS hA [0, 1, 2, 3, 4, 5, 6, 7, 8, 9, 10, 11, 12, 13, 14, 15, 16, 17, 18, 19, 20, 21, 22, 23, 24, 25, 26, 27, 28, 29, 30, 31, 32] [] [0, 1, 2, 3, 4, 5, 6, 7, 8, 9, 10, 11, 12, 13, 14, 15, 16, 17, 18, 19, 20, 21, 22, 23, 24, 25, 26, 27, 28, 29, 30, 31, 32] rfl rfl rfl (by decide) rfl (fun _ => rfl) (fun r8 u H locs h hP hD hS => ?_)
        have hP : va_P D vwCl (List.flatten (wM aM C ms_5 mw ma_6 ml_7)) H := hP
        have hD : va_D A (List.flatten (wM aM C ms_5 mw ma_6 ml_7)) := hD
        refine lv_ladd hx hb dX12_covers_44 ?_
        refine lv_bipush (v := 100) hx hb dX12_covers_45 (by decide) ?_
        refine lv_iload_n hx hb dX12_covers_47 rfl (lv_at hl 3 rfl) ?_
        refine lv_isub hx hb dX12_covers_48 ?_
        refine lv_i2l hx hb dX12_covers_49 rfl ?_
        refine lv_aload_n hx hb dX12_covers_50 rfl (lv_at hl 0 rfl) ?_
        refine lv_iload_n hx hb dX12_covers_51 rfl (lv_at hl 1 rfl) ?_
        refine cGoL (wo := fun u => wM aM C ms_5 mw ma_6 ml_7) (cRunV (As := [.int p1]) (rest := [.long ((100 - p3).toInt64), .long ((1000 * p2.toInt64) + r8)]) ⟨hx, hb, hml, hown, hw⟩ hK hN hP hD [0, 1, 2, 3, 4, 5, 6, 7, 8, 9, 10, 11, 12, 13, 14, 15, 16, 17, 18, 19, 20, 21, 22, 23, 24, 25, 26, 27, 28, 29, 30, 31, 32] rfl rfl (k_X12_lossOf l D C _ aM  ms_5 mw ma_6 ml_7 p1 h) (cwV 1 hw (goodV mw_8_11 mw_8_13 mw_s148 mw_1_13 mw_8_14) rfl rfl rfl (by decide +kernel) ⟨Nat.le_of_ble_eq_true rfl, Nat.le_of_ble_eq_true rfl⟩) rfl rfl rfl hl.1 rfl (Nat.le_of_ble_eq_true rfl) dX12_covers_52 ⟨Nat.zero_le _, Nat.zero_le _⟩) hP hD hS hA [0, 1, 2, 3, 4, 5, 6, 7, 8, 9, 10, 11, 12, 13, 14, 15, 16, 17, 18, 19, 20, 21, 22, 23, 24, 25, 26, 27, 28, 29, 30, 31, 32] [] [0, 1, 2, 3, 4, 5, 6, 7, 8, 9, 10, 11, 12, 13, 14, 15, 16, 17, 18, 19, 20, 21, 22, 23, 24, 25, 26, 27, 28, 29, 30, 31, 32] rfl rfl rfl (by decide) rfl (fun _ => rfl) (fun r9 u H locs h hP hD hS => ?_)
        have hP : va_P D vwCl (List.flatten (wM aM C ms_5 mw ma_6 ml_7)) H := hP
        have hD : va_D A (List.flatten (wM aM C ms_5 mw ma_6 ml_7)) := hD
        refine lv_lmul hx hb dX12_covers_55 ?_
        refine lv_ldc2 (v := 100) hx hb hown (hw _ mw_7_163) dX12_covers_56 ?_
        refine lv_ldiv hx hb dX12_covers_59 (by decide) ?_
        refine lv_ladd hx hb dX12_covers_60 ?_
        refine lv_topl (fun x10 ex10 => ?_)
        have h := h x10 ex10
        refine lv_lstore (lv' := [(7, .long x10), (0, .ref (aM 0)), (1, .int p1), (2, .int p2), (3, .int p3), (4, .int x4_), (5, .int x5_), (6, .int x6_)]) hx hb dX12_covers_61 hl (by decide) rfl (fun ls hl => ?_)
        refine lv_iload hx hb dX12_covers_63 (lv_at hl 6 rfl) ?_
        refine lv_iconst (v := (-1)) hx hb dX12_covers_65 (by decide) ?_
        refine lv_icmp_eq (tgt := 82) hx hb dX12_covers_66 (by decide) (fun c11 => ?_) (fun c11 => ?_)
        · have h := h.1 c11
          refine lv_iload hx hb dX12_covers_82 (lv_at hl 7 rfl) ?_
          refine lv_istore (lv' := [(5, .int x6_), (7, .long x10), (0, .ref (aM 0)), (1, .int p1), (2, .int p2), (3, .int p3), (4, .int x4_), (6, .int x6_)]) hx hb dX12_covers_84 hl (by decide) rfl (fun ls hl => ?_)
          refine lv_aload_n hx hb dX12_covers_86 rfl (lv_at hl 2 rfl) ?_
          refine lv_lload hx hb dX12_covers_87 (lv_at hl 1 rfl) ?_
          refine va_put (D := D) (ci := 12) (v := .long x10) (ty := .long) (C := RX12) (T := TX12) (N := 51) hx hb hw inW_X12 tyX12 tyX12_ok nmX12 hown hK hP hD hS 0 rfl rfl 48 (by decide) (hw _ mw_6_91) (fun _ h9 => h9) rfl (by decide +kernel) rfl rfl (Nat.le_of_ble_eq_true rfl) dX12_covers_89 (fun H locs hP hD hS => ?_)
          refine lv_iinc (v := (x6_ + 1)) (lv' := [(6, .int (x6_ + 1)), (5, .int x6_), (7, .long x10), (0, .ref (aM 0)), (1, .int p1), (2, .int p2), (3, .int p3), (4, .int x4_)]) hx hb dX12_covers_92 hl (k := 7) rfl rfl (by decide) rfl (fun ls hl => ?_)
          refine lv_goto (tgt := 13) hx hb dX12_covers_95 (by decide) ?_
          have hP : va_P D vwCl (List.flatten (wM aM C ms_5 (va_up mw 3 x10) ma_6 ml_7)) H := hP
          have hD : va_D A (List.flatten (wM aM C ms_5 (va_up mw 3 x10) ma_6 ml_7)) := hD
          exact ih13 x6_ (x6_ + 1) ms_5 (va_up mw 3 x10) ma_6 ml_7 _ _ _ h hP hD hS (lv_sub hl [3, 4, 5, 6, 7, 1, 0] rfl)
        · have h := h.2 c11
          refine lv_lload hx hb dX12_covers_69 (lv_at hl 0 rfl) ?_
          refine lv_aload_n hx hb dX12_covers_71 rfl (lv_at hl 1 rfl) ?_
          refine va_get (D := D) (ci := 12) (v := .long (mw 3)) (C := RX12) (T := TX12) (N := 51) hx hb hw inW_X12 hown hK hP 0 rfl rfl 48 (by decide) (hw _ mw_6_91) (fun _ h9 => h9) rfl dX12_covers_72 ?_
          refine W.lcmp hx hb dX12_covers_75 ?_
          refine lv_if_lt (tgt := 82) hx hb dX12_covers_76 (by decide) (fun c12 => ?_) (fun c12 => ?_)
          · have c12 : x10 < (mw 3) := (lg_cmp_lt _ _).mp c12
            have h := h.1 c12
            refine lv_iload hx hb dX12_covers_82 (lv_at hl 7 rfl) ?_
            refine lv_istore (lv' := [(5, .int x6_), (7, .long x10), (0, .ref (aM 0)), (1, .int p1), (2, .int p2), (3, .int p3), (4, .int x4_), (6, .int x6_)]) hx hb dX12_covers_84 hl (by decide) rfl (fun ls hl => ?_)
            refine lv_aload_n hx hb dX12_covers_86 rfl (lv_at hl 2 rfl) ?_
            refine lv_lload hx hb dX12_covers_87 (lv_at hl 1 rfl) ?_
            refine va_put (D := D) (ci := 12) (v := .long x10) (ty := .long) (C := RX12) (T := TX12) (N := 51) hx hb hw inW_X12 tyX12 tyX12_ok nmX12 hown hK hP hD hS 0 rfl rfl 48 (by decide) (hw _ mw_6_91) (fun _ h9 => h9) rfl (by decide +kernel) rfl rfl (Nat.le_of_ble_eq_true rfl) dX12_covers_89 (fun H locs hP hD hS => ?_)
            refine lv_iinc (v := (x6_ + 1)) (lv' := [(6, .int (x6_ + 1)), (5, .int x6_), (7, .long x10), (0, .ref (aM 0)), (1, .int p1), (2, .int p2), (3, .int p3), (4, .int x4_)]) hx hb dX12_covers_92 hl (k := 7) rfl rfl (by decide) rfl (fun ls hl => ?_)
            refine lv_goto (tgt := 13) hx hb dX12_covers_95 (by decide) ?_
            have hP : va_P D vwCl (List.flatten (wM aM C ms_5 (va_up mw 3 x10) ma_6 ml_7)) H := hP
            have hD : va_D A (List.flatten (wM aM C ms_5 (va_up mw 3 x10) ma_6 ml_7)) := hD
            exact ih13 x6_ (x6_ + 1) ms_5 (va_up mw 3 x10) ma_6 ml_7 _ _ _ h hP hD hS (lv_sub hl [3, 4, 5, 6, 7, 1, 0] rfl)
          · have c12 : ¬ x10 < (mw 3) := fun q => c12 ((lg_cmp_lt _ _).mpr q)
            have h := h.2 c12
            refine lv_goto (tgt := 92) hx hb dX12_covers_79 (by decide) ?_
            refine lv_iinc (v := (x6_ + 1)) (lv' := [(6, .int (x6_ + 1)), (7, .long x10), (0, .ref (aM 0)), (1, .int p1), (2, .int p2), (3, .int p3), (4, .int x4_), (5, .int x5_)]) hx hb dX12_covers_92 hl (k := 7) rfl rfl (by decide) rfl (fun ls hl => ?_)
            refine lv_goto (tgt := 13) hx hb dX12_covers_95 (by decide) ?_
            exact ih13 x5_ (x6_ + 1) ms_5 mw ma_6 ml_7 _ _ _ h hP hD hS (lv_sub hl [2, 3, 4, 5, 6, 7, 0] rfl)
  refine lv_aload_n hx hb dX12_covers_0 rfl (lv_at hl 0 rfl) ?_
  refine lv_iload_n hx hb dX12_covers_1 rfl (lv_at hl 1 rfl) ?_
  refine cGoI (wo := fun u => wM aM C ms mw ma ml) (cRunV (As := [.int p1]) (rest := []) ⟨hx, hb, hml, hown, hw⟩ hK hN hP hD [0, 1, 2, 3, 4, 5, 6, 7, 8, 9, 10, 11, 12, 13, 14, 15, 16, 17, 18, 19, 20, 21, 22, 23, 24, 25, 26, 27, 28, 29, 30, 31, 32] rfl rfl (k_X12_optionOf l D C _ aM  ms mw ma ml p1 h) (cwV 1 hw (goodV mw_8_44 mw_8_46 mw_s154 mw_1_13 mw_8_47) rfl rfl rfl (by decide +kernel) ⟨Nat.le_of_ble_eq_true rfl, Nat.le_of_ble_eq_true rfl⟩) rfl rfl rfl hl.1 rfl (Nat.le_of_ble_eq_true rfl) dX12_covers_2 ⟨Nat.zero_le _, Nat.zero_le _⟩) hP hD hS hA [0, 1, 2, 3, 4, 5, 6, 7, 8, 9, 10, 11, 12, 13, 14, 15, 16, 17, 18, 19, 20, 21, 22, 23, 24, 25, 26, 27, 28, 29, 30, 31, 32] [] [0, 1, 2, 3, 4, 5, 6, 7, 8, 9, 10, 11, 12, 13, 14, 15, 16, 17, 18, 19, 20, 21, 22, 23, 24, 25, 26, 27, 28, 29, 30, 31, 32] rfl rfl rfl (by decide) rfl (fun _ => rfl) (fun r13 u H locs h hP hD hS => ?_)
  have hP : va_P D vwCl (List.flatten (wM aM C ms mw ma ml)) H := hP
  have hD : va_D A (List.flatten (wM aM C ms mw ma ml)) := hD
  refine lv_istore (lv' := [(4, .int r13), (0, .ref (aM 0)), (1, .int p1), (2, .int p2), (3, .int p3)]) hx hb dX12_covers_5 hl (by decide) rfl (fun ls hl => ?_)
  refine lv_iconst (v := (-1)) hx hb dX12_covers_7 (by decide) ?_
  refine lv_istore (lv' := [(5, .int (-1)), (4, .int r13), (0, .ref (aM 0)), (1, .int p1), (2, .int p2), (3, .int p3)]) hx hb dX12_covers_8 hl (by decide) rfl (fun ls hl => ?_)
  refine lv_iconst (v := 0) hx hb dX12_covers_10 (by decide) ?_
  refine lv_istore (lv' := [(6, .int 0), (5, .int (-1)), (4, .int r13), (0, .ref (aM 0)), (1, .int p1), (2, .int p2), (3, .int p3)]) hx hb dX12_covers_11 hl (by decide) rfl (fun ls hl => ?_)
  obtain ⟨n, h⟩ := h
  exact N13 r13 n (-1) 0 ms mw ma ml _ _ _ h hP hD hS (lv_sub hl [3, 4, 5, 6, 2, 1, 0] rfl)
abbrev vsX12_isCover : List Cond := Cond.code yX12_isCover cX12_isCover 4 (some .boolean) :: WS
abbrev rmX12_isCover : Room := { frames := 2, cells := 0, slots := 0, locals := 46 }
set_option maxHeartbeats 4000000 in
set_option maxRecDepth 100000 in
theorem k_X12_isCover (l : Launch) (D : va_G) (C : Nat → ClassId) (sz : Nat) (aM : Nat → Nat)  (ms : Nat → Int32) (mw : Nat → Int64) (ma : Nat → Nat → Int32) (ml : Nat → Nat → Int64) (p1 : Int32) (p2 : Int32) (p3 : Int32) {post : Int32 → Prop} (h : P_X12_isCover ma p1 p2 p3 post) : Met l yX12_isCover vsX12_isCover rmX12_isCover (cPre D C [.ref (aM 0), .int p1, .int p2, .int p3] sz (wM aM C ms mw ma ml)) (cQi D (fun (r : Int32) (u : Unit) => post r ) (fun u => wM aM C ms mw ma ml) (va_A (List.flatten (wM aM C ms mw ma ml)) sz)) 0 0 (va_A (List.flatten (wM aM C ms mw ma ml)) sz) := by
  refine cStart (QA := fun A => cQi D (fun (r : Int32) (u : Unit) => post r ) (fun u => wM aM C ms mw ma ml) A) (cc := cX12_isCover) (maxL := 4) (ret := (some .boolean)) (by decide) (Nat.le_of_ble_eq_true rfl) ?_
  intro p e s m args below meth c A ls hx hb hr hml hown hw hlocks hname hK hN hA hP hD hS hl
  generalize hQ : MQ below _ args s 0 0 A = Q
  have hl : lv_has ls 4 [(0, .ref (aM 0)), (1, .int p1), (2, .int p2), (3, .int p3)] := hl
  obtain ⟨H, hH⟩ : ∃ H, H = s.heap := ⟨_, rfl⟩
  obtain ⟨locs, hlo⟩ : ∃ z : List Loc, z = [] := ⟨_, rfl⟩
  have hP : va_P D vwCl (List.flatten (wM aM C ms mw ma ml)) H := by rw [hH]; exact hP
  have hS : va_S A s.heap H locs := by rw [hH, hlo]; exact hS
  rw [show W p l e rmX12_isCover s m args below meth c s.heap [] 0 0 Q (F0 m 0 ls []) = W p l e rmX12_isCover s m args below meth c H locs 0 0 Q (F0 m 0 ls []) from by rw [hH, hlo]]
  refine lv_aload_n hx hb dX12_isCover_0 rfl (lv_at hl 0 rfl) ?_
  refine lv_iload_n hx hb dX12_isCover_1 rfl (lv_at hl 1 rfl) ?_
  refine cGoI (wo := fun u => wM aM C ms mw ma ml) (cRunV (As := [.int p1]) (rest := []) ⟨hx, hb, hml, hown, hw⟩ hK hN hP hD [0, 1, 2, 3, 4, 5, 6, 7, 8, 9, 10, 11, 12, 13, 14, 15, 16, 17, 18, 19, 20, 21, 22, 23, 24, 25, 26, 27, 28, 29, 30, 31, 32] rfl rfl (k_X12_isBike l D C _ aM  ms mw ma ml p1 h) (cwV 1 hw (goodV mw_7_143 mw_7_145 mw_s133 mw_1_13 mw_7_146) rfl rfl rfl (by decide +kernel) ⟨Nat.le_of_ble_eq_true rfl, Nat.le_of_ble_eq_true rfl⟩) rfl rfl rfl hl.1 rfl (Nat.le_of_ble_eq_true rfl) dX12_isCover_2 ⟨Nat.zero_le _, Nat.zero_le _⟩) hP hD hS hA [0, 1, 2, 3, 4, 5, 6, 7, 8, 9, 10, 11, 12, 13, 14, 15, 16, 17, 18, 19, 20, 21, 22, 23, 24, 25, 26, 27, 28, 29, 30, 31, 32] [] [0, 1, 2, 3, 4, 5, 6, 7, 8, 9, 10, 11, 12, 13, 14, 15, 16, 17, 18, 19, 20, 21, 22, 23, 24, 25, 26, 27, 28, 29, 30, 31, 32] rfl rfl rfl (by decide) rfl (fun _ => rfl) (fun r1 u H locs h hP hD hS => ?_)
  have hP : va_P D vwCl (List.flatten (wM aM C ms mw ma ml)) H := hP
  have hD : va_D A (List.flatten (wM aM C ms mw ma ml)) := hD
  refine lv_if_eq (tgt := 36) hx hb dX12_isCover_5 (by decide) (fun c2 => ?_) (fun c2 => ?_)
  · have h := h.1 c2
    refine lv_iconst (v := 0) hx hb dX12_isCover_36 (by decide) ?_
    rw [← hQ]
    exact cRetZ (v := 0) () hx hb hr hlocks hS hP hD (Or.inl rfl) h dX12_isCover_37
  · have h := h.2 c2
    refine lv_iload_n hx hb dX12_isCover_8 rfl (lv_at hl 2 rfl) ?_
    refine lv_i2l hx hb dX12_isCover_9 rfl ?_
    refine lv_lconst (v := 0) hx hb dX12_isCover_10 (by decide) ?_
    refine lv_ldc2 (v := 9999) hx hb hown (hw _ mw_8_223) dX12_isCover_11 ?_
    refine cGoI (wo := fun u => wM aM C ms mw ma ml) (cRunS (As := [.long p2.toInt64, .long 0, .long 9999]) (rest := []) ⟨hx, hb, hml, hown, hw⟩ hK hN hP hD [] rfl rfl (k_X12_in l D C _    p2.toInt64 0 9999 h) (va_cwS 3 hw (goodS mw_6_205 mw_6_206 mw_1_13 mw_6_207) rfl rfl rfl (by decide +kernel) ⟨Nat.le_of_ble_eq_true rfl, Nat.le_of_ble_eq_true rfl⟩) rfl hl.1 rfl (Nat.le_of_ble_eq_true rfl) dX12_isCover_14 ⟨Nat.zero_le _, Nat.zero_le _⟩) hP hD hS hA [] [0, 1, 2, 3, 4, 5, 6, 7, 8, 9, 10, 11, 12, 13, 14, 15, 16, 17, 18, 19, 20, 21, 22, 23, 24, 25, 26, 27, 28, 29, 30, 31, 32] [0, 1, 2, 3, 4, 5, 6, 7, 8, 9, 10, 11, 12, 13, 14, 15, 16, 17, 18, 19, 20, 21, 22, 23, 24, 25, 26, 27, 28, 29, 30, 31, 32] rfl rfl rfl (by decide) rfl (fun _ => rfl) (fun r3 u H locs h hP hD hS => ?_)
    have hP : va_P D vwCl (List.flatten (wM aM C ms mw ma ml)) H := hP
    have hD : va_D A (List.flatten (wM aM C ms mw ma ml)) := hD
    refine lv_if_eq (tgt := 36) hx hb dX12_isCover_17 (by decide) (fun c4 => ?_) (fun c4 => ?_)
    · have h := h.1 c4
      refine lv_iconst (v := 0) hx hb dX12_isCover_36 (by decide) ?_
      rw [← hQ]
      exact cRetZ (v := 0) () hx hb hr hlocks hS hP hD (Or.inl rfl) h dX12_isCover_37
    · have h := h.2 c4
      refine lv_iload_n hx hb dX12_isCover_20 rfl (lv_at hl 3 rfl) ?_
      refine lv_i2l hx hb dX12_isCover_21 rfl ?_
      refine lv_lconst (v := 0) hx hb dX12_isCover_22 (by decide) ?_
      refine lv_ldc2 (v := 100) hx hb hown (hw _ mw_7_163) dX12_isCover_23 ?_
      refine cGoI (wo := fun u => wM aM C ms mw ma ml) (cRunS (As := [.long p3.toInt64, .long 0, .long 100]) (rest := []) ⟨hx, hb, hml, hown, hw⟩ hK hN hP hD [] rfl rfl (k_X12_in l D C _    p3.toInt64 0 100 h) (va_cwS 3 hw (goodS mw_6_205 mw_6_206 mw_1_13 mw_6_207) rfl rfl rfl (by decide +kernel) ⟨Nat.le_of_ble_eq_true rfl, Nat.le_of_ble_eq_true rfl⟩) rfl hl.1 rfl (Nat.le_of_ble_eq_true rfl) dX12_isCover_26 ⟨Nat.zero_le _, Nat.zero_le _⟩) hP hD hS hA [] [0, 1, 2, 3, 4, 5, 6, 7, 8, 9, 10, 11, 12, 13, 14, 15, 16, 17, 18, 19, 20, 21, 22, 23, 24, 25, 26, 27, 28, 29, 30, 31, 32] [0, 1, 2, 3, 4, 5, 6, 7, 8, 9, 10, 11, 12, 13, 14, 15, 16, 17, 18, 19, 20, 21, 22, 23, 24, 25, 26, 27, 28, 29, 30, 31, 32] rfl rfl rfl (by decide) rfl (fun _ => rfl) (fun r5 u H locs h hP hD hS => ?_)
      have hP : va_P D vwCl (List.flatten (wM aM C ms mw ma ml)) H := hP
      have hD : va_D A (List.flatten (wM aM C ms mw ma ml)) := hD
      refine lv_if_eq (tgt := 36) hx hb dX12_isCover_29 (by decide) (fun c6 => ?_) (fun c6 => ?_)
      · have h := h.1 c6
        refine lv_iconst (v := 0) hx hb dX12_isCover_36 (by decide) ?_
        rw [← hQ]
        exact cRetZ (v := 0) () hx hb hr hlocks hS hP hD (Or.inl rfl) h dX12_isCover_37
      · have h := h.2 c6
        refine lv_iconst (v := 1) hx hb dX12_isCover_32 (by decide) ?_
        refine lv_goto (tgt := 37) hx hb dX12_isCover_33 (by decide) ?_
        rw [← hQ]
        exact cRetZ (v := 1) () hx hb hr hlocks hS hP hD (Or.inr rfl) h dX12_isCover_37
abbrev vsX12_cover : List Cond := Cond.code yX12_cover cX12_cover 4 (some .long) :: WS
abbrev rmX12_cover : Room := { frames := 6, cells := 0, slots := 0, locals := 147 }
set_option maxHeartbeats 4000000 in
set_option maxRecDepth 100000 in
theorem k_X12_cover (l : Launch) (D : va_G) (C : Nat → ClassId) (sz : Nat) (aM : Nat → Nat)  (ms : Nat → Int32) (mw : Nat → Int64) (ma : Nat → Nat → Int32) (ml : Nat → Nat → Int64) (p1 : Int32) (p2 : Int32) (p3 : Int32) {post : Int64 → (Nat → Int32) → (Nat → Int64) → (Nat → Nat → Int32) → (Nat → Nat → Int64) → Prop} (h : P_X12_cover ms mw ma ml p1 p2 p3 post) : Met l yX12_cover vsX12_cover rmX12_cover (cPre D C [.ref (aM 0), .int p1, .int p2, .int p3] sz (wM aM C ms mw ma ml)) (cQl D (fun (r : Int64) (u : (Nat → Int32) × (Nat → Int64) × (Nat → Nat → Int32) × (Nat → Nat → Int64)) => post r u.1 u.2.1 u.2.2.1 u.2.2.2) (fun u => wM aM C u.1 u.2.1 u.2.2.1 u.2.2.2) (va_A (List.flatten (wM aM C ms mw ma ml)) sz)) 0 0 (va_A (List.flatten (wM aM C ms mw ma ml)) sz) := by
  refine cStart (QA := fun A => cQl D (fun (r : Int64) (u : (Nat → Int32) × (Nat → Int64) × (Nat → Nat → Int32) × (Nat → Nat → Int64)) => post r u.1 u.2.1 u.2.2.1 u.2.2.2) (fun u => wM aM C u.1 u.2.1 u.2.2.1 u.2.2.2) A) (cc := cX12_cover) (maxL := 4) (ret := (some .long)) (by decide) (Nat.le_of_ble_eq_true rfl) ?_
  intro p e s m args below meth c A ls hx hb hr hml hown hw hlocks hname hK hN hA hP hD hS hl
  generalize hQ : MQ below _ args s 0 0 A = Q
  have hl : lv_has ls 4 [(0, .ref (aM 0)), (1, .int p1), (2, .int p2), (3, .int p3)] := hl
  obtain ⟨H, hH⟩ : ∃ H, H = s.heap := ⟨_, rfl⟩
  obtain ⟨locs, hlo⟩ : ∃ z : List Loc, z = [] := ⟨_, rfl⟩
  have hP : va_P D vwCl (List.flatten (wM aM C ms mw ma ml)) H := by rw [hH]; exact hP
  have hS : va_S A s.heap H locs := by rw [hH, hlo]; exact hS
  rw [show W p l e rmX12_cover s m args below meth c s.heap [] 0 0 Q (F0 m 0 ls []) = W p l e rmX12_cover s m args below meth c H locs 0 0 Q (F0 m 0 ls []) from by rw [hH, hlo]]
  refine lv_aload_n hx hb dX12_cover_0 rfl (lv_at hl 0 rfl) ?_
  refine lv_iconst (v := 0) hx hb dX12_cover_1 (by decide) ?_
  refine va_put (D := D) (ci := 12) (v := .int 0) (ty := .int) (C := RX12) (T := TX12) (N := 51) hx hb hw inW_X12 tyX12 tyX12_ok nmX12 hown hK hP hD hS 0 rfl rfl 0 (by decide) (hw _ mw_6_43) (fun _ h9 => h9) rfl (by decide +kernel) rfl rfl (Nat.le_of_ble_eq_true rfl) dX12_cover_2 (fun H locs hP hD hS => ?_)
  refine lv_aload_n hx hb dX12_cover_5 rfl (lv_at hl 0 rfl) ?_
  refine lv_iload_n hx hb dX12_cover_6 rfl (lv_at hl 1 rfl) ?_
  refine lv_iload_n hx hb dX12_cover_7 rfl (lv_at hl 2 rfl) ?_
  refine lv_iload_n hx hb dX12_cover_8 rfl (lv_at hl 3 rfl) ?_
  have hP : va_P D vwCl (List.flatten (wM aM C (va_up ms 0 0) mw ma ml)) H := hP
  have hD : va_D A (List.flatten (wM aM C (va_up ms 0 0) mw ma ml)) := hD
  refine cGoI (wo := fun u => wM aM C (va_up ms 0 0) mw ma ml) (cRunV (As := [.int p1, .int p2, .int p3]) (rest := []) ⟨hx, hb, hml, hown, hw⟩ hK hN hP hD [0, 1, 2, 3, 4, 5, 6, 7, 8, 9, 10, 11, 12, 13, 14, 15, 16, 17, 18, 19, 20, 21, 22, 23, 24, 25, 26, 27, 28, 29, 30, 31, 32] rfl rfl (k_X12_isCover l D C _ aM  (va_up ms 0 0) mw ma ml p1 p2 p3 h) (cwV 3 hw (goodV mw_9_7 mw_9_9 mw_s175 mw_1_13 mw_9_10) rfl rfl rfl (by decide +kernel) ⟨Nat.le_of_ble_eq_true rfl, Nat.le_of_ble_eq_true rfl⟩) rfl rfl rfl hl.1 rfl (Nat.le_of_ble_eq_true rfl) dX12_cover_9 ⟨Nat.zero_le _, Nat.zero_le _⟩) hP hD hS hA [0, 1, 2, 3, 4, 5, 6, 7, 8, 9, 10, 11, 12, 13, 14, 15, 16, 17, 18, 19, 20, 21, 22, 23, 24, 25, 26, 27, 28, 29, 30, 31, 32] [] [0, 1, 2, 3, 4, 5, 6, 7, 8, 9, 10, 11, 12, 13, 14, 15, 16, 17, 18, 19, 20, 21, 22, 23, 24, 25, 26, 27, 28, 29, 30, 31, 32] rfl rfl rfl (by decide) rfl (fun _ => rfl) (fun r1 u H locs h hP hD hS => ?_)
  have hP : va_P D vwCl (List.flatten (wM aM C (va_up ms 0 0) mw ma ml)) H := hP
  have hD : va_D A (List.flatten (wM aM C (va_up ms 0 0) mw ma ml)) := hD
  refine lv_if_ne (tgt := 19) hx hb dX12_cover_12 (by decide) (fun c2 => ?_) (fun c2 => ?_)
  · have h := h.1 c2
    refine lv_aload_n hx hb dX12_cover_19 rfl (lv_at hl 0 rfl) ?_
    refine lv_iload_n hx hb dX12_cover_20 rfl (lv_at hl 1 rfl) ?_
    refine lv_iload_n hx hb dX12_cover_21 rfl (lv_at hl 2 rfl) ?_
    refine lv_iload_n hx hb dX12_cover_22 rfl (lv_at hl 3 rfl) ?_
    refine cGoI (wo := fun u => wM aM C u.1 u.2.1 u.2.2.1 u.2.2.2) (cRunV (As := [.int p1, .int p2, .int p3]) (rest := []) ⟨hx, hb, hml, hown, hw⟩ hK hN hP hD [0, 1, 2, 3, 4, 5, 6, 7, 8, 9, 10, 11, 12, 13, 14, 15, 16, 17, 18, 19, 20, 21, 22, 23, 24, 25, 26, 27, 28, 29, 30, 31, 32] rfl rfl (k_X12_covers l D C _ aM  (va_up ms 0 0) mw ma ml p1 p2 p3 h) (cwV 3 hw (goodV mw_9_11 mw_9_13 mw_s176 mw_1_13 mw_9_14) rfl rfl rfl (by decide +kernel) ⟨Nat.le_of_ble_eq_true rfl, Nat.le_of_ble_eq_true rfl⟩) rfl rfl rfl hl.1 rfl (Nat.le_of_ble_eq_true rfl) dX12_cover_23 ⟨Nat.zero_le _, Nat.zero_le _⟩) hP hD hS hA [0, 1, 2, 3, 4, 5, 6, 7, 8, 9, 10, 11, 12, 13, 14, 15, 16, 17, 18, 19, 20, 21, 22, 23, 24, 25, 26, 27, 28, 29, 30, 31, 32] [] [0, 1, 2, 3, 4, 5, 6, 7, 8, 9, 10, 11, 12, 13, 14, 15, 16, 17, 18, 19, 20, 21, 22, 23, 24, 25, 26, 27, 28, 29, 30, 31, 32] rfl rfl rfl (by decide) rfl (fun _ => rfl) (fun r7 u H locs h hP hD hS => ?_)
    obtain ⟨ms_3, mw_4, ma_5, ml_6⟩ := u
    have hP : va_P D vwCl (List.flatten (wM aM C ms_3 mw_4 ma_5 ml_6)) H := hP
    have hD : va_D A (List.flatten (wM aM C ms_3 mw_4 ma_5 ml_6)) := hD
    refine lv_pop hx hb dX12_cover_26 rfl ?_
    refine lv_aload_n hx hb dX12_cover_27 rfl (lv_at hl 0 rfl) ?_
    refine va_get (D := D) (ci := 12) (v := .long (mw_4 3)) (C := RX12) (T := TX12) (N := 51) hx hb hw inW_X12 hown hK hP 0 rfl rfl 48 (by decide) (hw _ mw_6_91) (fun _ h9 => h9) rfl dX12_cover_28 ?_
    rw [← hQ]
    exact cRetL (v := (mw_4 3)) (ms_3, mw_4, ma_5, ml_6) hx hb hr hlocks hS hP hD h dX12_cover_31
  · have h := h.2 c2
    refine lv_ldc2 (v := (-2)) hx hb hown (hw _ mw_7_208) dX12_cover_15 ?_
    rw [← hQ]
    exact cRetL (v := (-2)) ((va_up ms 0 0), mw, ma, ml) hx hb hr hlocks hS hP hD h dX12_cover_18

