abbrev vsX12_laysGrowth : List Cond := Cond.code yX12_laysGrowth cX12_laysGrowth 5 none :: WS
abbrev rmX12_laysGrowth : Room := { frames := 5, cells := 0, slots := 0, locals := 119 }
set_option maxHeartbeats 4000000 in
set_option maxRecDepth 100000 in
theorem k_X12_laysGrowth (l : Launch) (D : va_G) (C : Nat → ClassId) (sz : Nat) (aM : Nat → Nat)  (ms : Nat → Int32) (mw : Nat → Int64) (ma : Nat → Nat → Int32) (ml : Nat → Nat → Int64) (p1 : Int32) (p2 : Int32) {post : (Nat → Int32) → (Nat → Nat → Int32) → (Nat → Nat → Int64) → Prop} (h : P_X12_laysGrowth ms ma ml p1 p2 post) : Met l yX12_laysGrowth vsX12_laysGrowth rmX12_laysGrowth (cPre D C [.ref (aM 0), .int p1, .int p2] sz (wM aM C ms mw ma ml)) (cQv D (fun (u : (Nat → Int32) × (Nat → Nat → Int32) × (Nat → Nat → Int64)) => post u.1 u.2.1 u.2.2) (fun u => wM aM C u.1 mw u.2.1 u.2.2) (va_A (List.flatten (wM aM C ms mw ma ml)) sz)) 0 0 (va_A (List.flatten (wM aM C ms mw ma ml)) sz) := by
  refine cStart (QA := fun A => cQv D (fun (u : (Nat → Int32) × (Nat → Nat → Int32) × (Nat → Nat → Int64)) => post u.1 u.2.1 u.2.2) (fun u => wM aM C u.1 mw u.2.1 u.2.2) A) (cc := cX12_laysGrowth) (maxL := 5) (ret := none) (by decide) (Nat.le_of_ble_eq_true rfl) ?_
  intro p e s m args below meth c A ls hx hb hr hml hown hw hlocks hname hK hN hA hP hD hS hl
  generalize hQ : MQ below _ args s 0 0 A = Q
  have hl : lv_has ls 5 [(0, .ref (aM 0)), (1, .int p1), (2, .int p2)] := hl
  obtain ⟨H, hH⟩ : ∃ H, H = s.heap := ⟨_, rfl⟩
  obtain ⟨locs, hlo⟩ : ∃ z : List Loc, z = [] := ⟨_, rfl⟩
  have hP : va_P D vwCl (List.flatten (wM aM C ms mw ma ml)) H := by rw [hH]; exact hP
  have hS : va_S A s.heap H locs := by rw [hH, hlo]; exact hS
  rw [show W p l e rmX12_laysGrowth s m args below meth c s.heap [] 0 0 Q (F0 m 0 ls []) = W p l e rmX12_laysGrowth s m args below meth c H locs 0 0 Q (F0 m 0 ls []) from by rw [hH, hlo]]
  have N86 : ∀ (x3_ : Int32) (ms : Nat → Int32) (ma : Nat → Nat → Int32) (ml : Nat → Nat → Int64) (H : Heap) (locs : List Loc) (ls : Array Slot), P_X12_laysGrowth_86 p1 p2 post  x3_ ms ma ml → va_P D vwCl (List.flatten (wM aM C ms mw ma ml)) H → va_D A (List.flatten (wM aM C ms mw ma ml)) → va_S A s.heap H locs → lv_has ls 5 [(0, .ref (aM 0)), (1, .int p1), (3, .int x3_)] → W p l e rmX12_laysGrowth s m args below meth c H locs 0 0 Q (F0 m 86 ls []) := by
    intro x3_ ms ma ml H locs ls h hP hD hS hl
    refine lv_aload_n hx hb dX12_laysGrowth_86 rfl (lv_at hl 0 rfl) ?_
    refine lv_iload_n hx hb dX12_laysGrowth_87 rfl (lv_at hl 1 rfl) ?_
    refine lv_iload_n hx hb dX12_laysGrowth_88 rfl (lv_at hl 2 rfl) ?_
    refine cGoV (wo := fun u => wM aM C ms mw u ml) (cRunV (As := [.int p1, .int x3_]) (rest := []) ⟨hx, hb, hml, hown, hw⟩ hK hN hP hD [0, 1, 2, 3, 4, 5, 6, 7, 8, 9, 10, 11, 12, 13, 14, 15, 16, 17, 18, 19, 20, 21, 22, 23, 24, 25, 26, 27, 28, 29, 30, 31, 32] rfl rfl (k_X12_hasOption l D C _ aM  ms mw ma ml p1 x3_ h) (cwV 2 hw (goodV mw_8_48 mw_8_50 mw_s155 mw_1_13 mw_8_51) rfl rfl rfl (by decide +kernel) ⟨Nat.le_of_ble_eq_true rfl, Nat.le_of_ble_eq_true rfl⟩) rfl rfl rfl hl.1 rfl (Nat.le_of_ble_eq_true rfl) dX12_laysGrowth_89 ⟨Nat.zero_le _, Nat.zero_le _⟩) hP hD hS hA [0, 1, 2, 3, 4, 5, 6, 7, 8, 9, 10, 11, 12, 13, 14, 15, 16, 17, 18, 19, 20, 21, 22, 23, 24, 25, 26, 27, 28, 29, 30, 31, 32] [] [0, 1, 2, 3, 4, 5, 6, 7, 8, 9, 10, 11, 12, 13, 14, 15, 16, 17, 18, 19, 20, 21, 22, 23, 24, 25, 26, 27, 28, 29, 30, 31, 32] rfl rfl rfl (by decide) rfl (fun _ => rfl) (fun ma_1 H locs h hP hD hS => ?_)
    have hP : va_P D vwCl (List.flatten (wM aM C ms mw ma_1 ml)) H := hP
    have hD : va_D A (List.flatten (wM aM C ms mw ma_1 ml)) := hD
    rw [← hQ]
    exact cRetV (ms, ma_1, ml) hx hb hr hlocks hS hP hD h dX12_laysGrowth_92
  have N53 : ∀ (x3_ : Int32) (ms : Nat → Int32) (ma : Nat → Nat → Int32) (n53 : Nat) (x4_ : Int32) (ml : Nat → Nat → Int64) (H : Heap) (locs : List Loc) (ls : Array Slot), P_X12_laysGrowth_53 p1 p2 post (fun (x3_ : Int32) (ms : Nat → Int32) (ma : Nat → Nat → Int32) (ml : Nat → Nat → Int64) => P_X12_laysGrowth_86 p1 p2 post  x3_ ms ma ml) x3_ ms ma n53 x4_ ml → va_P D vwCl (List.flatten (wM aM C ms mw ma ml)) H → va_D A (List.flatten (wM aM C ms mw ma ml)) → va_S A s.heap H locs → lv_has ls 5 [(0, .ref (aM 0)), (1, .int p1), (3, .int x3_), (4, .int x4_)] → W p l e rmX12_laysGrowth s m args below meth c H locs 0 0 Q (F0 m 53 ls []) := by
    intro x3_ ms ma
    intro n53
    induction n53 with
    | zero => intro x4_ ml H locs ls h hP hD hS hl; exact False.elim h
    | succ n53 ih53 =>
      intro x4_ ml H locs ls h hP hD hS hl
      refine lv_iload hx hb dX12_laysGrowth_53 (lv_at hl 3 rfl) ?_
      refine lv_aload_n hx hb dX12_laysGrowth_55 rfl (lv_at hl 0 rfl) ?_
      refine va_get (D := D) (ci := 12) (v := .ref (aM 13)) (C := RX12) (T := TX12) (N := 51) hx hb hw inW_X12 hown hK hP 0 rfl rfl 23 (by decide) (hw _ mw_6_66) (fun _ h9 => h9) rfl dX12_laysGrowth_56 ?_
      refine lv_iconst (v := 0) hx hb dX12_laysGrowth_59 (by decide) ?_
      refine cIald hx hb hK hP 13 0 rfl rfl 0 (by decide +kernel) (cIn (by decide +kernel)) dX12_laysGrowth_60 ?_
      refine lv_icmp_ge (tgt := 86) hx hb dX12_laysGrowth_61 (by decide) (fun c2 => ?_) (fun c2 => ?_)
      · have h := h.1 c2
        exact N86 x3_ ms ma ml _ _ _ h hP hD hS (lv_sub hl [0, 1, 2] rfl)
      · have h := h.2 c2
        refine lv_aload_n hx hb dX12_laysGrowth_64 rfl (lv_at hl 0 rfl) ?_
        refine va_get (D := D) (ci := 12) (v := .ref (aM 27)) (C := RX12) (T := TX12) (N := 51) hx hb hw inW_X12 hown hK hP 0 rfl rfl 42 (by decide) (hw _ mw_6_85) (fun _ h9 => h9) rfl dX12_laysGrowth_65 ?_
        refine lv_iload hx hb dX12_laysGrowth_68 (lv_at hl 3 rfl) ?_
        refine lv_dup2_11 hx hb dX12_laysGrowth_70 rfl rfl ?_
        refine cLald hx hb hK hP 27 1 rfl rfl x4_.toNatClampNeg rfl h.1 dX12_laysGrowth_71 ?_
        have h := h.2
        refine lv_aload_n hx hb dX12_laysGrowth_72 rfl (lv_at hl 0 rfl) ?_
        refine lv_iload hx hb dX12_laysGrowth_73 (lv_at hl 3 rfl) ?_
        refine cGoL (wo := fun u => wM aM C ms mw ma ml) (cRunV (As := [.int x4_]) (rest := [.long (ml 5 x4_.toNatClampNeg), .int x4_, .ref (aM 27)]) ⟨hx, hb, hml, hown, hw⟩ hK hN hP hD [0, 1, 2, 3, 4, 5, 6, 7, 8, 9, 10, 11, 12, 13, 14, 15, 16, 17, 18, 19, 20, 21, 22, 23, 24, 25, 26, 27, 28, 29, 30, 31, 32] rfl rfl (k_X12_riskOf l D C _ aM  ms mw ma ml x4_ h) (cwV 1 hw (goodV mw_7_229 mw_7_231 mw_s145 mw_1_13 mw_7_232) rfl rfl rfl (by decide +kernel) ⟨Nat.le_of_ble_eq_true rfl, Nat.le_of_ble_eq_true rfl⟩) rfl rfl rfl hl.1 rfl (Nat.le_of_ble_eq_true rfl) dX12_laysGrowth_75 ⟨Nat.zero_le _, Nat.zero_le _⟩) hP hD hS hA [0, 1, 2, 3, 4, 5, 6, 7, 8, 9, 10, 11, 12, 13, 14, 15, 16, 17, 18, 19, 20, 21, 22, 23, 24, 25, 26, 27, 28, 29, 30, 31, 32] [] [0, 1, 2, 3, 4, 5, 6, 7, 8, 9, 10, 11, 12, 13, 14, 15, 16, 17, 18, 19, 20, 21, 22, 23, 24, 25, 26, 27, 28, 29, 30, 31, 32] rfl rfl rfl (by decide) rfl (fun _ => rfl) (fun r3 u H locs h hP hD hS => ?_)
        have hP : va_P D vwCl (List.flatten (wM aM C ms mw ma ml)) H := hP
        have hD : va_D A (List.flatten (wM aM C ms mw ma ml)) := hD
        refine lv_ladd hx hb dX12_laysGrowth_78 ?_
        refine cLast hx hb hK hP hD hS 27 1 rfl rfl x4_.toNatClampNeg rfl h.1 dX12_laysGrowth_79 (fun H locs hP hD hS => ?_)
        have h := h.2
        refine lv_iinc (v := (x4_ + 1)) (lv' := [(4, .int (x4_ + 1)), (0, .ref (aM 0)), (1, .int p1), (3, .int x3_)]) hx hb dX12_laysGrowth_80 hl (k := 3) rfl rfl (by decide) rfl (fun ls hl => ?_)
        refine lv_goto (tgt := 53) hx hb dX12_laysGrowth_83 (by decide) ?_
        have hP : va_P D vwCl (List.flatten (wM aM C ms mw ma (va_up ml 5 (vp_updL (ml 5) x4_.toNatClampNeg ((ml 5 x4_.toNatClampNeg) + r3))))) H := hP
        have hD : va_D A (List.flatten (wM aM C ms mw ma (va_up ml 5 (vp_updL (ml 5) x4_.toNatClampNeg ((ml 5 x4_.toNatClampNeg) + r3))))) := hD
        exact ih53 (x4_ + 1) (va_up ml 5 (vp_updL (ml 5) x4_.toNatClampNeg ((ml 5 x4_.toNatClampNeg) + r3))) _ _ _ h hP hD hS (lv_sub hl [1, 2, 3, 0] rfl)
  have N34 : ∀ (ms : Nat → Int32) (ma : Nat → Nat → Int32) (ml : Nat → Nat → Int64) (H : Heap) (locs : List Loc) (ls : Array Slot), P_X12_laysGrowth_34 p1 p2 post  ms ma ml → va_P D vwCl (List.flatten (wM aM C ms mw ma ml)) H → va_D A (List.flatten (wM aM C ms mw ma ml)) → va_S A s.heap H locs → lv_has ls 5 [(0, .ref (aM 0)), (1, .int p1), (2, .int p2)] → W p l e rmX12_laysGrowth s m args below meth c H locs 0 0 Q (F0 m 34 ls []) := by
    intro ms ma ml H locs ls h hP hD hS hl
    refine lv_aload_n hx hb dX12_laysGrowth_34 rfl (lv_at hl 0 rfl) ?_
    refine lv_iload_n hx hb dX12_laysGrowth_35 rfl (lv_at hl 1 rfl) ?_
    refine cGoI (wo := fun u => wM aM C ms mw ma ml) (cRunV (As := [.int p1]) (rest := []) ⟨hx, hb, hml, hown, hw⟩ hK hN hP hD [0, 1, 2, 3, 4, 5, 6, 7, 8, 9, 10, 11, 12, 13, 14, 15, 16, 17, 18, 19, 20, 21, 22, 23, 24, 25, 26, 27, 28, 29, 30, 31, 32] rfl rfl (k_X12_optionOf l D C _ aM  ms mw ma ml p1 h) (cwV 1 hw (goodV mw_8_44 mw_8_46 mw_s154 mw_1_13 mw_8_47) rfl rfl rfl (by decide +kernel) ⟨Nat.le_of_ble_eq_true rfl, Nat.le_of_ble_eq_true rfl⟩) rfl rfl rfl hl.1 rfl (Nat.le_of_ble_eq_true rfl) dX12_laysGrowth_36 ⟨Nat.zero_le _, Nat.zero_le _⟩) hP hD hS hA [0, 1, 2, 3, 4, 5, 6, 7, 8, 9, 10, 11, 12, 13, 14, 15, 16, 17, 18, 19, 20, 21, 22, 23, 24, 25, 26, 27, 28, 29, 30, 31, 32] [] [0, 1, 2, 3, 4, 5, 6, 7, 8, 9, 10, 11, 12, 13, 14, 15, 16, 17, 18, 19, 20, 21, 22, 23, 24, 25, 26, 27, 28, 29, 30, 31, 32] rfl rfl rfl (by decide) rfl (fun _ => rfl) (fun r4 u H locs h hP hD hS => ?_)
    have hP : va_P D vwCl (List.flatten (wM aM C ms mw ma ml)) H := hP
    have hD : va_D A (List.flatten (wM aM C ms mw ma ml)) := hD
    refine lv_istore_n (lv' := [(3, .int r4), (0, .ref (aM 0)), (1, .int p1), (2, .int p2)]) hx hb dX12_laysGrowth_39 rfl hl (by decide) rfl (fun ls hl => ?_)
    refine lv_aload_n hx hb dX12_laysGrowth_40 rfl (lv_at hl 1 rfl) ?_
    refine lv_iload_n hx hb dX12_laysGrowth_41 rfl (lv_at hl 2 rfl) ?_
    refine lv_iload_n hx hb dX12_laysGrowth_42 rfl (lv_at hl 3 rfl) ?_
    refine cGoV (wo := fun u => wM aM C ms mw u ml) (cRunV (As := [.int p1, .int p2]) (rest := []) ⟨hx, hb, hml, hown, hw⟩ hK hN hP hD [0, 1, 2, 3, 4, 5, 6, 7, 8, 9, 10, 11, 12, 13, 14, 15, 16, 17, 18, 19, 20, 21, 22, 23, 24, 25, 26, 27, 28, 29, 30, 31, 32] rfl rfl (k_X12_hasOption l D C _ aM  ms mw ma ml p1 p2 h) (cwV 2 hw (goodV mw_8_48 mw_8_50 mw_s155 mw_1_13 mw_8_51) rfl rfl rfl (by decide +kernel) ⟨Nat.le_of_ble_eq_true rfl, Nat.le_of_ble_eq_true rfl⟩) rfl rfl rfl hl.1 rfl (Nat.le_of_ble_eq_true rfl) dX12_laysGrowth_43 ⟨Nat.zero_le _, Nat.zero_le _⟩) hP hD hS hA [0, 1, 2, 3, 4, 5, 6, 7, 8, 9, 10, 11, 12, 13, 14, 15, 16, 17, 18, 19, 20, 21, 22, 23, 24, 25, 26, 27, 28, 29, 30, 31, 32] [] [0, 1, 2, 3, 4, 5, 6, 7, 8, 9, 10, 11, 12, 13, 14, 15, 16, 17, 18, 19, 20, 21, 22, 23, 24, 25, 26, 27, 28, 29, 30, 31, 32] rfl rfl rfl (by decide) rfl (fun _ => rfl) (fun ma_5 H locs h hP hD hS => ?_)
    have hP : va_P D vwCl (List.flatten (wM aM C ms mw ma_5 ml)) H := hP
    have hD : va_D A (List.flatten (wM aM C ms mw ma_5 ml)) := hD
    refine lv_aload_n hx hb dX12_laysGrowth_46 rfl (lv_at hl 1 rfl) ?_
    refine cGoV (wo := fun u => wM aM C u.1 mw u.2.1 u.2.2) (cRunV (As := []) (rest := []) ⟨hx, hb, hml, hown, hw⟩ hK hN hP hD [0, 1, 2, 3, 4, 5, 6, 7, 8, 9, 10, 11, 12, 13, 14, 15, 16, 17, 18, 19, 20, 21, 22, 23, 24, 25, 26, 27, 28, 29, 30, 31, 32] rfl rfl (k_X12_night l D C _ aM  ms mw ma_5 ml  h) (cwV 0 hw (goodV mw_7_209 mw_7_211 mw_s143 mw_1_13 mw_7_212) rfl rfl rfl (by decide +kernel) ⟨Nat.le_of_ble_eq_true rfl, Nat.le_of_ble_eq_true rfl⟩) rfl rfl rfl hl.1 rfl (Nat.le_of_ble_eq_true rfl) dX12_laysGrowth_47 ⟨Nat.zero_le _, Nat.zero_le _⟩) hP hD hS hA [0, 1, 2, 3, 4, 5, 6, 7, 8, 9, 10, 11, 12, 13, 14, 15, 16, 17, 18, 19, 20, 21, 22, 23, 24, 25, 26, 27, 28, 29, 30, 31, 32] [] [0, 1, 2, 3, 4, 5, 6, 7, 8, 9, 10, 11, 12, 13, 14, 15, 16, 17, 18, 19, 20, 21, 22, 23, 24, 25, 26, 27, 28, 29, 30, 31, 32] rfl rfl rfl (by decide) rfl (fun _ => rfl) (fun u H locs h hP hD hS => ?_)
    obtain ⟨ms_6, ma_7, ml_8⟩ := u
    have hP : va_P D vwCl (List.flatten (wM aM C ms_6 mw ma_7 ml_8)) H := hP
    have hD : va_D A (List.flatten (wM aM C ms_6 mw ma_7 ml_8)) := hD
    refine lv_iconst (v := 0) hx hb dX12_laysGrowth_50 (by decide) ?_
    refine lv_istore (lv' := [(4, .int 0), (3, .int r4), (0, .ref (aM 0)), (1, .int p1), (2, .int p2)]) hx hb dX12_laysGrowth_51 hl (by decide) rfl (fun ls hl => ?_)
    obtain ⟨n, h⟩ := h
    exact N53 r4 ms_6 ma_7 n 0 ml_8 _ _ _ h hP hD hS (lv_sub hl [2, 3, 1, 0] rfl)
  have N6 : ∀ (ms : Nat → Int32) (ma : Nat → Nat → Int32) (n6 : Nat) (x3_ : Int32) (ml : Nat → Nat → Int64) (H : Heap) (locs : List Loc) (ls : Array Slot), P_X12_laysGrowth_6 p1 p2 post (fun (ms : Nat → Int32) (ma : Nat → Nat → Int32) (ml : Nat → Nat → Int64) => P_X12_laysGrowth_34 p1 p2 post  ms ma ml) ms ma n6 x3_ ml → va_P D vwCl (List.flatten (wM aM C ms mw ma ml)) H → va_D A (List.flatten (wM aM C ms mw ma ml)) → va_S A s.heap H locs → lv_has ls 5 [(0, .ref (aM 0)), (1, .int p1), (2, .int p2), (3, .int x3_)] → W p l e rmX12_laysGrowth s m args below meth c H locs 0 0 Q (F0 m 6 ls []) := by
    intro ms ma
    intro n6
    induction n6 with
    | zero => intro x3_ ml H locs ls h hP hD hS hl; exact False.elim h
    | succ n6 ih6 =>
      intro x3_ ml H locs ls h hP hD hS hl
      refine lv_iload_n hx hb dX12_laysGrowth_6 rfl (lv_at hl 3 rfl) ?_
      refine lv_aload_n hx hb dX12_laysGrowth_7 rfl (lv_at hl 0 rfl) ?_
      refine va_get (D := D) (ci := 12) (v := .ref (aM 13)) (C := RX12) (T := TX12) (N := 51) hx hb hw inW_X12 hown hK hP 0 rfl rfl 23 (by decide) (hw _ mw_6_66) (fun _ h9 => h9) rfl dX12_laysGrowth_8 ?_
      refine lv_iconst (v := 0) hx hb dX12_laysGrowth_11 (by decide) ?_
      refine cIald hx hb hK hP 13 0 rfl rfl 0 (by decide +kernel) (cIn (by decide +kernel)) dX12_laysGrowth_12 ?_
      refine lv_icmp_ge (tgt := 34) hx hb dX12_laysGrowth_13 (by decide) (fun c9 => ?_) (fun c9 => ?_)
      · have h := h.1 c9
        exact N34 ms ma ml _ _ _ h hP hD hS (lv_sub hl [0, 1, 2] rfl)
      · have h := h.2 c9
        refine lv_aload_n hx hb dX12_laysGrowth_16 rfl (lv_at hl 0 rfl) ?_
        refine va_get (D := D) (ci := 12) (v := .ref (aM 27)) (C := RX12) (T := TX12) (N := 51) hx hb hw inW_X12 hown hK hP 0 rfl rfl 42 (by decide) (hw _ mw_6_85) (fun _ h9 => h9) rfl dX12_laysGrowth_17 ?_
        refine lv_iload_n hx hb dX12_laysGrowth_20 rfl (lv_at hl 3 rfl) ?_
        refine lv_aload_n hx hb dX12_laysGrowth_21 rfl (lv_at hl 0 rfl) ?_
        refine lv_iload_n hx hb dX12_laysGrowth_22 rfl (lv_at hl 3 rfl) ?_
        refine cGoL (wo := fun u => wM aM C ms mw ma ml) (cRunV (As := [.int x3_]) (rest := [.int x3_, .ref (aM 27)]) ⟨hx, hb, hml, hown, hw⟩ hK hN hP hD [0, 1, 2, 3, 4, 5, 6, 7, 8, 9, 10, 11, 12, 13, 14, 15, 16, 17, 18, 19, 20, 21, 22, 23, 24, 25, 26, 27, 28, 29, 30, 31, 32] rfl rfl (k_X12_riskOf l D C _ aM  ms mw ma ml x3_ h) (cwV 1 hw (goodV mw_7_229 mw_7_231 mw_s145 mw_1_13 mw_7_232) rfl rfl rfl (by decide +kernel) ⟨Nat.le_of_ble_eq_true rfl, Nat.le_of_ble_eq_true rfl⟩) rfl rfl rfl hl.1 rfl (Nat.le_of_ble_eq_true rfl) dX12_laysGrowth_23 ⟨Nat.zero_le _, Nat.zero_le _⟩) hP hD hS hA [0, 1, 2, 3, 4, 5, 6, 7, 8, 9, 10, 11, 12, 13, 14, 15, 16, 17, 18, 19, 20, 21, 22, 23, 24, 25, 26, 27, 28, 29, 30, 31, 32] [] [0, 1, 2, 3, 4, 5, 6, 7, 8, 9, 10, 11, 12, 13, 14, 15, 16, 17, 18, 19, 20, 21, 22, 23, 24, 25, 26, 27, 28, 29, 30, 31, 32] rfl rfl rfl (by decide) rfl (fun _ => rfl) (fun r10 u H locs h hP hD hS => ?_)
        have hP : va_P D vwCl (List.flatten (wM aM C ms mw ma ml)) H := hP
        have hD : va_D A (List.flatten (wM aM C ms mw ma ml)) := hD
        refine lv_lneg hx hb dX12_laysGrowth_26 ?_
        refine cLast hx hb hK hP hD hS 27 1 rfl rfl x3_.toNatClampNeg rfl h.1 dX12_laysGrowth_27 (fun H locs hP hD hS => ?_)
        have h := h.2
        refine lv_iinc (v := (x3_ + 1)) (lv' := [(3, .int (x3_ + 1)), (0, .ref (aM 0)), (1, .int p1), (2, .int p2)]) hx hb dX12_laysGrowth_28 hl (k := 3) rfl rfl (by decide) rfl (fun ls hl => ?_)
        refine lv_goto (tgt := 6) hx hb dX12_laysGrowth_31 (by decide) ?_
        have hP : va_P D vwCl (List.flatten (wM aM C ms mw ma (va_up ml 5 (vp_updL (ml 5) x3_.toNatClampNeg (-r10))))) H := hP
        have hD : va_D A (List.flatten (wM aM C ms mw ma (va_up ml 5 (vp_updL (ml 5) x3_.toNatClampNeg (-r10))))) := hD
        exact ih6 (x3_ + 1) (va_up ml 5 (vp_updL (ml 5) x3_.toNatClampNeg (-r10))) _ _ _ h hP hD hS (lv_sub hl [1, 2, 3, 0] rfl)
  refine lv_aload_n hx hb dX12_laysGrowth_0 rfl (lv_at hl 0 rfl) ?_
  refine cGoV (wo := fun u => wM aM C u.1 mw u.2.1 u.2.2) (cRunV (As := []) (rest := []) ⟨hx, hb, hml, hown, hw⟩ hK hN hP hD [0, 1, 2, 3, 4, 5, 6, 7, 8, 9, 10, 11, 12, 13, 14, 15, 16, 17, 18, 19, 20, 21, 22, 23, 24, 25, 26, 27, 28, 29, 30, 31, 32] rfl rfl (k_X12_night l D C _ aM  ms mw ma ml  h) (cwV 0 hw (goodV mw_7_209 mw_7_211 mw_s143 mw_1_13 mw_7_212) rfl rfl rfl (by decide +kernel) ⟨Nat.le_of_ble_eq_true rfl, Nat.le_of_ble_eq_true rfl⟩) rfl rfl rfl hl.1 rfl (Nat.le_of_ble_eq_true rfl) dX12_laysGrowth_1 ⟨Nat.zero_le _, Nat.zero_le _⟩) hP hD hS hA [0, 1, 2, 3, 4, 5, 6, 7, 8, 9, 10, 11, 12, 13, 14, 15, 16, 17, 18, 19, 20, 21, 22, 23, 24, 25, 26, 27, 28, 29, 30, 31, 32] [] [0, 1, 2, 3, 4, 5, 6, 7, 8, 9, 10, 11, 12, 13, 14, 15, 16, 17, 18, 19, 20, 21, 22, 23, 24, 25, 26, 27, 28, 29, 30, 31, 32] rfl rfl rfl (by decide) rfl (fun _ => rfl) (fun u H locs h hP hD hS => ?_)
  obtain ⟨ms_11, ma_12, ml_13⟩ := u
  have hP : va_P D vwCl (List.flatten (wM aM C ms_11 mw ma_12 ml_13)) H := hP
  have hD : va_D A (List.flatten (wM aM C ms_11 mw ma_12 ml_13)) := hD
  refine lv_iconst (v := 0) hx hb dX12_laysGrowth_4 (by decide) ?_
  refine lv_istore_n (lv' := [(3, .int 0), (0, .ref (aM 0)), (1, .int p1), (2, .int p2)]) hx hb dX12_laysGrowth_5 rfl hl (by decide) rfl (fun ls hl => ?_)
  obtain ⟨n, h⟩ := h
  exact N6 ms_11 ma_12 n 0 ml_13 _ _ _ h hP hD hS (lv_sub hl [1, 2, 3, 0] rfl)
abbrev vsX12_beside : List Cond := Cond.code yX12_beside cX12_beside 4 (some .long) :: WS
abbrev rmX12_beside : Room := { frames := 6, cells := 0, slots := 0, locals := 143 }
set_option maxHeartbeats 4000000 in
set_option maxRecDepth 100000 in
theorem k_X12_beside (l : Launch) (D : va_G) (C : Nat → ClassId) (sz : Nat) (aM : Nat → Nat)  (ms : Nat → Int32) (mw : Nat → Int64) (ma : Nat → Nat → Int32) (ml : Nat → Nat → Int64) (p1 : Int32) (p2 : Int32) (p3 : Int32) {post : Int64 → (Nat → Int32) → (Nat → Nat → Int32) → (Nat → Nat → Int64) → Prop} (h : P_X12_beside ms ma ml p1 p2 p3 post) : Met l yX12_beside vsX12_beside rmX12_beside (cPre D C [.ref (aM 0), .int p1, .int p2, .int p3] sz (wM aM C ms mw ma ml)) (cQl D (fun (r : Int64) (u : (Nat → Int32) × (Nat → Nat → Int32) × (Nat → Nat → Int64)) => post r u.1 u.2.1 u.2.2) (fun u => wM aM C u.1 mw u.2.1 u.2.2) (va_A (List.flatten (wM aM C ms mw ma ml)) sz)) 0 0 (va_A (List.flatten (wM aM C ms mw ma ml)) sz) := by
  refine cStart (QA := fun A => cQl D (fun (r : Int64) (u : (Nat → Int32) × (Nat → Nat → Int32) × (Nat → Nat → Int64)) => post r u.1 u.2.1 u.2.2) (fun u => wM aM C u.1 mw u.2.1 u.2.2) A) (cc := cX12_beside) (maxL := 4) (ret := (some .long)) (by decide) (Nat.le_of_ble_eq_true rfl) ?_
  intro p e s m args below meth c A ls hx hb hr hml hown hw hlocks hname hK hN hA hP hD hS hl
  generalize hQ : MQ below _ args s 0 0 A = Q
  have hl : lv_has ls 4 [(0, .ref (aM 0)), (1, .int p1), (2, .int p2), (3, .int p3)] := hl
  obtain ⟨H, hH⟩ : ∃ H, H = s.heap := ⟨_, rfl⟩
  obtain ⟨locs, hlo⟩ : ∃ z : List Loc, z = [] := ⟨_, rfl⟩
  have hP : va_P D vwCl (List.flatten (wM aM C ms mw ma ml)) H := by rw [hH]; exact hP
  have hS : va_S A s.heap H locs := by rw [hH, hlo]; exact hS
  rw [show W p l e rmX12_beside s m args below meth c s.heap [] 0 0 Q (F0 m 0 ls []) = W p l e rmX12_beside s m args below meth c H locs 0 0 Q (F0 m 0 ls []) from by rw [hH, hlo]]
  refine lv_aload_n hx hb dX12_beside_0 rfl (lv_at hl 0 rfl) ?_
  refine lv_iconst (v := 0) hx hb dX12_beside_1 (by decide) ?_
  refine va_put (D := D) (ci := 12) (v := .int 0) (ty := .int) (C := RX12) (T := TX12) (N := 51) hx hb hw inW_X12 tyX12 tyX12_ok nmX12 hown hK hP hD hS 0 rfl rfl 0 (by decide) (hw _ mw_6_43) (fun _ h9 => h9) rfl (by decide +kernel) rfl rfl (Nat.le_of_ble_eq_true rfl) dX12_beside_2 (fun H locs hP hD hS => ?_)
  refine lv_aload_n hx hb dX12_beside_5 rfl (lv_at hl 0 rfl) ?_
  refine lv_iload_n hx hb dX12_beside_6 rfl (lv_at hl 1 rfl) ?_
  refine lv_iload_n hx hb dX12_beside_7 rfl (lv_at hl 3 rfl) ?_
  have hP : va_P D vwCl (List.flatten (wM aM C (va_up ms 0 0) mw ma ml)) H := hP
  have hD : va_D A (List.flatten (wM aM C (va_up ms 0 0) mw ma ml)) := hD
  refine cGoI (wo := fun u => wM aM C (va_up ms 0 0) mw ma ml) (cRunV (As := [.int p1, .int p3]) (rest := []) ⟨hx, hb, hml, hown, hw⟩ hK hN hP hD [0, 1, 2, 3, 4, 5, 6, 7, 8, 9, 10, 11, 12, 13, 14, 15, 16, 17, 18, 19, 20, 21, 22, 23, 24, 25, 26, 27, 28, 29, 30, 31, 32] rfl rfl (k_X12_areTwo l D C _ aM  (va_up ms 0 0) mw ma ml p1 p3 h) (cwV 2 hw (goodV mw_8_126 mw_8_128 mw_s165 mw_1_13 mw_8_129) rfl rfl rfl (by decide +kernel) ⟨Nat.le_of_ble_eq_true rfl, Nat.le_of_ble_eq_true rfl⟩) rfl rfl rfl hl.1 rfl (Nat.le_of_ble_eq_true rfl) dX12_beside_8 ⟨Nat.zero_le _, Nat.zero_le _⟩) hP hD hS hA [0, 1, 2, 3, 4, 5, 6, 7, 8, 9, 10, 11, 12, 13, 14, 15, 16, 17, 18, 19, 20, 21, 22, 23, 24, 25, 26, 27, 28, 29, 30, 31, 32] [] [0, 1, 2, 3, 4, 5, 6, 7, 8, 9, 10, 11, 12, 13, 14, 15, 16, 17, 18, 19, 20, 21, 22, 23, 24, 25, 26, 27, 28, 29, 30, 31, 32] rfl rfl rfl (by decide) rfl (fun _ => rfl) (fun r1 u H locs h hP hD hS => ?_)
  have hP : va_P D vwCl (List.flatten (wM aM C (va_up ms 0 0) mw ma ml)) H := hP
  have hD : va_D A (List.flatten (wM aM C (va_up ms 0 0) mw ma ml)) := hD
  refine lv_if_eq (tgt := 22) hx hb dX12_beside_11 (by decide) (fun c2 => ?_) (fun c2 => ?_)
  · have h := h.1 c2
    refine lv_ldc2 (v := (-1000000000000)) hx hb hown (hw _ mw_8_134) dX12_beside_22 ?_
    rw [← hQ]
    exact cRetL (v := (-1000000000000)) ((va_up ms 0 0), ma, ml) hx hb hr hlocks hS hP hD h dX12_beside_25
  · have h := h.2 c2
    refine lv_aload_n hx hb dX12_beside_14 rfl (lv_at hl 0 rfl) ?_
    refine lv_iload_n hx hb dX12_beside_15 rfl (lv_at hl 2 rfl) ?_
    refine cGoI (wo := fun u => wM aM C (va_up ms 0 0) mw ma ml) (cRunV (As := [.int p2]) (rest := []) ⟨hx, hb, hml, hown, hw⟩ hK hN hP hD [0, 1, 2, 3, 4, 5, 6, 7, 8, 9, 10, 11, 12, 13, 14, 15, 16, 17, 18, 19, 20, 21, 22, 23, 24, 25, 26, 27, 28, 29, 30, 31, 32] rfl rfl (k_X12_isOption l D C _ aM  (va_up ms 0 0) mw ma ml p2 h) (cwV 1 hw (goodV mw_8_36 mw_8_38 mw_s152 mw_1_13 mw_8_39) rfl rfl rfl (by decide +kernel) ⟨Nat.le_of_ble_eq_true rfl, Nat.le_of_ble_eq_true rfl⟩) rfl rfl rfl hl.1 rfl (Nat.le_of_ble_eq_true rfl) dX12_beside_16 ⟨Nat.zero_le _, Nat.zero_le _⟩) hP hD hS hA [0, 1, 2, 3, 4, 5, 6, 7, 8, 9, 10, 11, 12, 13, 14, 15, 16, 17, 18, 19, 20, 21, 22, 23, 24, 25, 26, 27, 28, 29, 30, 31, 32] [] [0, 1, 2, 3, 4, 5, 6, 7, 8, 9, 10, 11, 12, 13, 14, 15, 16, 17, 18, 19, 20, 21, 22, 23, 24, 25, 26, 27, 28, 29, 30, 31, 32] rfl rfl rfl (by decide) rfl (fun _ => rfl) (fun r3 u H locs h hP hD hS => ?_)
    have hP : va_P D vwCl (List.flatten (wM aM C (va_up ms 0 0) mw ma ml)) H := hP
    have hD : va_D A (List.flatten (wM aM C (va_up ms 0 0) mw ma ml)) := hD
    refine lv_if_ne (tgt := 26) hx hb dX12_beside_19 (by decide) (fun c4 => ?_) (fun c4 => ?_)
    · have h := h.1 c4
      refine lv_aload_n hx hb dX12_beside_26 rfl (lv_at hl 0 rfl) ?_
      refine lv_iload_n hx hb dX12_beside_27 rfl (lv_at hl 1 rfl) ?_
      refine lv_iload_n hx hb dX12_beside_28 rfl (lv_at hl 2 rfl) ?_
      refine cGoV (wo := fun u => wM aM C u.1 mw u.2.1 u.2.2) (cRunV (As := [.int p1, .int p2]) (rest := []) ⟨hx, hb, hml, hown, hw⟩ hK hN hP hD [0, 1, 2, 3, 4, 5, 6, 7, 8, 9, 10, 11, 12, 13, 14, 15, 16, 17, 18, 19, 20, 21, 22, 23, 24, 25, 26, 27, 28, 29, 30, 31, 32] rfl rfl (k_X12_laysGrowth l D C _ aM  (va_up ms 0 0) mw ma ml p1 p2 h) (cwV 2 hw (goodV mw_8_139 mw_8_141 mw_s166 mw_1_13 mw_8_142) rfl rfl rfl (by decide +kernel) ⟨Nat.le_of_ble_eq_true rfl, Nat.le_of_ble_eq_true rfl⟩) rfl rfl rfl hl.1 rfl (Nat.le_of_ble_eq_true rfl) dX12_beside_29 ⟨Nat.zero_le _, Nat.zero_le _⟩) hP hD hS hA [0, 1, 2, 3, 4, 5, 6, 7, 8, 9, 10, 11, 12, 13, 14, 15, 16, 17, 18, 19, 20, 21, 22, 23, 24, 25, 26, 27, 28, 29, 30, 31, 32] [] [0, 1, 2, 3, 4, 5, 6, 7, 8, 9, 10, 11, 12, 13, 14, 15, 16, 17, 18, 19, 20, 21, 22, 23, 24, 25, 26, 27, 28, 29, 30, 31, 32] rfl rfl rfl (by decide) rfl (fun _ => rfl) (fun u H locs h hP hD hS => ?_)
      obtain ⟨ms_5, ma_6, ml_7⟩ := u
      have hP : va_P D vwCl (List.flatten (wM aM C ms_5 mw ma_6 ml_7)) H := hP
      have hD : va_D A (List.flatten (wM aM C ms_5 mw ma_6 ml_7)) := hD
      refine lv_aload_n hx hb dX12_beside_32 rfl (lv_at hl 0 rfl) ?_
      refine va_get (D := D) (ci := 12) (v := .ref (aM 27)) (C := RX12) (T := TX12) (N := 51) hx hb hw inW_X12 hown hK hP 0 rfl rfl 42 (by decide) (hw _ mw_6_85) (fun _ h9 => h9) rfl dX12_beside_33 ?_
      refine lv_iload_n hx hb dX12_beside_36 rfl (lv_at hl 3 rfl) ?_
      refine cLald hx hb hK hP 27 1 rfl rfl p3.toNatClampNeg rfl h.1 dX12_beside_37 ?_
      have h := h.2
      rw [← hQ]
      exact cRetL (v := (ml_7 5 p3.toNatClampNeg)) (ms_5, ma_6, ml_7) hx hb hr hlocks hS hP hD h dX12_beside_38
    · have h := h.2 c4
      refine lv_ldc2 (v := (-1000000000000)) hx hb hown (hw _ mw_8_134) dX12_beside_22 ?_
      rw [← hQ]
      exact cRetL (v := (-1000000000000)) ((va_up ms 0 0), ma, ml) hx hb hr hlocks hS hP hD h dX12_beside_25
abbrev vsX12_worse : List Cond := Cond.code yX12_worse cX12_worse 5 (some .int) :: WS
abbrev rmX12_worse : Room := { frames := 6, cells := 0, slots := 0, locals := 143 }
set_option maxHeartbeats 4000000 in
set_option maxRecDepth 100000 in
theorem k_X12_worse (l : Launch) (D : va_G) (C : Nat → ClassId) (sz : Nat) (aM : Nat → Nat)  (ms : Nat → Int32) (mw : Nat → Int64) (ma : Nat → Nat → Int32) (ml : Nat → Nat → Int64) (p1 : Int32) (p2 : Int32) {post : Int32 → (Nat → Int32) → (Nat → Nat → Int32) → (Nat → Nat → Int64) → Prop} (h : P_X12_worse ms ma ml p1 p2 post) : Met l yX12_worse vsX12_worse rmX12_worse (cPre D C [.ref (aM 0), .int p1, .int p2] sz (wM aM C ms mw ma ml)) (cQi D (fun (r : Int32) (u : (Nat → Int32) × (Nat → Nat → Int32) × (Nat → Nat → Int64)) => post r u.1 u.2.1 u.2.2) (fun u => wM aM C u.1 mw u.2.1 u.2.2) (va_A (List.flatten (wM aM C ms mw ma ml)) sz)) 0 0 (va_A (List.flatten (wM aM C ms mw ma ml)) sz) := by
  refine cStart (QA := fun A => cQi D (fun (r : Int32) (u : (Nat → Int32) × (Nat → Nat → Int32) × (Nat → Nat → Int64)) => post r u.1 u.2.1 u.2.2) (fun u => wM aM C u.1 mw u.2.1 u.2.2) A) (cc := cX12_worse) (maxL := 5) (ret := (some .int)) (by decide) (Nat.le_of_ble_eq_true rfl) ?_
  intro p e s m args below meth c A ls hx hb hr hml hown hw hlocks hname hK hN hA hP hD hS hl
  generalize hQ : MQ below _ args s 0 0 A = Q
  have hl : lv_has ls 5 [(0, .ref (aM 0)), (1, .int p1), (2, .int p2)] := hl
  obtain ⟨H, hH⟩ : ∃ H, H = s.heap := ⟨_, rfl⟩
  obtain ⟨locs, hlo⟩ : ∃ z : List Loc, z = [] := ⟨_, rfl⟩
  have hP : va_P D vwCl (List.flatten (wM aM C ms mw ma ml)) H := by rw [hH]; exact hP
  have hS : va_S A s.heap H locs := by rw [hH, hlo]; exact hS
  rw [show W p l e rmX12_worse s m args below meth c s.heap [] 0 0 Q (F0 m 0 ls []) = W p l e rmX12_worse s m args below meth c H locs 0 0 Q (F0 m 0 ls []) from by rw [hH, hlo]]
  have N35 : ∀ (ms : Nat → Int32) (ma : Nat → Nat → Int32) (ml : Nat → Nat → Int64) (n35 : Nat) (x3_ : Int32) (x4_ : Int32) (H : Heap) (locs : List Loc) (ls : Array Slot), P_X12_worse_35 p1 p2 post  ms ma ml n35 x3_ x4_ → va_P D vwCl (List.flatten (wM aM C ms mw ma ml)) H → va_D A (List.flatten (wM aM C ms mw ma ml)) → va_S A s.heap H locs → lv_has ls 5 [(0, .ref (aM 0)), (1, .int p1), (3, .int x3_), (4, .int x4_)] → W p l e rmX12_worse s m args below meth c H locs 0 0 Q (F0 m 35 ls []) := by
    intro ms ma ml
    intro n35
    induction n35 with
    | zero => intro x3_ x4_ H locs ls h hP hD hS hl; exact False.elim h
    | succ n35 ih35 =>
      intro x3_ x4_ H locs ls h hP hD hS hl
      refine lv_iload hx hb dX12_worse_35 (lv_at hl 3 rfl) ?_
      refine lv_aload_n hx hb dX12_worse_37 rfl (lv_at hl 0 rfl) ?_
      refine va_get (D := D) (ci := 12) (v := .ref (aM 13)) (C := RX12) (T := TX12) (N := 51) hx hb hw inW_X12 hown hK hP 0 rfl rfl 23 (by decide) (hw _ mw_6_66) (fun _ h9 => h9) rfl dX12_worse_38 ?_
      refine lv_iconst (v := 0) hx hb dX12_worse_41 (by decide) ?_
      refine cIald hx hb hK hP 13 0 rfl rfl 0 (by decide +kernel) (cIn (by decide +kernel)) dX12_worse_42 ?_
      refine lv_icmp_ge (tgt := 78) hx hb dX12_worse_43 (by decide) (fun c1 => ?_) (fun c1 => ?_)
      · have h := h.1 c1
        refine lv_iload_n hx hb dX12_worse_78 rfl (lv_at hl 2 rfl) ?_
        rw [← hQ]
        exact cRetI (v := x3_) (ms, ma, ml) hx hb hr hlocks hS hP hD h dX12_worse_79
      · have h := h.2 c1
        refine lv_iload_n hx hb dX12_worse_46 rfl (lv_at hl 2 rfl) ?_
        refine lv_iload hx hb dX12_worse_47 (lv_at hl 3 rfl) ?_
        refine lv_iload_n hx hb dX12_worse_49 rfl (lv_at hl 1 rfl) ?_
        refine lv_icmp_eq (tgt := 69) hx hb dX12_worse_50 (by decide) (fun c2 => ?_) (fun c2 => ?_)
        · have h := h.1 c2
          refine lv_iconst (v := 0) hx hb dX12_worse_69 (by decide) ?_
          refine lv_iadd hx hb dX12_worse_70 ?_
          refine lv_topi (fun x3 ex3 => ?_)
          have h := h x3 ex3
          refine lv_istore_n (lv' := [(3, .int x3), (0, .ref (aM 0)), (1, .int p1), (4, .int x4_)]) hx hb dX12_worse_71 rfl hl (by decide) rfl (fun ls hl => ?_)
          refine lv_iinc (v := (x4_ + 1)) (lv' := [(4, .int (x4_ + 1)), (3, .int x3), (0, .ref (aM 0)), (1, .int p1)]) hx hb dX12_worse_72 hl (k := 3) rfl rfl (by decide) rfl (fun ls hl => ?_)
          refine lv_goto (tgt := 35) hx hb dX12_worse_75 (by decide) ?_
          exact ih35 x3 (x4_ + 1) _ _ _ h hP hD hS (lv_sub hl [2, 3, 1, 0] rfl)
        · have h := h.2 c2
          refine lv_aload_n hx hb dX12_worse_53 rfl (lv_at hl 0 rfl) ?_
          refine va_get (D := D) (ci := 12) (v := .ref (aM 27)) (C := RX12) (T := TX12) (N := 51) hx hb hw inW_X12 hown hK hP 0 rfl rfl 42 (by decide) (hw _ mw_6_85) (fun _ h9 => h9) rfl dX12_worse_54 ?_
          refine lv_iload hx hb dX12_worse_57 (lv_at hl 3 rfl) ?_
          refine cLald hx hb hK hP 27 1 rfl rfl x4_.toNatClampNeg rfl h.1 dX12_worse_59 ?_
          have h := h.2
          refine lv_lconst (v := 0) hx hb dX12_worse_60 (by decide) ?_
          refine W.lcmp hx hb dX12_worse_61 ?_
          refine lv_if_le (tgt := 69) hx hb dX12_worse_62 (by decide) (fun c4 => ?_) (fun c4 => ?_)
          · have c4 : (ml 5 x4_.toNatClampNeg) ≤ 0 := (lg_cmp_le _ _).mp c4
            have h := h.1 c4
            refine lv_iconst (v := 0) hx hb dX12_worse_69 (by decide) ?_
            refine lv_iadd hx hb dX12_worse_70 ?_
            refine lv_topi (fun x5 ex5 => ?_)
            have h := h x5 ex5
            refine lv_istore_n (lv' := [(3, .int x5), (0, .ref (aM 0)), (1, .int p1), (4, .int x4_)]) hx hb dX12_worse_71 rfl hl (by decide) rfl (fun ls hl => ?_)
            refine lv_iinc (v := (x4_ + 1)) (lv' := [(4, .int (x4_ + 1)), (3, .int x5), (0, .ref (aM 0)), (1, .int p1)]) hx hb dX12_worse_72 hl (k := 3) rfl rfl (by decide) rfl (fun ls hl => ?_)
            refine lv_goto (tgt := 35) hx hb dX12_worse_75 (by decide) ?_
            exact ih35 x5 (x4_ + 1) _ _ _ h hP hD hS (lv_sub hl [2, 3, 1, 0] rfl)
          · have c4 : ¬ (ml 5 x4_.toNatClampNeg) ≤ 0 := fun q => c4 ((lg_cmp_le _ _).mpr q)
            have h := h.2 c4
            refine lv_iconst (v := 1) hx hb dX12_worse_65 (by decide) ?_
            refine lv_goto (tgt := 70) hx hb dX12_worse_66 (by decide) ?_
            refine lv_iadd hx hb dX12_worse_70 ?_
            refine lv_topi (fun x6 ex6 => ?_)
            have h := h x6 ex6
            refine lv_istore_n (lv' := [(3, .int x6), (0, .ref (aM 0)), (1, .int p1), (4, .int x4_)]) hx hb dX12_worse_71 rfl hl (by decide) rfl (fun ls hl => ?_)
            refine lv_iinc (v := (x4_ + 1)) (lv' := [(4, .int (x4_ + 1)), (3, .int x6), (0, .ref (aM 0)), (1, .int p1)]) hx hb dX12_worse_72 hl (k := 3) rfl rfl (by decide) rfl (fun ls hl => ?_)
            refine lv_goto (tgt := 35) hx hb dX12_worse_75 (by decide) ?_
            exact ih35 x6 (x4_ + 1) _ _ _ h hP hD hS (lv_sub hl [2, 3, 1, 0] rfl)
  refine lv_aload_n hx hb dX12_worse_0 rfl (lv_at hl 0 rfl) ?_
  refine lv_iconst (v := 0) hx hb dX12_worse_1 (by decide) ?_
  refine va_put (D := D) (ci := 12) (v := .int 0) (ty := .int) (C := RX12) (T := TX12) (N := 51) hx hb hw inW_X12 tyX12 tyX12_ok nmX12 hown hK hP hD hS 0 rfl rfl 0 (by decide) (hw _ mw_6_43) (fun _ h9 => h9) rfl (by decide +kernel) rfl rfl (Nat.le_of_ble_eq_true rfl) dX12_worse_2 (fun H locs hP hD hS => ?_)
  refine lv_aload_n hx hb dX12_worse_5 rfl (lv_at hl 0 rfl) ?_
  refine lv_iload_n hx hb dX12_worse_6 rfl (lv_at hl 1 rfl) ?_
  have hP : va_P D vwCl (List.flatten (wM aM C (va_up ms 0 0) mw ma ml)) H := hP
  have hD : va_D A (List.flatten (wM aM C (va_up ms 0 0) mw ma ml)) := hD
  refine cGoI (wo := fun u => wM aM C (va_up ms 0 0) mw ma ml) (cRunV (As := [.int p1]) (rest := []) ⟨hx, hb, hml, hown, hw⟩ hK hN hP hD [0, 1, 2, 3, 4, 5, 6, 7, 8, 9, 10, 11, 12, 13, 14, 15, 16, 17, 18, 19, 20, 21, 22, 23, 24, 25, 26, 27, 28, 29, 30, 31, 32] rfl rfl (k_X12_isBike l D C _ aM  (va_up ms 0 0) mw ma ml p1 h) (cwV 1 hw (goodV mw_7_143 mw_7_145 mw_s133 mw_1_13 mw_7_146) rfl rfl rfl (by decide +kernel) ⟨Nat.le_of_ble_eq_true rfl, Nat.le_of_ble_eq_true rfl⟩) rfl rfl rfl hl.1 rfl (Nat.le_of_ble_eq_true rfl) dX12_worse_7 ⟨Nat.zero_le _, Nat.zero_le _⟩) hP hD hS hA [0, 1, 2, 3, 4, 5, 6, 7, 8, 9, 10, 11, 12, 13, 14, 15, 16, 17, 18, 19, 20, 21, 22, 23, 24, 25, 26, 27, 28, 29, 30, 31, 32] [] [0, 1, 2, 3, 4, 5, 6, 7, 8, 9, 10, 11, 12, 13, 14, 15, 16, 17, 18, 19, 20, 21, 22, 23, 24, 25, 26, 27, 28, 29, 30, 31, 32] rfl rfl rfl (by decide) rfl (fun _ => rfl) (fun r7 u H locs h hP hD hS => ?_)
  have hP : va_P D vwCl (List.flatten (wM aM C (va_up ms 0 0) mw ma ml)) H := hP
  have hD : va_D A (List.flatten (wM aM C (va_up ms 0 0) mw ma ml)) := hD
  refine lv_if_eq (tgt := 21) hx hb dX12_worse_10 (by decide) (fun c8 => ?_) (fun c8 => ?_)
  · have h := h.1 c8
    refine lv_bipush (v := (-2)) hx hb dX12_worse_21 (by decide) ?_
    rw [← hQ]
    exact cRetI (v := (-2)) ((va_up ms 0 0), ma, ml) hx hb hr hlocks hS hP hD h dX12_worse_23
  · have h := h.2 c8
    refine lv_aload_n hx hb dX12_worse_13 rfl (lv_at hl 0 rfl) ?_
    refine lv_iload_n hx hb dX12_worse_14 rfl (lv_at hl 2 rfl) ?_
    refine cGoI (wo := fun u => wM aM C (va_up ms 0 0) mw ma ml) (cRunV (As := [.int p2]) (rest := []) ⟨hx, hb, hml, hown, hw⟩ hK hN hP hD [0, 1, 2, 3, 4, 5, 6, 7, 8, 9, 10, 11, 12, 13, 14, 15, 16, 17, 18, 19, 20, 21, 22, 23, 24, 25, 26, 27, 28, 29, 30, 31, 32] rfl rfl (k_X12_isOption l D C _ aM  (va_up ms 0 0) mw ma ml p2 h) (cwV 1 hw (goodV mw_8_36 mw_8_38 mw_s152 mw_1_13 mw_8_39) rfl rfl rfl (by decide +kernel) ⟨Nat.le_of_ble_eq_true rfl, Nat.le_of_ble_eq_true rfl⟩) rfl rfl rfl hl.1 rfl (Nat.le_of_ble_eq_true rfl) dX12_worse_15 ⟨Nat.zero_le _, Nat.zero_le _⟩) hP hD hS hA [0, 1, 2, 3, 4, 5, 6, 7, 8, 9, 10, 11, 12, 13, 14, 15, 16, 17, 18, 19, 20, 21, 22, 23, 24, 25, 26, 27, 28, 29, 30, 31, 32] [] [0, 1, 2, 3, 4, 5, 6, 7, 8, 9, 10, 11, 12, 13, 14, 15, 16, 17, 18, 19, 20, 21, 22, 23, 24, 25, 26, 27, 28, 29, 30, 31, 32] rfl rfl rfl (by decide) rfl (fun _ => rfl) (fun r9 u H locs h hP hD hS => ?_)
    have hP : va_P D vwCl (List.flatten (wM aM C (va_up ms 0 0) mw ma ml)) H := hP
    have hD : va_D A (List.flatten (wM aM C (va_up ms 0 0) mw ma ml)) := hD
    refine lv_if_ne (tgt := 24) hx hb dX12_worse_18 (by decide) (fun c10 => ?_) (fun c10 => ?_)
    · have h := h.1 c10
      refine lv_aload_n hx hb dX12_worse_24 rfl (lv_at hl 0 rfl) ?_
      refine lv_iload_n hx hb dX12_worse_25 rfl (lv_at hl 1 rfl) ?_
      refine lv_iload_n hx hb dX12_worse_26 rfl (lv_at hl 2 rfl) ?_
      refine cGoV (wo := fun u => wM aM C u.1 mw u.2.1 u.2.2) (cRunV (As := [.int p1, .int p2]) (rest := []) ⟨hx, hb, hml, hown, hw⟩ hK hN hP hD [0, 1, 2, 3, 4, 5, 6, 7, 8, 9, 10, 11, 12, 13, 14, 15, 16, 17, 18, 19, 20, 21, 22, 23, 24, 25, 26, 27, 28, 29, 30, 31, 32] rfl rfl (k_X12_laysGrowth l D C _ aM  (va_up ms 0 0) mw ma ml p1 p2 h) (cwV 2 hw (goodV mw_8_139 mw_8_141 mw_s166 mw_1_13 mw_8_142) rfl rfl rfl (by decide +kernel) ⟨Nat.le_of_ble_eq_true rfl, Nat.le_of_ble_eq_true rfl⟩) rfl rfl rfl hl.1 rfl (Nat.le_of_ble_eq_true rfl) dX12_worse_27 ⟨Nat.zero_le _, Nat.zero_le _⟩) hP hD hS hA [0, 1, 2, 3, 4, 5, 6, 7, 8, 9, 10, 11, 12, 13, 14, 15, 16, 17, 18, 19, 20, 21, 22, 23, 24, 25, 26, 27, 28, 29, 30, 31, 32] [] [0, 1, 2, 3, 4, 5, 6, 7, 8, 9, 10, 11, 12, 13, 14, 15, 16, 17, 18, 19, 20, 21, 22, 23, 24, 25, 26, 27, 28, 29, 30, 31, 32] rfl rfl rfl (by decide) rfl (fun _ => rfl) (fun u H locs h hP hD hS => ?_)
      obtain ⟨ms_11, ma_12, ml_13⟩ := u
      have hP : va_P D vwCl (List.flatten (wM aM C ms_11 mw ma_12 ml_13)) H := hP
      have hD : va_D A (List.flatten (wM aM C ms_11 mw ma_12 ml_13)) := hD
      refine lv_iconst (v := 0) hx hb dX12_worse_30 (by decide) ?_
      refine lv_istore_n (lv' := [(3, .int 0), (0, .ref (aM 0)), (1, .int p1), (2, .int p2)]) hx hb dX12_worse_31 rfl hl (by decide) rfl (fun ls hl => ?_)
      refine lv_iconst (v := 0) hx hb dX12_worse_32 (by decide) ?_
      refine lv_istore (lv' := [(4, .int 0), (3, .int 0), (0, .ref (aM 0)), (1, .int p1), (2, .int p2)]) hx hb dX12_worse_33 hl (by decide) rfl (fun ls hl => ?_)
      obtain ⟨n, h⟩ := h
      exact N35 ms_11 ma_12 ml_13 n 0 0 _ _ _ h hP hD hS (lv_sub hl [2, 3, 1, 0] rfl)
    · have h := h.2 c10
      refine lv_bipush (v := (-2)) hx hb dX12_worse_21 (by decide) ?_
      rw [← hQ]
      exact cRetI (v := (-2)) ((va_up ms 0 0), ma, ml) hx hb hr hlocks hS hP hD h dX12_worse_23
abbrev vsX12_next_ : List Cond := Cond.code yX12_next_ cX12_next_ 7 (some .int) :: WS
abbrev rmX12_next_ : Room := { frames := 6, cells := 0, slots := 0, locals := 143 }
set_option maxHeartbeats 4000000 in
set_option maxRecDepth 100000 in
theorem k_X12_next_ (l : Launch) (D : va_G) (C : Nat → ClassId) (sz : Nat) (aM : Nat → Nat)  (ms : Nat → Int32) (mw : Nat → Int64) (ma : Nat → Nat → Int32) (ml : Nat → Nat → Int64) (p1 : Int32) (p2 : Int32) {post : Int32 → (Nat → Int32) → (Nat → Nat → Int32) → (Nat → Nat → Int64) → Prop} (h : P_X12_next_ ms ma ml p1 p2 post) : Met l yX12_next_ vsX12_next_ rmX12_next_ (cPre D C [.ref (aM 0), .int p1, .int p2] sz (wM aM C ms mw ma ml)) (cQi D (fun (r : Int32) (u : (Nat → Int32) × (Nat → Nat → Int32) × (Nat → Nat → Int64)) => post r u.1 u.2.1 u.2.2) (fun u => wM aM C u.1 mw u.2.1 u.2.2) (va_A (List.flatten (wM aM C ms mw ma ml)) sz)) 0 0 (va_A (List.flatten (wM aM C ms mw ma ml)) sz) := by
  refine cStart (QA := fun A => cQi D (fun (r : Int32) (u : (Nat → Int32) × (Nat → Nat → Int32) × (Nat → Nat → Int64)) => post r u.1 u.2.1 u.2.2) (fun u => wM aM C u.1 mw u.2.1 u.2.2) A) (cc := cX12_next_) (maxL := 7) (ret := (some .int)) (by decide) (Nat.le_of_ble_eq_true rfl) ?_
  intro p e s m args below meth c A ls hx hb hr hml hown hw hlocks hname hK hN hA hP hD hS hl
  generalize hQ : MQ below _ args s 0 0 A = Q
  have hl : lv_has ls 7 [(0, .ref (aM 0)), (1, .int p1), (2, .int p2)] := hl
  obtain ⟨H, hH⟩ : ∃ H, H = s.heap := ⟨_, rfl⟩
  obtain ⟨locs, hlo⟩ : ∃ z : List Loc, z = [] := ⟨_, rfl⟩
  have hP : va_P D vwCl (List.flatten (wM aM C ms mw ma ml)) H := by rw [hH]; exact hP
  have hS : va_S A s.heap H locs := by rw [hH, hlo]; exact hS
  rw [show W p l e rmX12_next_ s m args below meth c s.heap [] 0 0 Q (F0 m 0 ls []) = W p l e rmX12_next_ s m args below meth c H locs 0 0 Q (F0 m 0 ls []) from by rw [hH, hlo]]
  have N38 : ∀ (ms : Nat → Int32) (ma : Nat → Nat → Int32) (ml : Nat → Nat → Int64) (n38 : Nat) (x3_ : Int32) (x4_ : Int64) (x6_ : Int32) (H : Heap) (locs : List Loc) (ls : Array Slot), P_X12_next__38 p1 p2 post  ms ma ml n38 x3_ x4_ x6_ → va_P D vwCl (List.flatten (wM aM C ms mw ma ml)) H → va_D A (List.flatten (wM aM C ms mw ma ml)) → va_S A s.heap H locs → lv_has ls 7 [(0, .ref (aM 0)), (1, .int p1), (3, .int x3_), (4, .long x4_), (6, .int x6_)] → W p l e rmX12_next_ s m args below meth c H locs 0 0 Q (F0 m 38 ls []) := by
    intro ms ma ml
    intro n38
    induction n38 with
    | zero => intro x3_ x4_ x6_ H locs ls h hP hD hS hl; exact False.elim h
    | succ n38 ih38 =>
      intro x3_ x4_ x6_ H locs ls h hP hD hS hl
      refine lv_iload hx hb dX12_next__38 (lv_at hl 4 rfl) ?_
      refine lv_aload_n hx hb dX12_next__40 rfl (lv_at hl 0 rfl) ?_
      refine va_get (D := D) (ci := 12) (v := .ref (aM 13)) (C := RX12) (T := TX12) (N := 51) hx hb hw inW_X12 hown hK hP 0 rfl rfl 23 (by decide) (hw _ mw_6_66) (fun _ h9 => h9) rfl dX12_next__41 ?_
      refine lv_iconst (v := 0) hx hb dX12_next__44 (by decide) ?_
      refine cIald hx hb hK hP 13 0 rfl rfl 0 (by decide +kernel) (cIn (by decide +kernel)) dX12_next__45 ?_
      refine lv_icmp_ge (tgt := 89) hx hb dX12_next__46 (by decide) (fun c1 => ?_) (fun c1 => ?_)
      · have h := h.1 c1
        refine lv_iload_n hx hb dX12_next__89 rfl (lv_at hl 2 rfl) ?_
        rw [← hQ]
        exact cRetI (v := x3_) (ms, ma, ml) hx hb hr hlocks hS hP hD h dX12_next__90
      · have h := h.2 c1
        refine lv_iload hx hb dX12_next__49 (lv_at hl 4 rfl) ?_
        refine lv_iload_n hx hb dX12_next__51 rfl (lv_at hl 1 rfl) ?_
        refine lv_icmp_eq (tgt := 83) hx hb dX12_next__52 (by decide) (fun c2 => ?_) (fun c2 => ?_)
        · have h := h.1 c2
          refine lv_iinc (v := (x6_ + 1)) (lv' := [(6, .int (x6_ + 1)), (0, .ref (aM 0)), (1, .int p1), (3, .int x3_), (4, .long x4_)]) hx hb dX12_next__83 hl (k := 4) rfl rfl (by decide) rfl (fun ls hl => ?_)
          refine lv_goto (tgt := 38) hx hb dX12_next__86 (by decide) ?_
          exact ih38 x3_ x4_ (x6_ + 1) _ _ _ h hP hD hS (lv_sub hl [1, 2, 3, 4, 0] rfl)
        · have h := h.2 c2
          refine lv_aload_n hx hb dX12_next__55 rfl (lv_at hl 0 rfl) ?_
          refine va_get (D := D) (ci := 12) (v := .ref (aM 27)) (C := RX12) (T := TX12) (N := 51) hx hb hw inW_X12 hown hK hP 0 rfl rfl 42 (by decide) (hw _ mw_6_85) (fun _ h9 => h9) rfl dX12_next__56 ?_
          refine lv_iload hx hb dX12_next__59 (lv_at hl 4 rfl) ?_
          refine cLald hx hb hK hP 27 1 rfl rfl x6_.toNatClampNeg rfl h.1 dX12_next__61 ?_
          have h := h.2
          refine lv_lload hx hb dX12_next__62 (lv_at hl 3 rfl) ?_
          refine W.lcmp hx hb dX12_next__64 ?_
          refine lv_if_gt (tgt := 71) hx hb dX12_next__65 (by decide) (fun c3 => ?_) (fun c3 => ?_)
          · have c3 : x4_ < (ml 5 x6_.toNatClampNeg) := (lg_cmp_gt _ _).mp c3
            have h := h.1 c3
            refine lv_iload hx hb dX12_next__71 (lv_at hl 4 rfl) ?_
            refine lv_istore_n (lv' := [(3, .int x6_), (0, .ref (aM 0)), (1, .int p1), (4, .long x4_), (6, .int x6_)]) hx hb dX12_next__73 rfl hl (by decide) rfl (fun ls hl => ?_)
            refine lv_aload_n hx hb dX12_next__74 rfl (lv_at hl 1 rfl) ?_
            refine va_get (D := D) (ci := 12) (v := .ref (aM 27)) (C := RX12) (T := TX12) (N := 51) hx hb hw inW_X12 hown hK hP 0 rfl rfl 42 (by decide) (hw _ mw_6_85) (fun _ h9 => h9) rfl dX12_next__75 ?_
            refine lv_iload hx hb dX12_next__78 (lv_at hl 4 rfl) ?_
            refine cLald hx hb hK hP 27 1 rfl rfl x6_.toNatClampNeg rfl h.1 dX12_next__80 ?_
            have h := h.2
            refine lv_topl (fun x4 ex4 => ?_)
            have h := h x4 ex4
            refine lv_lstore (lv' := [(4, .long x4), (3, .int x6_), (0, .ref (aM 0)), (1, .int p1), (6, .int x6_)]) hx hb dX12_next__81 hl (by decide) rfl (fun ls hl => ?_)
            refine lv_iinc (v := (x6_ + 1)) (lv' := [(6, .int (x6_ + 1)), (4, .long x4), (3, .int x6_), (0, .ref (aM 0)), (1, .int p1)]) hx hb dX12_next__83 hl (k := 4) rfl rfl (by decide) rfl (fun ls hl => ?_)
            refine lv_goto (tgt := 38) hx hb dX12_next__86 (by decide) ?_
            exact ih38 x6_ x4 (x6_ + 1) _ _ _ h hP hD hS (lv_sub hl [3, 4, 2, 1, 0] rfl)
          · have c3 : ¬ x4_ < (ml 5 x6_.toNatClampNeg) := fun q => c3 ((lg_cmp_gt _ _).mpr q)
            have h := h.2 c3
            refine lv_goto (tgt := 83) hx hb dX12_next__68 (by decide) ?_
            refine lv_iinc (v := (x6_ + 1)) (lv' := [(6, .int (x6_ + 1)), (0, .ref (aM 0)), (1, .int p1), (3, .int x3_), (4, .long x4_)]) hx hb dX12_next__83 hl (k := 4) rfl rfl (by decide) rfl (fun ls hl => ?_)
            refine lv_goto (tgt := 38) hx hb dX12_next__86 (by decide) ?_
            exact ih38 x3_ x4_ (x6_ + 1) _ _ _ h hP hD hS (lv_sub hl [1, 2, 3, 4, 0] rfl)
  refine lv_aload_n hx hb dX12_next__0 rfl (lv_at hl 0 rfl) ?_
  refine lv_iconst (v := 0) hx hb dX12_next__1 (by decide) ?_
  refine va_put (D := D) (ci := 12) (v := .int 0) (ty := .int) (C := RX12) (T := TX12) (N := 51) hx hb hw inW_X12 tyX12 tyX12_ok nmX12 hown hK hP hD hS 0 rfl rfl 0 (by decide) (hw _ mw_6_43) (fun _ h9 => h9) rfl (by decide +kernel) rfl rfl (Nat.le_of_ble_eq_true rfl) dX12_next__2 (fun H locs hP hD hS => ?_)
  refine lv_aload_n hx hb dX12_next__5 rfl (lv_at hl 0 rfl) ?_
  refine lv_iload_n hx hb dX12_next__6 rfl (lv_at hl 1 rfl) ?_
  have hP : va_P D vwCl (List.flatten (wM aM C (va_up ms 0 0) mw ma ml)) H := hP
  have hD : va_D A (List.flatten (wM aM C (va_up ms 0 0) mw ma ml)) := hD
  refine cGoI (wo := fun u => wM aM C (va_up ms 0 0) mw ma ml) (cRunV (As := [.int p1]) (rest := []) ⟨hx, hb, hml, hown, hw⟩ hK hN hP hD [0, 1, 2, 3, 4, 5, 6, 7, 8, 9, 10, 11, 12, 13, 14, 15, 16, 17, 18, 19, 20, 21, 22, 23, 24, 25, 26, 27, 28, 29, 30, 31, 32] rfl rfl (k_X12_isBike l D C _ aM  (va_up ms 0 0) mw ma ml p1 h) (cwV 1 hw (goodV mw_7_143 mw_7_145 mw_s133 mw_1_13 mw_7_146) rfl rfl rfl (by decide +kernel) ⟨Nat.le_of_ble_eq_true rfl, Nat.le_of_ble_eq_true rfl⟩) rfl rfl rfl hl.1 rfl (Nat.le_of_ble_eq_true rfl) dX12_next__7 ⟨Nat.zero_le _, Nat.zero_le _⟩) hP hD hS hA [0, 1, 2, 3, 4, 5, 6, 7, 8, 9, 10, 11, 12, 13, 14, 15, 16, 17, 18, 19, 20, 21, 22, 23, 24, 25, 26, 27, 28, 29, 30, 31, 32] [] [0, 1, 2, 3, 4, 5, 6, 7, 8, 9, 10, 11, 12, 13, 14, 15, 16, 17, 18, 19, 20, 21, 22, 23, 24, 25, 26, 27, 28, 29, 30, 31, 32] rfl rfl rfl (by decide) rfl (fun _ => rfl) (fun r5 u H locs h hP hD hS => ?_)
  have hP : va_P D vwCl (List.flatten (wM aM C (va_up ms 0 0) mw ma ml)) H := hP
  have hD : va_D A (List.flatten (wM aM C (va_up ms 0 0) mw ma ml)) := hD
  refine lv_if_eq (tgt := 21) hx hb dX12_next__10 (by decide) (fun c6 => ?_) (fun c6 => ?_)
  · have h := h.1 c6
    refine lv_bipush (v := (-2)) hx hb dX12_next__21 (by decide) ?_
    rw [← hQ]
    exact cRetI (v := (-2)) ((va_up ms 0 0), ma, ml) hx hb hr hlocks hS hP hD h dX12_next__23
  · have h := h.2 c6
    refine lv_aload_n hx hb dX12_next__13 rfl (lv_at hl 0 rfl) ?_
    refine lv_iload_n hx hb dX12_next__14 rfl (lv_at hl 2 rfl) ?_
    refine cGoI (wo := fun u => wM aM C (va_up ms 0 0) mw ma ml) (cRunV (As := [.int p2]) (rest := []) ⟨hx, hb, hml, hown, hw⟩ hK hN hP hD [0, 1, 2, 3, 4, 5, 6, 7, 8, 9, 10, 11, 12, 13, 14, 15, 16, 17, 18, 19, 20, 21, 22, 23, 24, 25, 26, 27, 28, 29, 30, 31, 32] rfl rfl (k_X12_isOption l D C _ aM  (va_up ms 0 0) mw ma ml p2 h) (cwV 1 hw (goodV mw_8_36 mw_8_38 mw_s152 mw_1_13 mw_8_39) rfl rfl rfl (by decide +kernel) ⟨Nat.le_of_ble_eq_true rfl, Nat.le_of_ble_eq_true rfl⟩) rfl rfl rfl hl.1 rfl (Nat.le_of_ble_eq_true rfl) dX12_next__15 ⟨Nat.zero_le _, Nat.zero_le _⟩) hP hD hS hA [0, 1, 2, 3, 4, 5, 6, 7, 8, 9, 10, 11, 12, 13, 14, 15, 16, 17, 18, 19, 20, 21, 22, 23, 24, 25, 26, 27, 28, 29, 30, 31, 32] [] [0, 1, 2, 3, 4, 5, 6, 7, 8, 9, 10, 11, 12, 13, 14, 15, 16, 17, 18, 19, 20, 21, 22, 23, 24, 25, 26, 27, 28, 29, 30, 31, 32] rfl rfl rfl (by decide) rfl (fun _ => rfl) (fun r7 u H locs h hP hD hS => ?_)
    have hP : va_P D vwCl (List.flatten (wM aM C (va_up ms 0 0) mw ma ml)) H := hP
    have hD : va_D A (List.flatten (wM aM C (va_up ms 0 0) mw ma ml)) := hD
    refine lv_if_ne (tgt := 24) hx hb dX12_next__18 (by decide) (fun c8 => ?_) (fun c8 => ?_)
    · have h := h.1 c8
      refine lv_aload_n hx hb dX12_next__24 rfl (lv_at hl 0 rfl) ?_
      refine lv_iload_n hx hb dX12_next__25 rfl (lv_at hl 1 rfl) ?_
      refine lv_iload_n hx hb dX12_next__26 rfl (lv_at hl 2 rfl) ?_
      refine cGoV (wo := fun u => wM aM C u.1 mw u.2.1 u.2.2) (cRunV (As := [.int p1, .int p2]) (rest := []) ⟨hx, hb, hml, hown, hw⟩ hK hN hP hD [0, 1, 2, 3, 4, 5, 6, 7, 8, 9, 10, 11, 12, 13, 14, 15, 16, 17, 18, 19, 20, 21, 22, 23, 24, 25, 26, 27, 28, 29, 30, 31, 32] rfl rfl (k_X12_laysGrowth l D C _ aM  (va_up ms 0 0) mw ma ml p1 p2 h) (cwV 2 hw (goodV mw_8_139 mw_8_141 mw_s166 mw_1_13 mw_8_142) rfl rfl rfl (by decide +kernel) ⟨Nat.le_of_ble_eq_true rfl, Nat.le_of_ble_eq_true rfl⟩) rfl rfl rfl hl.1 rfl (Nat.le_of_ble_eq_true rfl) dX12_next__27 ⟨Nat.zero_le _, Nat.zero_le _⟩) hP hD hS hA [0, 1, 2, 3, 4, 5, 6, 7, 8, 9, 10, 11, 12, 13, 14, 15, 16, 17, 18, 19, 20, 21, 22, 23, 24, 25, 26, 27, 28, 29, 30, 31, 32] [] [0, 1, 2, 3, 4, 5, 6, 7, 8, 9, 10, 11, 12, 13, 14, 15, 16, 17, 18, 19, 20, 21, 22, 23, 24, 25, 26, 27, 28, 29, 30, 31, 32] rfl rfl rfl (by decide) rfl (fun _ => rfl) (fun u H locs h hP hD hS => ?_)
      obtain ⟨ms_9, ma_10, ml_11⟩ := u
      have hP : va_P D vwCl (List.flatten (wM aM C ms_9 mw ma_10 ml_11)) H := hP
      have hD : va_D A (List.flatten (wM aM C ms_9 mw ma_10 ml_11)) := hD
      refine lv_iconst (v := (-1)) hx hb dX12_next__30 (by decide) ?_
      refine lv_istore_n (lv' := [(3, .int (-1)), (0, .ref (aM 0)), (1, .int p1), (2, .int p2)]) hx hb dX12_next__31 rfl hl (by decide) rfl (fun ls hl => ?_)
      refine lv_lconst (v := 0) hx hb dX12_next__32 (by decide) ?_
      refine lv_lstore (lv' := [(4, .long 0), (3, .int (-1)), (0, .ref (aM 0)), (1, .int p1), (2, .int p2)]) hx hb dX12_next__33 hl (by decide) rfl (fun ls hl => ?_)
      refine lv_iconst (v := 0) hx hb dX12_next__35 (by decide) ?_
      refine lv_istore (lv' := [(6, .int 0), (4, .long 0), (3, .int (-1)), (0, .ref (aM 0)), (1, .int p1), (2, .int p2)]) hx hb dX12_next__36 hl (by decide) rfl (fun ls hl => ?_)
      obtain ⟨n, h⟩ := h
      exact N38 ms_9 ma_10 ml_11 n (-1) 0 0 _ _ _ h hP hD hS (lv_sub hl [3, 4, 2, 1, 0] rfl)
    · have h := h.2 c8
      refine lv_bipush (v := (-2)) hx hb dX12_next__21 (by decide) ?_
      rw [← hQ]
      exact cRetI (v := (-2)) ((va_up ms 0 0), ma, ml) hx hb hr hlocks hS hP hD h dX12_next__23
abbrev vsX12_standsAt : List Cond := Cond.code yX12_standsAt cX12_standsAt 3 (some .int) :: WS
abbrev rmX12_standsAt : Room := { frames := 1, cells := 0, slots := 0, locals := 21 }
set_option maxHeartbeats 4000000 in
set_option maxRecDepth 100000 in
theorem k_X12_standsAt (l : Launch) (D : va_G) (C : Nat → ClassId) (sz : Nat) (aM : Nat → Nat)  (ms : Nat → Int32) (mw : Nat → Int64) (ma : Nat → Nat → Int32) (ml : Nat → Nat → Int64) (p1 : Int32) {post : Int32 → Prop} (h : P_X12_standsAt ma p1 post) : Met l yX12_standsAt vsX12_standsAt rmX12_standsAt (cPre D C [.ref (aM 0), .int p1] sz (wM aM C ms mw ma ml)) (cQi D (fun (r : Int32) (u : Unit) => post r ) (fun u => wM aM C ms mw ma ml) (va_A (List.flatten (wM aM C ms mw ma ml)) sz)) 0 0 (va_A (List.flatten (wM aM C ms mw ma ml)) sz) := by
  refine cStart (QA := fun A => cQi D (fun (r : Int32) (u : Unit) => post r ) (fun u => wM aM C ms mw ma ml) A) (cc := cX12_standsAt) (maxL := 3) (ret := (some .int)) (by decide) (Nat.le_of_ble_eq_true rfl) ?_
  intro p e s m args below meth c A ls hx hb hr hml hown hw hlocks hname hK hN hA hP hD hS hl
  generalize hQ : MQ below _ args s 0 0 A = Q
  have hl : lv_has ls 3 [(0, .ref (aM 0)), (1, .int p1)] := hl
  obtain ⟨H, hH⟩ : ∃ H, H = s.heap := ⟨_, rfl⟩
  obtain ⟨locs, hlo⟩ : ∃ z : List Loc, z = [] := ⟨_, rfl⟩
  have hP : va_P D vwCl (List.flatten (wM aM C ms mw ma ml)) H := by rw [hH]; exact hP
  have hS : va_S A s.heap H locs := by rw [hH, hlo]; exact hS
  rw [show W p l e rmX12_standsAt s m args below meth c s.heap [] 0 0 Q (F0 m 0 ls []) = W p l e rmX12_standsAt s m args below meth c H locs 0 0 Q (F0 m 0 ls []) from by rw [hH, hlo]]
  have N2 : ∀  (n2 : Nat) (x2_ : Int32) (H : Heap) (locs : List Loc) (ls : Array Slot), P_X12_standsAt_2 ma p1 post   n2 x2_ → va_P D vwCl (List.flatten (wM aM C ms mw ma ml)) H → va_D A (List.flatten (wM aM C ms mw ma ml)) → va_S A s.heap H locs → lv_has ls 3 [(0, .ref (aM 0)), (1, .int p1), (2, .int x2_)] → W p l e rmX12_standsAt s m args below meth c H locs 0 0 Q (F0 m 2 ls []) := by
    intro n2
    induction n2 with
    | zero => intro x2_ H locs ls h hP hD hS hl; exact False.elim h
    | succ n2 ih2 =>
      intro x2_ H locs ls h hP hD hS hl
      refine lv_iload_n hx hb dX12_standsAt_2 rfl (lv_at hl 2 rfl) ?_
      refine lv_aload_n hx hb dX12_standsAt_3 rfl (lv_at hl 0 rfl) ?_
      refine va_get (D := D) (ci := 12) (v := .ref (aM 13)) (C := RX12) (T := TX12) (N := 51) hx hb hw inW_X12 hown hK hP 0 rfl rfl 23 (by decide) (hw _ mw_6_66) (fun _ h9 => h9) rfl dX12_standsAt_4 ?_
      refine lv_iconst (v := 0) hx hb dX12_standsAt_7 (by decide) ?_
      refine cIald hx hb hK hP 13 0 rfl rfl 0 (by decide +kernel) (cIn (by decide +kernel)) dX12_standsAt_8 ?_
      refine lv_icmp_ge (tgt := 36) hx hb dX12_standsAt_9 (by decide) (fun c1 => ?_) (fun c1 => ?_)
      · have h := h.1 c1
        refine lv_iconst (v := (-1)) hx hb dX12_standsAt_36 (by decide) ?_
        rw [← hQ]
        exact cRetI (v := (-1)) () hx hb hr hlocks hS hP hD h dX12_standsAt_37
      · have h := h.2 c1
        refine lv_aload_n hx hb dX12_standsAt_12 rfl (lv_at hl 0 rfl) ?_
        refine va_get (D := D) (ci := 12) (v := .ref (aM 14)) (C := RX12) (T := TX12) (N := 51) hx hb hw inW_X12 hown hK hP 0 rfl rfl 24 (by decide) (hw _ mw_6_67) (fun _ h9 => h9) rfl dX12_standsAt_13 ?_
        refine lv_iconst (v := 0) hx hb dX12_standsAt_16 (by decide) ?_
        refine lv_iload_n hx hb dX12_standsAt_17 rfl (lv_at hl 2 rfl) ?_
        refine cGoI (wo := fun u => wM aM C ms mw ma ml) (cRunS (As := [.int 0, .int x2_]) (rest := [.ref (aM 14)]) ⟨hx, hb, hml, hown, hw⟩ hK hN hP hD [] rfl rfl (k_X12_at l D C _    0 x2_ h) (va_cwS 2 hw (goodS mw_7_148 mw_7_149 mw_1_13 mw_7_150) rfl rfl rfl (by decide +kernel) ⟨Nat.le_of_ble_eq_true rfl, Nat.le_of_ble_eq_true rfl⟩) rfl hl.1 rfl (Nat.le_of_ble_eq_true rfl) dX12_standsAt_18 ⟨Nat.zero_le _, Nat.zero_le _⟩) hP hD hS hA [] [0, 1, 2, 3, 4, 5, 6, 7, 8, 9, 10, 11, 12, 13, 14, 15, 16, 17, 18, 19, 20, 21, 22, 23, 24, 25, 26, 27, 28, 29, 30, 31, 32] [0, 1, 2, 3, 4, 5, 6, 7, 8, 9, 10, 11, 12, 13, 14, 15, 16, 17, 18, 19, 20, 21, 22, 23, 24, 25, 26, 27, 28, 29, 30, 31, 32] rfl rfl rfl (by decide) rfl (fun _ => rfl) (fun r2 u H locs h hP hD hS => ?_)
        have hP : va_P D vwCl (List.flatten (wM aM C ms mw ma ml)) H := hP
        have hD : va_D A (List.flatten (wM aM C ms mw ma ml)) := hD
        refine lv_iconst (v := 2) hx hb dX12_standsAt_21 (by decide) ?_
        refine lv_iadd hx hb dX12_standsAt_22 ?_
        refine cIald hx hb hK hP 14 0 rfl rfl ((r2 + 2).toNatClampNeg) rfl h.1 dX12_standsAt_23 ?_
        have h := h.2
        refine lv_iload_n hx hb dX12_standsAt_24 rfl (lv_at hl 1 rfl) ?_
        refine lv_icmp_ne (tgt := 30) hx hb dX12_standsAt_25 (by decide) (fun c3 => ?_) (fun c3 => ?_)
        · have h := h.1 c3
          refine lv_iinc (v := (x2_ + 1)) (lv' := [(2, .int (x2_ + 1)), (0, .ref (aM 0)), (1, .int p1)]) hx hb dX12_standsAt_30 hl (k := 2) rfl rfl (by decide) rfl (fun ls hl => ?_)
          refine lv_goto (tgt := 2) hx hb dX12_standsAt_33 (by decide) ?_
          exact ih2 (x2_ + 1) _ _ _ h hP hD hS (lv_sub hl [1, 2, 0] rfl)
        · have h := h.2 c3
          refine lv_iload_n hx hb dX12_standsAt_28 rfl (lv_at hl 2 rfl) ?_
          rw [← hQ]
          exact cRetI (v := x2_) () hx hb hr hlocks hS hP hD h dX12_standsAt_29
  refine lv_iconst (v := 0) hx hb dX12_standsAt_0 (by decide) ?_
  refine lv_istore_n (lv' := [(2, .int 0), (0, .ref (aM 0)), (1, .int p1)]) hx hb dX12_standsAt_1 rfl hl (by decide) rfl (fun ls hl => ?_)
  obtain ⟨n, h⟩ := h
  exact N2  n 0 _ _ _ h hP hD hS (lv_sub hl [1, 2, 0] rfl)
