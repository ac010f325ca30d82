abbrev vsX12_clears : List Cond := Cond.code yX12_clears cX12_clears 2 none :: WS
abbrev rmX12_clears : Room := { frames := 0, cells := 0, slots := 0, locals := 0 }
set_option maxHeartbeats 4000000 in
set_option maxRecDepth 100000 in
theorem k_X12_clears (l : Launch) (D : va_G) (C : Nat → ClassId) (sz : Nat) (aM : Nat → Nat)  (ms : Nat → Int32) (mw : Nat → Int64) (ma : Nat → Nat → Int32) (ml : Nat → Nat → Int64)  {post : (Nat → Nat → Int32) → Prop} (h : P_X12_clears ma post) : Met l yX12_clears vsX12_clears rmX12_clears (cPre D C [.ref (aM 0)] sz (wM aM C ms mw ma ml)) (cQv D (fun (u : (Nat → Nat → Int32)) => post u) (fun u => wM aM C ms mw u ml) (va_A (List.flatten (wM aM C ms mw ma ml)) sz)) 0 0 (va_A (List.flatten (wM aM C ms mw ma ml)) sz) := by
  refine cStart (QA := fun A => cQv D (fun (u : (Nat → Nat → Int32)) => post u) (fun u => wM aM C ms mw u ml) A) (cc := cX12_clears) (maxL := 2) (ret := none) (by decide) (Nat.le_of_ble_eq_true rfl) ?_
  intro p e s m args below meth c A ls hx hb hr hml hown hw hlocks hname hK hN hA hP hD hS hl
  generalize hQ : MQ below _ args s 0 0 A = Q
  have hl : lv_has ls 2 [(0, .ref (aM 0))] := hl
  obtain ⟨H, hH⟩ : ∃ H, H = s.heap := ⟨_, rfl⟩
  obtain ⟨locs, hlo⟩ : ∃ z : List Loc, z = [] := ⟨_, rfl⟩
  have hP : va_P D vwCl (List.flatten (wM aM C ms mw ma ml)) H := by rw [hH]; exact hP
  have hS : va_S A s.heap H locs := by rw [hH, hlo]; exact hS
  rw [show W p l e rmX12_clears s m args below meth c s.heap [] 0 0 Q (F0 m 0 ls []) = W p l e rmX12_clears s m args below meth c H locs 0 0 Q (F0 m 0 ls []) from by rw [hH, hlo]]
  have N98 : ∀  (n98 : Nat) (x1_ : Int32) (ma : Nat → Nat → Int32) (H : Heap) (locs : List Loc) (ls : Array Slot), P_X12_clears_98  post   n98 x1_ ma → va_P D vwCl (List.flatten (wM aM C ms mw ma ml)) H → va_D A (List.flatten (wM aM C ms mw ma ml)) → va_S A s.heap H locs → lv_has ls 2 [(0, .ref (aM 0)), (1, .int x1_)] → W p l e rmX12_clears s m args below meth c H locs 0 0 Q (F0 m 98 ls []) := by
    intro n98
    induction n98 with
    | zero => intro x1_ ma H locs ls h hP hD hS hl; exact False.elim h
    | succ n98 ih98 =>
      intro x1_ ma H locs ls h hP hD hS hl
      refine lv_iload_n hx hb dX12_clears_98 rfl (lv_at hl 1 rfl) ?_
      refine lv_bipush (v := 17) hx hb dX12_clears_99 (by decide) ?_
      refine lv_icmp_ge (tgt := 120) hx hb dX12_clears_101 (by decide) (fun c1 => ?_) (fun c1 => ?_)
      · have h := h.1 c1
        rw [← hQ]
        exact cRetV (ma) hx hb hr hlocks hS hP hD h dX12_clears_120
      · have h := h.2 c1
        refine lv_aload_n hx hb dX12_clears_104 rfl (lv_at hl 0 rfl) ?_
        refine va_get (D := D) (ci := 12) (v := .ref (aM 19)) (C := RX12) (T := TX12) (N := 51) hx hb hw inW_X12 hown hK hP 0 rfl rfl 29 (by decide) (hw _ mw_6_72) (fun _ h9 => h9) rfl dX12_clears_105 ?_
        refine lv_bipush (v := 68) hx hb dX12_clears_108 (by decide) ?_
        refine lv_iload_n hx hb dX12_clears_110 rfl (lv_at hl 1 rfl) ?_
        refine lv_iadd hx hb dX12_clears_111 ?_
        refine lv_iconst (v := 0) hx hb dX12_clears_112 (by decide) ?_
        refine cIast hx hb hK hP hD hS 19 0 rfl rfl ((68 + x1_).toNatClampNeg) rfl h.1 dX12_clears_113 (fun H locs hP hD hS => ?_)
        have h := h.2
        refine lv_iinc (v := (x1_ + 1)) (lv' := [(1, .int (x1_ + 1)), (0, .ref (aM 0))]) hx hb dX12_clears_114 hl (k := 1) rfl rfl (by decide) rfl (fun ls hl => ?_)
        refine lv_goto (tgt := 98) hx hb dX12_clears_117 (by decide) ?_
        have hP : va_P D vwCl (List.flatten (wM aM C ms mw (va_up ma 16 (upd (ma 16) ((68 + x1_).toNatClampNeg) 0)) ml)) H := hP
        have hD : va_D A (List.flatten (wM aM C ms mw (va_up ma 16 (upd (ma 16) ((68 + x1_).toNatClampNeg) 0)) ml)) := hD
        exact ih98 (x1_ + 1) (va_up ma 16 (upd (ma 16) ((68 + x1_).toNatClampNeg) 0)) _ _ _ h hP hD hS (lv_sub hl [1, 0] rfl)
  have N75 : ∀  (n75 : Nat) (x1_ : Int32) (ma : Nat → Nat → Int32) (H : Heap) (locs : List Loc) (ls : Array Slot), P_X12_clears_75  post (fun (x1_ : Int32) (ma : Nat → Nat → Int32) => ∃ n : Nat, P_X12_clears_98  post   n x1_ ma)  n75 x1_ ma → va_P D vwCl (List.flatten (wM aM C ms mw ma ml)) H → va_D A (List.flatten (wM aM C ms mw ma ml)) → va_S A s.heap H locs → lv_has ls 2 [(0, .ref (aM 0)), (1, .int x1_)] → W p l e rmX12_clears s m args below meth c H locs 0 0 Q (F0 m 75 ls []) := by
    intro n75
    induction n75 with
    | zero => intro x1_ ma H locs ls h hP hD hS hl; exact False.elim h
    | succ n75 ih75 =>
      intro x1_ ma H locs ls h hP hD hS hl
      refine lv_iload_n hx hb dX12_clears_75 rfl (lv_at hl 1 rfl) ?_
      refine lv_iconst (v := 2) hx hb dX12_clears_76 (by decide) ?_
      refine lv_icmp_ge (tgt := 96) hx hb dX12_clears_77 (by decide) (fun c2 => ?_) (fun c2 => ?_)
      · have h := h.1 c2
        refine lv_iconst (v := 0) hx hb dX12_clears_96 (by decide) ?_
        refine lv_istore_n (lv' := [(1, .int 0), (0, .ref (aM 0))]) hx hb dX12_clears_97 rfl hl (by decide) rfl (fun ls hl => ?_)
        obtain ⟨n, h⟩ := h
        exact N98  n 0 ma _ _ _ h hP hD hS (lv_sub hl [1, 0] rfl)
      · have h := h.2 c2
        refine lv_aload_n hx hb dX12_clears_80 rfl (lv_at hl 0 rfl) ?_
        refine va_get (D := D) (ci := 12) (v := .ref (aM 18)) (C := RX12) (T := TX12) (N := 51) hx hb hw inW_X12 hown hK hP 0 rfl rfl 28 (by decide) (hw _ mw_6_71) (fun _ h9 => h9) rfl dX12_clears_81 ?_
        refine lv_bipush (v := 8) hx hb dX12_clears_84 (by decide) ?_
        refine lv_iload_n hx hb dX12_clears_86 rfl (lv_at hl 1 rfl) ?_
        refine lv_iadd hx hb dX12_clears_87 ?_
        refine lv_iconst (v := 0) hx hb dX12_clears_88 (by decide) ?_
        refine cZast hx hb hK hP hD hS 18 3 rfl rfl ((8 + x1_).toNatClampNeg) rfl h.1 (Or.inl rfl) dX12_clears_89 (fun H locs hP hD hS => ?_)
        have h := h.2
        refine lv_iinc (v := (x1_ + 1)) (lv' := [(1, .int (x1_ + 1)), (0, .ref (aM 0))]) hx hb dX12_clears_90 hl (k := 1) rfl rfl (by decide) rfl (fun ls hl => ?_)
        refine lv_goto (tgt := 75) hx hb dX12_clears_93 (by decide) ?_
        have hP : va_P D vwCl (List.flatten (wM aM C ms mw (va_up ma 15 (upd (ma 15) ((8 + x1_).toNatClampNeg) 0)) ml)) H := hP
        have hD : va_D A (List.flatten (wM aM C ms mw (va_up ma 15 (upd (ma 15) ((8 + x1_).toNatClampNeg) 0)) ml)) := hD
        exact ih75 (x1_ + 1) (va_up ma 15 (upd (ma 15) ((8 + x1_).toNatClampNeg) 0)) _ _ _ h hP hD hS (lv_sub hl [1, 0] rfl)
  have N51 : ∀  (n51 : Nat) (x1_ : Int32) (ma : Nat → Nat → Int32) (H : Heap) (locs : List Loc) (ls : Array Slot), P_X12_clears_51  post (fun (x1_ : Int32) (ma : Nat → Nat → Int32) => ∃ n : Nat, P_X12_clears_75  post (fun (x1_ : Int32) (ma : Nat → Nat → Int32) => ∃ n : Nat, P_X12_clears_98  post   n x1_ ma)  n x1_ ma)  n51 x1_ ma → va_P D vwCl (List.flatten (wM aM C ms mw ma ml)) H → va_D A (List.flatten (wM aM C ms mw ma ml)) → va_S A s.heap H locs → lv_has ls 2 [(0, .ref (aM 0)), (1, .int x1_)] → W p l e rmX12_clears s m args below meth c H locs 0 0 Q (F0 m 51 ls []) := by
    intro n51
    induction n51 with
    | zero => intro x1_ ma H locs ls h hP hD hS hl; exact False.elim h
    | succ n51 ih51 =>
      intro x1_ ma H locs ls h hP hD hS hl
      refine lv_iload_n hx hb dX12_clears_51 rfl (lv_at hl 1 rfl) ?_
      refine lv_bipush (v := 7) hx hb dX12_clears_52 (by decide) ?_
      refine lv_icmp_ge (tgt := 73) hx hb dX12_clears_54 (by decide) (fun c3 => ?_) (fun c3 => ?_)
      · have h := h.1 c3
        refine lv_iconst (v := 0) hx hb dX12_clears_73 (by decide) ?_
        refine lv_istore_n (lv' := [(1, .int 0), (0, .ref (aM 0))]) hx hb dX12_clears_74 rfl hl (by decide) rfl (fun ls hl => ?_)
        obtain ⟨n, h⟩ := h
        exact N75  n 0 ma _ _ _ h hP hD hS (lv_sub hl [1, 0] rfl)
      · have h := h.2 c3
        refine lv_aload_n hx hb dX12_clears_57 rfl (lv_at hl 0 rfl) ?_
        refine va_get (D := D) (ci := 12) (v := .ref (aM 17)) (C := RX12) (T := TX12) (N := 51) hx hb hw inW_X12 hown hK hP 0 rfl rfl 27 (by decide) (hw _ mw_6_70) (fun _ h9 => h9) rfl dX12_clears_58 ?_
        refine lv_bipush (v := 28) hx hb dX12_clears_61 (by decide) ?_
        refine lv_iload_n hx hb dX12_clears_63 rfl (lv_at hl 1 rfl) ?_
        refine lv_iadd hx hb dX12_clears_64 ?_
        refine lv_iconst (v := 0) hx hb dX12_clears_65 (by decide) ?_
        refine cIast hx hb hK hP hD hS 17 0 rfl rfl ((28 + x1_).toNatClampNeg) rfl h.1 dX12_clears_66 (fun H locs hP hD hS => ?_)
        have h := h.2
        refine lv_iinc (v := (x1_ + 1)) (lv' := [(1, .int (x1_ + 1)), (0, .ref (aM 0))]) hx hb dX12_clears_67 hl (k := 1) rfl rfl (by decide) rfl (fun ls hl => ?_)
        refine lv_goto (tgt := 51) hx hb dX12_clears_70 (by decide) ?_
        have hP : va_P D vwCl (List.flatten (wM aM C ms mw (va_up ma 14 (upd (ma 14) ((28 + x1_).toNatClampNeg) 0)) ml)) H := hP
        have hD : va_D A (List.flatten (wM aM C ms mw (va_up ma 14 (upd (ma 14) ((28 + x1_).toNatClampNeg) 0)) ml)) := hD
        exact ih51 (x1_ + 1) (va_up ma 14 (upd (ma 14) ((28 + x1_).toNatClampNeg) 0)) _ _ _ h hP hD hS (lv_sub hl [1, 0] rfl)
  refine lv_aload_n hx hb dX12_clears_0 rfl (lv_at hl 0 rfl) ?_
  refine va_get (D := D) (ci := 12) (v := .ref (aM 6)) (C := RX12) (T := TX12) (N := 51) hx hb hw inW_X12 hown hK hP 0 rfl rfl 16 (by decide) (hw _ mw_6_59) (fun _ h9 => h9) rfl dX12_clears_1 ?_
  refine lv_iconst (v := 4) hx hb dX12_clears_4 (by decide) ?_
  refine lv_iconst (v := 0) hx hb dX12_clears_5 (by decide) ?_
  refine cIast hx hb hK hP hD hS 6 0 rfl rfl 4 (by decide +kernel) (cIn (by decide +kernel)) dX12_clears_6 (fun H locs hP hD hS => ?_)
  refine lv_aload_n hx hb dX12_clears_7 rfl (lv_at hl 0 rfl) ?_
  refine va_get (D := D) (ci := 12) (v := .ref (aM 7)) (C := RX12) (T := TX12) (N := 51) hx hb hw inW_X12 hown hK hP 0 rfl rfl 17 (by decide) (hw _ mw_6_60) (fun _ h9 => h9) rfl dX12_clears_8 ?_
  refine lv_iconst (v := 4) hx hb dX12_clears_11 (by decide) ?_
  refine lv_iconst (v := 0) hx hb dX12_clears_12 (by decide) ?_
  refine cIast hx hb hK hP hD hS 7 0 rfl rfl 4 (by decide +kernel) (cIn (by decide +kernel)) dX12_clears_13 (fun H locs hP hD hS => ?_)
  refine lv_aload_n hx hb dX12_clears_14 rfl (lv_at hl 0 rfl) ?_
  refine va_get (D := D) (ci := 12) (v := .ref (aM 8)) (C := RX12) (T := TX12) (N := 51) hx hb hw inW_X12 hown hK hP 0 rfl rfl 18 (by decide) (hw _ mw_6_61) (fun _ h9 => h9) rfl dX12_clears_15 ?_
  refine lv_iconst (v := 4) hx hb dX12_clears_18 (by decide) ?_
  refine lv_iconst (v := 0) hx hb dX12_clears_19 (by decide) ?_
  refine cIast hx hb hK hP hD hS 8 0 rfl rfl 4 (by decide +kernel) (cIn (by decide +kernel)) dX12_clears_20 (fun H locs hP hD hS => ?_)
  refine lv_aload_n hx hb dX12_clears_21 rfl (lv_at hl 0 rfl) ?_
  refine va_get (D := D) (ci := 12) (v := .ref (aM 9)) (C := RX12) (T := TX12) (N := 51) hx hb hw inW_X12 hown hK hP 0 rfl rfl 19 (by decide) (hw _ mw_6_62) (fun _ h9 => h9) rfl dX12_clears_22 ?_
  refine lv_iconst (v := 4) hx hb dX12_clears_25 (by decide) ?_
  refine lv_iconst (v := 0) hx hb dX12_clears_26 (by decide) ?_
  refine cIast hx hb hK hP hD hS 9 0 rfl rfl 4 (by decide +kernel) (cIn (by decide +kernel)) dX12_clears_27 (fun H locs hP hD hS => ?_)
  refine lv_aload_n hx hb dX12_clears_28 rfl (lv_at hl 0 rfl) ?_
  refine va_get (D := D) (ci := 12) (v := .ref (aM 11)) (C := RX12) (T := TX12) (N := 51) hx hb hw inW_X12 hown hK hP 0 rfl rfl 21 (by decide) (hw _ mw_6_64) (fun _ h9 => h9) rfl dX12_clears_29 ?_
  refine lv_iconst (v := 4) hx hb dX12_clears_32 (by decide) ?_
  refine lv_iconst (v := 0) hx hb dX12_clears_33 (by decide) ?_
  refine cIast hx hb hK hP hD hS 11 0 rfl rfl 4 (by decide +kernel) (cIn (by decide +kernel)) dX12_clears_34 (fun H locs hP hD hS => ?_)
  refine lv_aload_n hx hb dX12_clears_35 rfl (lv_at hl 0 rfl) ?_
  refine va_get (D := D) (ci := 12) (v := .ref (aM 13)) (C := RX12) (T := TX12) (N := 51) hx hb hw inW_X12 hown hK hP 0 rfl rfl 23 (by decide) (hw _ mw_6_66) (fun _ h9 => h9) rfl dX12_clears_36 ?_
  refine lv_iconst (v := 4) hx hb dX12_clears_39 (by decide) ?_
  refine lv_iconst (v := 0) hx hb dX12_clears_40 (by decide) ?_
  refine cIast hx hb hK hP hD hS 13 0 rfl rfl 4 (by decide +kernel) (cIn (by decide +kernel)) dX12_clears_41 (fun H locs hP hD hS => ?_)
  refine lv_aload_n hx hb dX12_clears_42 rfl (lv_at hl 0 rfl) ?_
  refine va_get (D := D) (ci := 12) (v := .ref (aM 15)) (C := RX12) (T := TX12) (N := 51) hx hb hw inW_X12 hown hK hP 0 rfl rfl 25 (by decide) (hw _ mw_6_68) (fun _ h9 => h9) rfl dX12_clears_43 ?_
  refine lv_iconst (v := 4) hx hb dX12_clears_46 (by decide) ?_
  refine lv_iconst (v := 0) hx hb dX12_clears_47 (by decide) ?_
  refine cIast hx hb hK hP hD hS 15 0 rfl rfl 4 (by decide +kernel) (cIn (by decide +kernel)) dX12_clears_48 (fun H locs hP hD hS => ?_)
  refine lv_iconst (v := 0) hx hb dX12_clears_49 (by decide) ?_
  refine lv_istore_n (lv' := [(1, .int 0), (0, .ref (aM 0))]) hx hb dX12_clears_50 rfl hl (by decide) rfl (fun ls hl => ?_)
  have hP : va_P D vwCl (List.flatten (wM aM C ms mw (va_up (va_up (va_up (va_up (va_up (va_up (va_up ma 3 (upd (ma 3) 4 0)) 4 (upd (ma 4) 4 0)) 5 (upd (ma 5) 4 0)) 6 (upd (ma 6) 4 0)) 8 (upd (ma 8) 4 0)) 10 (upd (ma 10) 4 0)) 12 (upd (ma 12) 4 0)) ml)) H := hP
  have hD : va_D A (List.flatten (wM aM C ms mw (va_up (va_up (va_up (va_up (va_up (va_up (va_up ma 3 (upd (ma 3) 4 0)) 4 (upd (ma 4) 4 0)) 5 (upd (ma 5) 4 0)) 6 (upd (ma 6) 4 0)) 8 (upd (ma 8) 4 0)) 10 (upd (ma 10) 4 0)) 12 (upd (ma 12) 4 0)) ml)) := hD
  obtain ⟨n, h⟩ := h
  exact N51  n 0 (va_up (va_up (va_up (va_up (va_up (va_up (va_up ma 3 (upd (ma 3) 4 0)) 4 (upd (ma 4) 4 0)) 5 (upd (ma 5) 4 0)) 6 (upd (ma 6) 4 0)) 8 (upd (ma 8) 4 0)) 10 (upd (ma 10) 4 0)) 12 (upd (ma 12) 4 0)) _ _ _ h hP hD hS (lv_sub hl [1, 0] rfl)
abbrev vsX12_copyRow : List Cond := Cond.code yX12_copyRow cX12_copyRow 5 none :: WS
abbrev rmX12_copyRow : Room := { frames := 0, cells := 0, slots := 0, locals := 0 }
set_option maxHeartbeats 4000000 in
set_option maxRecDepth 100000 in
theorem k_X12_copyRow (l : Launch) (D : va_G) (C : Nat → ClassId) (sz : Nat) (t0 : Nat)  (tN : Nat) (t_row : Nat → Int32) (p2 : Int32) (p3 : Int32) (p4 : Int32) {post : (Nat → Int32) → Prop} (h : P_X12_copyRow tN t_row p2 p3 p4 post) : Met l yX12_copyRow vsX12_copyRow rmX12_copyRow (cPre D C [.ref t0, .int p2, .int p3, .int p4] sz ([cRow t0 tN C t_row])) (cQv D (fun (u : (Nat → Int32)) => post u) (fun u => [cRow t0 tN C u]) (va_A (List.flatten ([cRow t0 tN C t_row])) sz)) 0 0 (va_A (List.flatten ([cRow t0 tN C t_row])) sz) := by
  refine cStart (QA := fun A => cQv D (fun (u : (Nat → Int32)) => post u) (fun u => [cRow t0 tN C u]) A) (cc := cX12_copyRow) (maxL := 5) (ret := none) (by decide) (Nat.le_of_ble_eq_true rfl) ?_
  intro p e s m args below meth c A ls hx hb hr hml hown hw hlocks hname hK hN hA hP hD hS hl
  generalize hQ : MQ below _ args s 0 0 A = Q
  have hl : lv_has ls 5 [(0, .ref t0), (1, .int p2), (2, .int p3), (3, .int p4)] := hl
  obtain ⟨H, hH⟩ : ∃ H, H = s.heap := ⟨_, rfl⟩
  obtain ⟨locs, hlo⟩ : ∃ z : List Loc, z = [] := ⟨_, rfl⟩
  have hP : va_P D vwCl (List.flatten ([cRow t0 tN C t_row])) H := by rw [hH]; exact hP
  have hS : va_S A s.heap H locs := by rw [hH, hlo]; exact hS
  rw [show W p l e rmX12_copyRow s m args below meth c s.heap [] 0 0 Q (F0 m 0 ls []) = W p l e rmX12_copyRow s m args below meth c H locs 0 0 Q (F0 m 0 ls []) from by rw [hH, hlo]]
  have N3 : ∀  (n3 : Nat) (x4_ : Int32) (t_row : Nat → Int32) (H : Heap) (locs : List Loc) (ls : Array Slot), P_X12_copyRow_3 tN p2 p3 p4 post   n3 x4_ t_row → va_P D vwCl (List.flatten ([cRow t0 tN C t_row])) H → va_D A (List.flatten ([cRow t0 tN C t_row])) → va_S A s.heap H locs → lv_has ls 5 [(0, .ref t0), (1, .int p2), (2, .int p3), (3, .int p4), (4, .int x4_)] → W p l e rmX12_copyRow s m args below meth c H locs 0 0 Q (F0 m 3 ls []) := by
    intro n3
    induction n3 with
    | zero => intro x4_ t_row H locs ls h hP hD hS hl; exact False.elim h
    | succ n3 ih3 =>
      intro x4_ t_row H locs ls h hP hD hS hl
      refine lv_iload hx hb dX12_copyRow_3 (lv_at hl 4 rfl) ?_
      refine lv_iload_n hx hb dX12_copyRow_5 rfl (lv_at hl 1 rfl) ?_
      refine lv_icmp_ge (tgt := 31) hx hb dX12_copyRow_6 (by decide) (fun c1 => ?_) (fun c1 => ?_)
      · have h := h.1 c1
        rw [← hQ]
        exact cRetV (t_row) hx hb hr hlocks hS hP hD h dX12_copyRow_31
      · have h := h.2 c1
        refine lv_aload_n hx hb dX12_copyRow_9 rfl (lv_at hl 0 rfl) ?_
        refine lv_iload_n hx hb dX12_copyRow_10 rfl (lv_at hl 1 rfl) ?_
        refine lv_iload_n hx hb dX12_copyRow_11 rfl (lv_at hl 3 rfl) ?_
        refine lv_imul hx hb dX12_copyRow_12 ?_
        refine lv_iload hx hb dX12_copyRow_13 (lv_at hl 4 rfl) ?_
        refine lv_iadd hx hb dX12_copyRow_15 ?_
        refine lv_aload_n hx hb dX12_copyRow_16 rfl (lv_at hl 0 rfl) ?_
        refine lv_iload_n hx hb dX12_copyRow_17 rfl (lv_at hl 1 rfl) ?_
        refine lv_iload_n hx hb dX12_copyRow_18 rfl (lv_at hl 2 rfl) ?_
        refine lv_imul hx hb dX12_copyRow_19 ?_
        refine lv_iload hx hb dX12_copyRow_20 (lv_at hl 4 rfl) ?_
        refine lv_iadd hx hb dX12_copyRow_22 ?_
        refine cIald hx hb hK hP 0 0 rfl rfl (((p2 * p3) + x4_).toNatClampNeg) rfl h.1 dX12_copyRow_23 ?_
        have h := h.2
        refine cIast hx hb hK hP hD hS 0 0 rfl rfl (((p2 * p4) + x4_).toNatClampNeg) rfl h.1 dX12_copyRow_24 (fun H locs hP hD hS => ?_)
        have h := h.2
        refine lv_iinc (v := (x4_ + 1)) (lv' := [(4, .int (x4_ + 1)), (0, .ref t0), (1, .int p2), (2, .int p3), (3, .int p4)]) hx hb dX12_copyRow_25 hl (k := 4) rfl rfl (by decide) rfl (fun ls hl => ?_)
        refine lv_goto (tgt := 3) hx hb dX12_copyRow_28 (by decide) ?_
        have hP : va_P D vwCl (List.flatten ([cRow t0 tN C (upd t_row (((p2 * p4) + x4_).toNatClampNeg) (t_row (((p2 * p3) + x4_).toNatClampNeg)))])) H := hP
        have hD : va_D A (List.flatten ([cRow t0 tN C (upd t_row (((p2 * p4) + x4_).toNatClampNeg) (t_row (((p2 * p3) + x4_).toNatClampNeg)))])) := hD
        exact ih3 (x4_ + 1) (upd t_row (((p2 * p4) + x4_).toNatClampNeg) (t_row (((p2 * p3) + x4_).toNatClampNeg))) _ _ _ h hP hD hS (lv_sub hl [1, 2, 3, 4, 0] rfl)
  refine lv_iconst (v := 0) hx hb dX12_copyRow_0 (by decide) ?_
  refine lv_istore (lv' := [(4, .int 0), (0, .ref t0), (1, .int p2), (2, .int p3), (3, .int p4)]) hx hb dX12_copyRow_1 hl (by decide) rfl (fun ls hl => ?_)
  obtain ⟨n, h⟩ := h
  exact N3  n 0 t_row _ _ _ h hP hD hS (lv_sub hl [1, 2, 3, 4, 0] rfl)
abbrev vsX12_copyRail : List Cond := Cond.code yX12_copyRail cX12_copyRail 3 none :: WS
abbrev rmX12_copyRail : Room := { frames := 1, cells := 0, slots := 0, locals := 24 }
set_option maxHeartbeats 4000000 in
set_option maxRecDepth 100000 in
theorem k_X12_copyRail (l : Launch) (D : va_G) (C : Nat → ClassId) (sz : Nat) (aM : Nat → Nat)  (ms : Nat → Int32) (mw : Nat → Int64) (ma : Nat → Nat → Int32) (ml : Nat → Nat → Int64) (p1 : Int32) (p2 : Int32) {post : (Nat → Nat → Int32) → Prop} (h : P_X12_copyRail ma p1 p2 post) : Met l yX12_copyRail vsX12_copyRail rmX12_copyRail (cPre D C [.ref (aM 0), .int p1, .int p2] sz (wM aM C ms mw ma ml)) (cQv D (fun (u : (Nat → Nat → Int32)) => post u) (fun u => wM aM C ms mw u ml) (va_A (List.flatten (wM aM C ms mw ma ml)) sz)) 0 0 (va_A (List.flatten (wM aM C ms mw ma ml)) sz) := by
  refine cStart (QA := fun A => cQv D (fun (u : (Nat → Nat → Int32)) => post u) (fun u => wM aM C ms mw u ml) A) (cc := cX12_copyRail) (maxL := 3) (ret := none) (by decide) (Nat.le_of_ble_eq_true rfl) ?_
  intro p e s m args below meth c A ls hx hb hr hml hown hw hlocks hname hK hN hA hP hD hS hl
  generalize hQ : MQ below _ args s 0 0 A = Q
  have hl : lv_has ls 3 [(0, .ref (aM 0)), (1, .int p1), (2, .int p2)] := hl
  obtain ⟨H, hH⟩ : ∃ H, H = s.heap := ⟨_, rfl⟩
  obtain ⟨locs, hlo⟩ : ∃ z : List Loc, z = [] := ⟨_, rfl⟩
  have hP : va_P D vwCl (List.flatten (wM aM C ms mw ma ml)) H := by rw [hH]; exact hP
  have hS : va_S A s.heap H locs := by rw [hH, hlo]; exact hS
  rw [show W p l e rmX12_copyRail s m args below meth c s.heap [] 0 0 Q (F0 m 0 ls []) = W p l e rmX12_copyRail s m args below meth c H locs 0 0 Q (F0 m 0 ls []) from by rw [hH, hlo]]
  refine lv_aload_n hx hb dX12_copyRail_0 rfl (lv_at hl 0 rfl) ?_
  refine va_get (D := D) (ci := 12) (v := .ref (aM 6)) (C := RX12) (T := TX12) (N := 51) hx hb hw inW_X12 hown hK hP 0 rfl rfl 16 (by decide) (hw _ mw_6_59) (fun _ h9 => h9) rfl dX12_copyRail_1 ?_
  refine lv_iconst (v := 1) hx hb dX12_copyRail_4 (by decide) ?_
  refine lv_iload_n hx hb dX12_copyRail_5 rfl (lv_at hl 1 rfl) ?_
  refine lv_iload_n hx hb dX12_copyRail_6 rfl (lv_at hl 2 rfl) ?_
  refine cGoV (wo := fun u => wM aM C ms mw (va_up ma 3 u) ml) (cRunS (As := [.ref (aM 6), .int 1, .int p1, .int p2]) (rest := []) ⟨hx, hb, hml, hown, hw⟩ hK hN hP hD [6] rfl rfl (k_X12_copyRow l D C _ (aM 6) 5 (ma 3) 1 p1 p2 h) (va_cwS 4 hw (goodS mw_7_118 mw_7_119 mw_1_13 mw_7_120) rfl rfl rfl (by decide +kernel) ⟨Nat.le_of_ble_eq_true rfl, Nat.le_of_ble_eq_true rfl⟩) rfl hl.1 rfl (Nat.le_of_ble_eq_true rfl) dX12_copyRail_7 ⟨Nat.zero_le _, Nat.zero_le _⟩) hP hD hS hA [6] [0, 1, 2, 3, 4, 5, 7, 8, 9, 10, 11, 12, 13, 14, 15, 16, 17, 18, 19, 20, 21, 22, 23, 24, 25, 26, 27, 28, 29, 30, 31, 32] [0, 1, 2, 3, 4, 5, 32, 6, 7, 8, 9, 10, 11, 12, 13, 14, 15, 16, 17, 18, 19, 20, 21, 22, 23, 24, 25, 26, 27, 28, 29, 30, 31] rfl rfl rfl (by decide) rfl (fun _ => rfl) (fun row_1 H locs h hP hD hS => ?_)
  have hP : va_P D vwCl (List.flatten (wM aM C ms mw (va_up ma 3 row_1) ml)) H := hP
  have hD : va_D A (List.flatten (wM aM C ms mw (va_up ma 3 row_1) ml)) := hD
  refine lv_aload_n hx hb dX12_copyRail_10 rfl (lv_at hl 0 rfl) ?_
  refine va_get (D := D) (ci := 12) (v := .ref (aM 7)) (C := RX12) (T := TX12) (N := 51) hx hb hw inW_X12 hown hK hP 0 rfl rfl 17 (by decide) (hw _ mw_6_60) (fun _ h9 => h9) rfl dX12_copyRail_11 ?_
  refine lv_iconst (v := 1) hx hb dX12_copyRail_14 (by decide) ?_
  refine lv_iload_n hx hb dX12_copyRail_15 rfl (lv_at hl 1 rfl) ?_
  refine lv_iload_n hx hb dX12_copyRail_16 rfl (lv_at hl 2 rfl) ?_
  refine cGoV (wo := fun u => wM aM C ms mw (va_up (va_up ma 3 row_1) 4 u) ml) (cRunS (As := [.ref (aM 7), .int 1, .int p1, .int p2]) (rest := []) ⟨hx, hb, hml, hown, hw⟩ hK hN hP hD [7] rfl rfl (k_X12_copyRow l D C _ (aM 7) 5 (ma 4) 1 p1 p2 h) (va_cwS 4 hw (goodS mw_7_118 mw_7_119 mw_1_13 mw_7_120) rfl rfl rfl (by decide +kernel) ⟨Nat.le_of_ble_eq_true rfl, Nat.le_of_ble_eq_true rfl⟩) rfl hl.1 rfl (Nat.le_of_ble_eq_true rfl) dX12_copyRail_17 ⟨Nat.zero_le _, Nat.zero_le _⟩) hP hD hS hA [7] [0, 1, 2, 3, 4, 5, 6, 8, 9, 10, 11, 12, 13, 14, 15, 16, 17, 18, 19, 20, 21, 22, 23, 24, 25, 26, 27, 28, 29, 30, 31, 32] [0, 1, 2, 3, 4, 5, 6, 32, 7, 8, 9, 10, 11, 12, 13, 14, 15, 16, 17, 18, 19, 20, 21, 22, 23, 24, 25, 26, 27, 28, 29, 30, 31] rfl rfl rfl (by decide) rfl (fun _ => rfl) (fun row_2 H locs h hP hD hS => ?_)
  have hP : va_P D vwCl (List.flatten (wM aM C ms mw (va_up (va_up ma 3 row_1) 4 row_2) ml)) H := hP
  have hD : va_D A (List.flatten (wM aM C ms mw (va_up (va_up ma 3 row_1) 4 row_2) ml)) := hD
  refine lv_aload_n hx hb dX12_copyRail_20 rfl (lv_at hl 0 rfl) ?_
  refine va_get (D := D) (ci := 12) (v := .ref (aM 8)) (C := RX12) (T := TX12) (N := 51) hx hb hw inW_X12 hown hK hP 0 rfl rfl 18 (by decide) (hw _ mw_6_61) (fun _ h9 => h9) rfl dX12_copyRail_21 ?_
  refine lv_iconst (v := 1) hx hb dX12_copyRail_24 (by decide) ?_
  refine lv_iload_n hx hb dX12_copyRail_25 rfl (lv_at hl 1 rfl) ?_
  refine lv_iload_n hx hb dX12_copyRail_26 rfl (lv_at hl 2 rfl) ?_
  refine cGoV (wo := fun u => wM aM C ms mw (va_up (va_up (va_up ma 3 row_1) 4 row_2) 5 u) ml) (cRunS (As := [.ref (aM 8), .int 1, .int p1, .int p2]) (rest := []) ⟨hx, hb, hml, hown, hw⟩ hK hN hP hD [8] rfl rfl (k_X12_copyRow l D C _ (aM 8) 5 (ma 5) 1 p1 p2 h) (va_cwS 4 hw (goodS mw_7_118 mw_7_119 mw_1_13 mw_7_120) rfl rfl rfl (by decide +kernel) ⟨Nat.le_of_ble_eq_true rfl, Nat.le_of_ble_eq_true rfl⟩) rfl hl.1 rfl (Nat.le_of_ble_eq_true rfl) dX12_copyRail_27 ⟨Nat.zero_le _, Nat.zero_le _⟩) hP hD hS hA [8] [0, 1, 2, 3, 4, 5, 6, 7, 9, 10, 11, 12, 13, 14, 15, 16, 17, 18, 19, 20, 21, 22, 23, 24, 25, 26, 27, 28, 29, 30, 31, 32] [0, 1, 2, 3, 4, 5, 6, 7, 32, 8, 9, 10, 11, 12, 13, 14, 15, 16, 17, 18, 19, 20, 21, 22, 23, 24, 25, 26, 27, 28, 29, 30, 31] rfl rfl rfl (by decide) rfl (fun _ => rfl) (fun row_3 H locs h hP hD hS => ?_)
  have hP : va_P D vwCl (List.flatten (wM aM C ms mw (va_up (va_up (va_up ma 3 row_1) 4 row_2) 5 row_3) ml)) H := hP
  have hD : va_D A (List.flatten (wM aM C ms mw (va_up (va_up (va_up ma 3 row_1) 4 row_2) 5 row_3) ml)) := hD
  refine lv_aload_n hx hb dX12_copyRail_30 rfl (lv_at hl 0 rfl) ?_
  refine va_get (D := D) (ci := 12) (v := .ref (aM 9)) (C := RX12) (T := TX12) (N := 51) hx hb hw inW_X12 hown hK hP 0 rfl rfl 19 (by decide) (hw _ mw_6_62) (fun _ h9 => h9) rfl dX12_copyRail_31 ?_
  refine lv_iconst (v := 1) hx hb dX12_copyRail_34 (by decide) ?_
  refine lv_iload_n hx hb dX12_copyRail_35 rfl (lv_at hl 1 rfl) ?_
  refine lv_iload_n hx hb dX12_copyRail_36 rfl (lv_at hl 2 rfl) ?_
  refine cGoV (wo := fun u => wM aM C ms mw (va_up (va_up (va_up (va_up ma 3 row_1) 4 row_2) 5 row_3) 6 u) ml) (cRunS (As := [.ref (aM 9), .int 1, .int p1, .int p2]) (rest := []) ⟨hx, hb, hml, hown, hw⟩ hK hN hP hD [9] rfl rfl (k_X12_copyRow l D C _ (aM 9) 5 (ma 6) 1 p1 p2 h) (va_cwS 4 hw (goodS mw_7_118 mw_7_119 mw_1_13 mw_7_120) rfl rfl rfl (by decide +kernel) ⟨Nat.le_of_ble_eq_true rfl, Nat.le_of_ble_eq_true rfl⟩) rfl hl.1 rfl (Nat.le_of_ble_eq_true rfl) dX12_copyRail_37 ⟨Nat.zero_le _, Nat.zero_le _⟩) hP hD hS hA [9] [0, 1, 2, 3, 4, 5, 6, 7, 8, 10, 11, 12, 13, 14, 15, 16, 17, 18, 19, 20, 21, 22, 23, 24, 25, 26, 27, 28, 29, 30, 31, 32] [0, 1, 2, 3, 4, 5, 6, 7, 8, 32, 9, 10, 11, 12, 13, 14, 15, 16, 17, 18, 19, 20, 21, 22, 23, 24, 25, 26, 27, 28, 29, 30, 31] rfl rfl rfl (by decide) rfl (fun _ => rfl) (fun row_4 H locs h hP hD hS => ?_)
  have hP : va_P D vwCl (List.flatten (wM aM C ms mw (va_up (va_up (va_up (va_up ma 3 row_1) 4 row_2) 5 row_3) 6 row_4) ml)) H := hP
  have hD : va_D A (List.flatten (wM aM C ms mw (va_up (va_up (va_up (va_up ma 3 row_1) 4 row_2) 5 row_3) 6 row_4) ml)) := hD
  refine lv_aload_n hx hb dX12_copyRail_40 rfl (lv_at hl 0 rfl) ?_
  refine va_get (D := D) (ci := 12) (v := .ref (aM 10)) (C := RX12) (T := TX12) (N := 51) hx hb hw inW_X12 hown hK hP 0 rfl rfl 20 (by decide) (hw _ mw_6_63) (fun _ h9 => h9) rfl dX12_copyRail_41 ?_
  refine lv_bipush (v := 8) hx hb dX12_copyRail_44 (by decide) ?_
  refine lv_iload_n hx hb dX12_copyRail_46 rfl (lv_at hl 1 rfl) ?_
  refine lv_iload_n hx hb dX12_copyRail_47 rfl (lv_at hl 2 rfl) ?_
  refine cGoV (wo := fun u => wM aM C ms mw (va_up (va_up (va_up (va_up (va_up ma 3 row_1) 4 row_2) 5 row_3) 6 row_4) 7 u) ml) (cRunS (As := [.ref (aM 10), .int 8, .int p1, .int p2]) (rest := []) ⟨hx, hb, hml, hown, hw⟩ hK hN hP hD [10] rfl rfl (k_X12_copyRow l D C _ (aM 10) 40 (ma 7) 8 p1 p2 h) (va_cwS 4 hw (goodS mw_7_118 mw_7_119 mw_1_13 mw_7_120) rfl rfl rfl (by decide +kernel) ⟨Nat.le_of_ble_eq_true rfl, Nat.le_of_ble_eq_true rfl⟩) rfl hl.1 rfl (Nat.le_of_ble_eq_true rfl) dX12_copyRail_48 ⟨Nat.zero_le _, Nat.zero_le _⟩) hP hD hS hA [10] [0, 1, 2, 3, 4, 5, 6, 7, 8, 9, 11, 12, 13, 14, 15, 16, 17, 18, 19, 20, 21, 22, 23, 24, 25, 26, 27, 28, 29, 30, 31, 32] [0, 1, 2, 3, 4, 5, 6, 7, 8, 9, 32, 10, 11, 12, 13, 14, 15, 16, 17, 18, 19, 20, 21, 22, 23, 24, 25, 26, 27, 28, 29, 30, 31] rfl rfl rfl (by decide) rfl (fun _ => rfl) (fun row_5 H locs h hP hD hS => ?_)
  have hP : va_P D vwCl (List.flatten (wM aM C ms mw (va_up (va_up (va_up (va_up (va_up ma 3 row_1) 4 row_2) 5 row_3) 6 row_4) 7 row_5) ml)) H := hP
  have hD : va_D A (List.flatten (wM aM C ms mw (va_up (va_up (va_up (va_up (va_up ma 3 row_1) 4 row_2) 5 row_3) 6 row_4) 7 row_5) ml)) := hD
  refine lv_aload_n hx hb dX12_copyRail_51 rfl (lv_at hl 0 rfl) ?_
  refine va_get (D := D) (ci := 12) (v := .ref (aM 11)) (C := RX12) (T := TX12) (N := 51) hx hb hw inW_X12 hown hK hP 0 rfl rfl 21 (by decide) (hw _ mw_6_64) (fun _ h9 => h9) rfl dX12_copyRail_52 ?_
  refine lv_iconst (v := 1) hx hb dX12_copyRail_55 (by decide) ?_
  refine lv_iload_n hx hb dX12_copyRail_56 rfl (lv_at hl 1 rfl) ?_
  refine lv_iload_n hx hb dX12_copyRail_57 rfl (lv_at hl 2 rfl) ?_
  refine cGoV (wo := fun u => wM aM C ms mw (va_up (va_up (va_up (va_up (va_up (va_up ma 3 row_1) 4 row_2) 5 row_3) 6 row_4) 7 row_5) 8 u) ml) (cRunS (As := [.ref (aM 11), .int 1, .int p1, .int p2]) (rest := []) ⟨hx, hb, hml, hown, hw⟩ hK hN hP hD [11] rfl rfl (k_X12_copyRow l D C _ (aM 11) 5 (ma 8) 1 p1 p2 h) (va_cwS 4 hw (goodS mw_7_118 mw_7_119 mw_1_13 mw_7_120) rfl rfl rfl (by decide +kernel) ⟨Nat.le_of_ble_eq_true rfl, Nat.le_of_ble_eq_true rfl⟩) rfl hl.1 rfl (Nat.le_of_ble_eq_true rfl) dX12_copyRail_58 ⟨Nat.zero_le _, Nat.zero_le _⟩) hP hD hS hA [11] [0, 1, 2, 3, 4, 5, 6, 7, 8, 9, 10, 12, 13, 14, 15, 16, 17, 18, 19, 20, 21, 22, 23, 24, 25, 26, 27, 28, 29, 30, 31, 32] [0, 1, 2, 3, 4, 5, 6, 7, 8, 9, 10, 32, 11, 12, 13, 14, 15, 16, 17, 18, 19, 20, 21, 22, 23, 24, 25, 26, 27, 28, 29, 30, 31] rfl rfl rfl (by decide) rfl (fun _ => rfl) (fun row_6 H locs h hP hD hS => ?_)
  have hP : va_P D vwCl (List.flatten (wM aM C ms mw (va_up (va_up (va_up (va_up (va_up (va_up ma 3 row_1) 4 row_2) 5 row_3) 6 row_4) 7 row_5) 8 row_6) ml)) H := hP
  have hD : va_D A (List.flatten (wM aM C ms mw (va_up (va_up (va_up (va_up (va_up (va_up ma 3 row_1) 4 row_2) 5 row_3) 6 row_4) 7 row_5) 8 row_6) ml)) := hD
  refine lv_aload_n hx hb dX12_copyRail_61 rfl (lv_at hl 0 rfl) ?_
  refine va_get (D := D) (ci := 12) (v := .ref (aM 12)) (C := RX12) (T := TX12) (N := 51) hx hb hw inW_X12 hown hK hP 0 rfl rfl 22 (by decide) (hw _ mw_6_65) (fun _ h9 => h9) rfl dX12_copyRail_62 ?_
  refine lv_bipush (v := 20) hx hb dX12_copyRail_65 (by decide) ?_
  refine lv_iload_n hx hb dX12_copyRail_67 rfl (lv_at hl 1 rfl) ?_
  refine lv_iload_n hx hb dX12_copyRail_68 rfl (lv_at hl 2 rfl) ?_
  refine cGoV (wo := fun u => wM aM C ms mw (va_up (va_up (va_up (va_up (va_up (va_up (va_up ma 3 row_1) 4 row_2) 5 row_3) 6 row_4) 7 row_5) 8 row_6) 9 u) ml) (cRunS (As := [.ref (aM 12), .int 20, .int p1, .int p2]) (rest := []) ⟨hx, hb, hml, hown, hw⟩ hK hN hP hD [12] rfl rfl (k_X12_copyRow l D C _ (aM 12) 100 (ma 9) 20 p1 p2 h) (va_cwS 4 hw (goodS mw_7_118 mw_7_119 mw_1_13 mw_7_120) rfl rfl rfl (by decide +kernel) ⟨Nat.le_of_ble_eq_true rfl, Nat.le_of_ble_eq_true rfl⟩) rfl hl.1 rfl (Nat.le_of_ble_eq_true rfl) dX12_copyRail_69 ⟨Nat.zero_le _, Nat.zero_le _⟩) hP hD hS hA [12] [0, 1, 2, 3, 4, 5, 6, 7, 8, 9, 10, 11, 13, 14, 15, 16, 17, 18, 19, 20, 21, 22, 23, 24, 25, 26, 27, 28, 29, 30, 31, 32] [0, 1, 2, 3, 4, 5, 6, 7, 8, 9, 10, 11, 32, 12, 13, 14, 15, 16, 17, 18, 19, 20, 21, 22, 23, 24, 25, 26, 27, 28, 29, 30, 31] rfl rfl rfl (by decide) rfl (fun _ => rfl) (fun row_7 H locs h hP hD hS => ?_)
  have hP : va_P D vwCl (List.flatten (wM aM C ms mw (va_up (va_up (va_up (va_up (va_up (va_up (va_up ma 3 row_1) 4 row_2) 5 row_3) 6 row_4) 7 row_5) 8 row_6) 9 row_7) ml)) H := hP
  have hD : va_D A (List.flatten (wM aM C ms mw (va_up (va_up (va_up (va_up (va_up (va_up (va_up ma 3 row_1) 4 row_2) 5 row_3) 6 row_4) 7 row_5) 8 row_6) 9 row_7) ml)) := hD
  refine lv_aload_n hx hb dX12_copyRail_72 rfl (lv_at hl 0 rfl) ?_
  refine va_get (D := D) (ci := 12) (v := .ref (aM 13)) (C := RX12) (T := TX12) (N := 51) hx hb hw inW_X12 hown hK hP 0 rfl rfl 23 (by decide) (hw _ mw_6_66) (fun _ h9 => h9) rfl dX12_copyRail_73 ?_
  refine lv_iconst (v := 1) hx hb dX12_copyRail_76 (by decide) ?_
  refine lv_iload_n hx hb dX12_copyRail_77 rfl (lv_at hl 1 rfl) ?_
  refine lv_iload_n hx hb dX12_copyRail_78 rfl (lv_at hl 2 rfl) ?_
  refine cGoV (wo := fun u => wM aM C ms mw (va_up (va_up (va_up (va_up (va_up (va_up (va_up (va_up ma 3 row_1) 4 row_2) 5 row_3) 6 row_4) 7 row_5) 8 row_6) 9 row_7) 10 u) ml) (cRunS (As := [.ref (aM 13), .int 1, .int p1, .int p2]) (rest := []) ⟨hx, hb, hml, hown, hw⟩ hK hN hP hD [13] rfl rfl (k_X12_copyRow l D C _ (aM 13) 5 (ma 10) 1 p1 p2 h) (va_cwS 4 hw (goodS mw_7_118 mw_7_119 mw_1_13 mw_7_120) rfl rfl rfl (by decide +kernel) ⟨Nat.le_of_ble_eq_true rfl, Nat.le_of_ble_eq_true rfl⟩) rfl hl.1 rfl (Nat.le_of_ble_eq_true rfl) dX12_copyRail_79 ⟨Nat.zero_le _, Nat.zero_le _⟩) hP hD hS hA [13] [0, 1, 2, 3, 4, 5, 6, 7, 8, 9, 10, 11, 12, 14, 15, 16, 17, 18, 19, 20, 21, 22, 23, 24, 25, 26, 27, 28, 29, 30, 31, 32] [0, 1, 2, 3, 4, 5, 6, 7, 8, 9, 10, 11, 12, 32, 13, 14, 15, 16, 17, 18, 19, 20, 21, 22, 23, 24, 25, 26, 27, 28, 29, 30, 31] rfl rfl rfl (by decide) rfl (fun _ => rfl) (fun row_8 H locs h hP hD hS => ?_)
  have hP : va_P D vwCl (List.flatten (wM aM C ms mw (va_up (va_up (va_up (va_up (va_up (va_up (va_up (va_up ma 3 row_1) 4 row_2) 5 row_3) 6 row_4) 7 row_5) 8 row_6) 9 row_7) 10 row_8) ml)) H := hP
  have hD : va_D A (List.flatten (wM aM C ms mw (va_up (va_up (va_up (va_up (va_up (va_up (va_up (va_up ma 3 row_1) 4 row_2) 5 row_3) 6 row_4) 7 row_5) 8 row_6) 9 row_7) 10 row_8) ml)) := hD
  refine lv_aload_n hx hb dX12_copyRail_82 rfl (lv_at hl 0 rfl) ?_
  refine va_get (D := D) (ci := 12) (v := .ref (aM 14)) (C := RX12) (T := TX12) (N := 51) hx hb hw inW_X12 hown hK hP 0 rfl rfl 24 (by decide) (hw _ mw_6_67) (fun _ h9 => h9) rfl dX12_copyRail_83 ?_
  refine lv_bipush (v := 50) hx hb dX12_copyRail_86 (by decide) ?_
  refine lv_iload_n hx hb dX12_copyRail_88 rfl (lv_at hl 1 rfl) ?_
  refine lv_iload_n hx hb dX12_copyRail_89 rfl (lv_at hl 2 rfl) ?_
  refine cGoV (wo := fun u => wM aM C ms mw (va_up (va_up (va_up (va_up (va_up (va_up (va_up (va_up (va_up ma 3 row_1) 4 row_2) 5 row_3) 6 row_4) 7 row_5) 8 row_6) 9 row_7) 10 row_8) 11 u) ml) (cRunS (As := [.ref (aM 14), .int 50, .int p1, .int p2]) (rest := []) ⟨hx, hb, hml, hown, hw⟩ hK hN hP hD [14] rfl rfl (k_X12_copyRow l D C _ (aM 14) 250 (ma 11) 50 p1 p2 h) (va_cwS 4 hw (goodS mw_7_118 mw_7_119 mw_1_13 mw_7_120) rfl rfl rfl (by decide +kernel) ⟨Nat.le_of_ble_eq_true rfl, Nat.le_of_ble_eq_true rfl⟩) rfl hl.1 rfl (Nat.le_of_ble_eq_true rfl) dX12_copyRail_90 ⟨Nat.zero_le _, Nat.zero_le _⟩) hP hD hS hA [14] [0, 1, 2, 3, 4, 5, 6, 7, 8, 9, 10, 11, 12, 13, 15, 16, 17, 18, 19, 20, 21, 22, 23, 24, 25, 26, 27, 28, 29, 30, 31, 32] [0, 1, 2, 3, 4, 5, 6, 7, 8, 9, 10, 11, 12, 13, 32, 14, 15, 16, 17, 18, 19, 20, 21, 22, 23, 24, 25, 26, 27, 28, 29, 30, 31] rfl rfl rfl (by decide) rfl (fun _ => rfl) (fun row_9 H locs h hP hD hS => ?_)
  have hP : va_P D vwCl (List.flatten (wM aM C ms mw (va_up (va_up (va_up (va_up (va_up (va_up (va_up (va_up (va_up ma 3 row_1) 4 row_2) 5 row_3) 6 row_4) 7 row_5) 8 row_6) 9 row_7) 10 row_8) 11 row_9) ml)) H := hP
  have hD : va_D A (List.flatten (wM aM C ms mw (va_up (va_up (va_up (va_up (va_up (va_up (va_up (va_up (va_up ma 3 row_1) 4 row_2) 5 row_3) 6 row_4) 7 row_5) 8 row_6) 9 row_7) 10 row_8) 11 row_9) ml)) := hD
  refine lv_aload_n hx hb dX12_copyRail_93 rfl (lv_at hl 0 rfl) ?_
  refine va_get (D := D) (ci := 12) (v := .ref (aM 15)) (C := RX12) (T := TX12) (N := 51) hx hb hw inW_X12 hown hK hP 0 rfl rfl 25 (by decide) (hw _ mw_6_68) (fun _ h9 => h9) rfl dX12_copyRail_94 ?_
  refine lv_iconst (v := 1) hx hb dX12_copyRail_97 (by decide) ?_
  refine lv_iload_n hx hb dX12_copyRail_98 rfl (lv_at hl 1 rfl) ?_
  refine lv_iload_n hx hb dX12_copyRail_99 rfl (lv_at hl 2 rfl) ?_
  refine cGoV (wo := fun u => wM aM C ms mw (va_up (va_up (va_up (va_up (va_up (va_up (va_up (va_up (va_up (va_up ma 3 row_1) 4 row_2) 5 row_3) 6 row_4) 7 row_5) 8 row_6) 9 row_7) 10 row_8) 11 row_9) 12 u) ml) (cRunS (As := [.ref (aM 15), .int 1, .int p1, .int p2]) (rest := []) ⟨hx, hb, hml, hown, hw⟩ hK hN hP hD [15] rfl rfl (k_X12_copyRow l D C _ (aM 15) 5 (ma 12) 1 p1 p2 h) (va_cwS 4 hw (goodS mw_7_118 mw_7_119 mw_1_13 mw_7_120) rfl rfl rfl (by decide +kernel) ⟨Nat.le_of_ble_eq_true rfl, Nat.le_of_ble_eq_true rfl⟩) rfl hl.1 rfl (Nat.le_of_ble_eq_true rfl) dX12_copyRail_100 ⟨Nat.zero_le _, Nat.zero_le _⟩) hP hD hS hA [15] [0, 1, 2, 3, 4, 5, 6, 7, 8, 9, 10, 11, 12, 13, 14, 16, 17, 18, 19, 20, 21, 22, 23, 24, 25, 26, 27, 28, 29, 30, 31, 32] [0, 1, 2, 3, 4, 5, 6, 7, 8, 9, 10, 11, 12, 13, 14, 32, 15, 16, 17, 18, 19, 20, 21, 22, 23, 24, 25, 26, 27, 28, 29, 30, 31] rfl rfl rfl (by decide) rfl (fun _ => rfl) (fun row_10 H locs h hP hD hS => ?_)
  have hP : va_P D vwCl (List.flatten (wM aM C ms mw (va_up (va_up (va_up (va_up (va_up (va_up (va_up (va_up (va_up (va_up ma 3 row_1) 4 row_2) 5 row_3) 6 row_4) 7 row_5) 8 row_6) 9 row_7) 10 row_8) 11 row_9) 12 row_10) ml)) H := hP
  have hD : va_D A (List.flatten (wM aM C ms mw (va_up (va_up (va_up (va_up (va_up (va_up (va_up (va_up (va_up (va_up ma 3 row_1) 4 row_2) 5 row_3) 6 row_4) 7 row_5) 8 row_6) 9 row_7) 10 row_8) 11 row_9) 12 row_10) ml)) := hD
  refine lv_aload_n hx hb dX12_copyRail_103 rfl (lv_at hl 0 rfl) ?_
  refine va_get (D := D) (ci := 12) (v := .ref (aM 16)) (C := RX12) (T := TX12) (N := 51) hx hb hw inW_X12 hown hK hP 0 rfl rfl 26 (by decide) (hw _ mw_6_69) (fun _ h9 => h9) rfl dX12_copyRail_104 ?_
  refine lv_bipush (v := 30) hx hb dX12_copyRail_107 (by decide) ?_
  refine lv_iload_n hx hb dX12_copyRail_109 rfl (lv_at hl 1 rfl) ?_
  refine lv_iload_n hx hb dX12_copyRail_110 rfl (lv_at hl 2 rfl) ?_
  refine cGoV (wo := fun u => wM aM C ms mw (va_up (va_up (va_up (va_up (va_up (va_up (va_up (va_up (va_up (va_up (va_up ma 3 row_1) 4 row_2) 5 row_3) 6 row_4) 7 row_5) 8 row_6) 9 row_7) 10 row_8) 11 row_9) 12 row_10) 13 u) ml) (cRunS (As := [.ref (aM 16), .int 30, .int p1, .int p2]) (rest := []) ⟨hx, hb, hml, hown, hw⟩ hK hN hP hD [16] rfl rfl (k_X12_copyRow l D C _ (aM 16) 150 (ma 13) 30 p1 p2 h) (va_cwS 4 hw (goodS mw_7_118 mw_7_119 mw_1_13 mw_7_120) rfl rfl rfl (by decide +kernel) ⟨Nat.le_of_ble_eq_true rfl, Nat.le_of_ble_eq_true rfl⟩) rfl hl.1 rfl (Nat.le_of_ble_eq_true rfl) dX12_copyRail_111 ⟨Nat.zero_le _, Nat.zero_le _⟩) hP hD hS hA [16] [0, 1, 2, 3, 4, 5, 6, 7, 8, 9, 10, 11, 12, 13, 14, 15, 17, 18, 19, 20, 21, 22, 23, 24, 25, 26, 27, 28, 29, 30, 31, 32] [0, 1, 2, 3, 4, 5, 6, 7, 8, 9, 10, 11, 12, 13, 14, 15, 32, 16, 17, 18, 19, 20, 21, 22, 23, 24, 25, 26, 27, 28, 29, 30, 31] rfl rfl rfl (by decide) rfl (fun _ => rfl) (fun row_11 H locs h hP hD hS => ?_)
  have hP : va_P D vwCl (List.flatten (wM aM C ms mw (va_up (va_up (va_up (va_up (va_up (va_up (va_up (va_up (va_up (va_up (va_up ma 3 row_1) 4 row_2) 5 row_3) 6 row_4) 7 row_5) 8 row_6) 9 row_7) 10 row_8) 11 row_9) 12 row_10) 13 row_11) ml)) H := hP
  have hD : va_D A (List.flatten (wM aM C ms mw (va_up (va_up (va_up (va_up (va_up (va_up (va_up (va_up (va_up (va_up (va_up ma 3 row_1) 4 row_2) 5 row_3) 6 row_4) 7 row_5) 8 row_6) 9 row_7) 10 row_8) 11 row_9) 12 row_10) 13 row_11) ml)) := hD
  refine lv_aload_n hx hb dX12_copyRail_114 rfl (lv_at hl 0 rfl) ?_
  refine va_get (D := D) (ci := 12) (v := .ref (aM 17)) (C := RX12) (T := TX12) (N := 51) hx hb hw inW_X12 hown hK hP 0 rfl rfl 27 (by decide) (hw _ mw_6_70) (fun _ h9 => h9) rfl dX12_copyRail_115 ?_
  refine lv_bipush (v := 7) hx hb dX12_copyRail_118 (by decide) ?_
  refine lv_iload_n hx hb dX12_copyRail_120 rfl (lv_at hl 1 rfl) ?_
  refine lv_iload_n hx hb dX12_copyRail_121 rfl (lv_at hl 2 rfl) ?_
  refine cGoV (wo := fun u => wM aM C ms mw (va_up (va_up (va_up (va_up (va_up (va_up (va_up (va_up (va_up (va_up (va_up (va_up ma 3 row_1) 4 row_2) 5 row_3) 6 row_4) 7 row_5) 8 row_6) 9 row_7) 10 row_8) 11 row_9) 12 row_10) 13 row_11) 14 u) ml) (cRunS (As := [.ref (aM 17), .int 7, .int p1, .int p2]) (rest := []) ⟨hx, hb, hml, hown, hw⟩ hK hN hP hD [17] rfl rfl (k_X12_copyRow l D C _ (aM 17) 35 (ma 14) 7 p1 p2 h) (va_cwS 4 hw (goodS mw_7_118 mw_7_119 mw_1_13 mw_7_120) rfl rfl rfl (by decide +kernel) ⟨Nat.le_of_ble_eq_true rfl, Nat.le_of_ble_eq_true rfl⟩) rfl hl.1 rfl (Nat.le_of_ble_eq_true rfl) dX12_copyRail_122 ⟨Nat.zero_le _, Nat.zero_le _⟩) hP hD hS hA [17] [0, 1, 2, 3, 4, 5, 6, 7, 8, 9, 10, 11, 12, 13, 14, 15, 16, 18, 19, 20, 21, 22, 23, 24, 25, 26, 27, 28, 29, 30, 31, 32] [0, 1, 2, 3, 4, 5, 6, 7, 8, 9, 10, 11, 12, 13, 14, 15, 16, 32, 17, 18, 19, 20, 21, 22, 23, 24, 25, 26, 27, 28, 29, 30, 31] rfl rfl rfl (by decide) rfl (fun _ => rfl) (fun row_12 H locs h hP hD hS => ?_)
  have hP : va_P D vwCl (List.flatten (wM aM C ms mw (va_up (va_up (va_up (va_up (va_up (va_up (va_up (va_up (va_up (va_up (va_up (va_up ma 3 row_1) 4 row_2) 5 row_3) 6 row_4) 7 row_5) 8 row_6) 9 row_7) 10 row_8) 11 row_9) 12 row_10) 13 row_11) 14 row_12) ml)) H := hP
  have hD : va_D A (List.flatten (wM aM C ms mw (va_up (va_up (va_up (va_up (va_up (va_up (va_up (va_up (va_up (va_up (va_up (va_up ma 3 row_1) 4 row_2) 5 row_3) 6 row_4) 7 row_5) 8 row_6) 9 row_7) 10 row_8) 11 row_9) 12 row_10) 13 row_11) 14 row_12) ml)) := hD
  refine lv_aload_n hx hb dX12_copyRail_125 rfl (lv_at hl 0 rfl) ?_
  refine va_get (D := D) (ci := 12) (v := .ref (aM 19)) (C := RX12) (T := TX12) (N := 51) hx hb hw inW_X12 hown hK hP 0 rfl rfl 29 (by decide) (hw _ mw_6_72) (fun _ h9 => h9) rfl dX12_copyRail_126 ?_
  refine lv_bipush (v := 17) hx hb dX12_copyRail_129 (by decide) ?_
  refine lv_iload_n hx hb dX12_copyRail_131 rfl (lv_at hl 1 rfl) ?_
  refine lv_iload_n hx hb dX12_copyRail_132 rfl (lv_at hl 2 rfl) ?_
  refine cGoV (wo := fun u => wM aM C ms mw (va_up (va_up (va_up (va_up (va_up (va_up (va_up (va_up (va_up (va_up (va_up (va_up (va_up ma 3 row_1) 4 row_2) 5 row_3) 6 row_4) 7 row_5) 8 row_6) 9 row_7) 10 row_8) 11 row_9) 12 row_10) 13 row_11) 14 row_12) 16 u) ml) (cRunS (As := [.ref (aM 19), .int 17, .int p1, .int p2]) (rest := []) ⟨hx, hb, hml, hown, hw⟩ hK hN hP hD [19] rfl rfl (k_X12_copyRow l D C _ (aM 19) 85 (ma 16) 17 p1 p2 h) (va_cwS 4 hw (goodS mw_7_118 mw_7_119 mw_1_13 mw_7_120) rfl rfl rfl (by decide +kernel) ⟨Nat.le_of_ble_eq_true rfl, Nat.le_of_ble_eq_true rfl⟩) rfl hl.1 rfl (Nat.le_of_ble_eq_true rfl) dX12_copyRail_133 ⟨Nat.zero_le _, Nat.zero_le _⟩) hP hD hS hA [19] [0, 1, 2, 3, 4, 5, 6, 7, 8, 9, 10, 11, 12, 13, 14, 15, 16, 17, 18, 20, 21, 22, 23, 24, 25, 26, 27, 28, 29, 30, 31, 32] [0, 1, 2, 3, 4, 5, 6, 7, 8, 9, 10, 11, 12, 13, 14, 15, 16, 17, 18, 32, 19, 20, 21, 22, 23, 24, 25, 26, 27, 28, 29, 30, 31] rfl rfl rfl (by decide) rfl (fun _ => rfl) (fun row_13 H locs h hP hD hS => ?_)
  have hP : va_P D vwCl (List.flatten (wM aM C ms mw (va_up (va_up (va_up (va_up (va_up (va_up (va_up (va_up (va_up (va_up (va_up (va_up (va_up ma 3 row_1) 4 row_2) 5 row_3) 6 row_4) 7 row_5) 8 row_6) 9 row_7) 10 row_8) 11 row_9) 12 row_10) 13 row_11) 14 row_12) 16 row_13) ml)) H := hP
  have hD : va_D A (List.flatten (wM aM C ms mw (va_up (va_up (va_up (va_up (va_up (va_up (va_up (va_up (va_up (va_up (va_up (va_up (va_up ma 3 row_1) 4 row_2) 5 row_3) 6 row_4) 7 row_5) 8 row_6) 9 row_7) 10 row_8) 11 row_9) 12 row_10) 13 row_11) 14 row_12) 16 row_13) ml)) := hD
  rw [← hQ]
  exact cRetV ((va_up (va_up (va_up (va_up (va_up (va_up (va_up (va_up (va_up (va_up (va_up (va_up (va_up ma 3 row_1) 4 row_2) 5 row_3) 6 row_4) 7 row_5) 8 row_6) 9 row_7) 10 row_8) 11 row_9) 12 row_10) 13 row_11) 14 row_12) 16 row_13)) hx hb hr hlocks hS hP hD h dX12_copyRail_136
abbrev vsX12_apart : List Cond := Cond.code yX12_apart cX12_apart 2 (some .int) :: WS
abbrev rmX12_apart : Room := { frames := 0, cells := 0, slots := 0, locals := 0 }
set_option maxHeartbeats 4000000 in
set_option maxRecDepth 100000 in
theorem k_X12_apart (l : Launch) (D : va_G) (C : Nat → ClassId) (sz : Nat)    (p1 : Int32) (p2 : Int32) {post : Int32 → Prop} (h : P_X12_apart p1 p2 post) : Met l yX12_apart vsX12_apart rmX12_apart (cPre D C [.int p1, .int p2] sz (([] : List va_W))) (cQi D (fun (r : Int32) (u : Unit) => post r ) (fun u => ([] : List va_W)) (va_A (List.flatten (([] : List va_W))) sz)) 0 0 (va_A (List.flatten (([] : List va_W))) sz) := by
  refine cStart (QA := fun A => cQi D (fun (r : Int32) (u : Unit) => post r ) (fun u => ([] : List va_W)) A) (cc := cX12_apart) (maxL := 2) (ret := (some .int)) (by decide) (Nat.le_of_ble_eq_true rfl) ?_
  intro p e s m args below meth c A ls hx hb hr hml hown hw hlocks hname hK hN hA hP hD hS hl
  generalize hQ : MQ below _ args s 0 0 A = Q
  have hl : lv_has ls 2 [(0, .int p1), (1, .int p2)] := hl
  obtain ⟨H, hH⟩ : ∃ H, H = s.heap := ⟨_, rfl⟩
  obtain ⟨locs, hlo⟩ : ∃ z : List Loc, z = [] := ⟨_, rfl⟩
  have hP : va_P D vwCl (List.flatten (([] : List va_W))) H := by rw [hH]; exact hP
  have hS : va_S A s.heap H locs := by rw [hH, hlo]; exact hS
  rw [show W p l e rmX12_apart s m args below meth c s.heap [] 0 0 Q (F0 m 0 ls []) = W p l e rmX12_apart s m args below meth c H locs 0 0 Q (F0 m 0 ls []) from by rw [hH, hlo]]
  refine lv_iload_n hx hb dX12_apart_0 rfl (lv_at hl 0 rfl) ?_
  refine lv_iload_n hx hb dX12_apart_1 rfl (lv_at hl 1 rfl) ?_
  refine lv_icmp_ge (tgt := 11) hx hb dX12_apart_2 (by decide) (fun c1 => ?_) (fun c1 => ?_)
  · have h := h.1 c1
    refine lv_iload_n hx hb dX12_apart_11 rfl (lv_at hl 0 rfl) ?_
    refine lv_iload_n hx hb dX12_apart_12 rfl (lv_at hl 1 rfl) ?_
    refine lv_isub hx hb dX12_apart_13 ?_
    rw [← hQ]
    exact cRetI (v := (p1 - p2)) () hx hb hr hlocks hS hP hD h dX12_apart_14
  · have h := h.2 c1
    refine lv_iload_n hx hb dX12_apart_5 rfl (lv_at hl 1 rfl) ?_
    refine lv_iload_n hx hb dX12_apart_6 rfl (lv_at hl 0 rfl) ?_
    refine lv_isub hx hb dX12_apart_7 ?_
    refine lv_goto (tgt := 14) hx hb dX12_apart_8 (by decide) ?_
    rw [← hQ]
    exact cRetI (v := (p2 - p1)) () hx hb hr hlocks hS hP hD h dX12_apart_14
abbrev vsX12_above : List Cond := Cond.code yX12_above cX12_above 1 (some .int) :: WS
abbrev rmX12_above : Room := { frames := 0, cells := 0, slots := 0, locals := 0 }
set_option maxHeartbeats 4000000 in
set_option maxRecDepth 100000 in
theorem k_X12_above (l : Launch) (D : va_G) (C : Nat → ClassId) (sz : Nat)    (p1 : Int32) {post : Int32 → Prop} (h : P_X12_above p1 post) : Met l yX12_above vsX12_above rmX12_above (cPre D C [.int p1] sz (([] : List va_W))) (cQi D (fun (r : Int32) (u : Unit) => post r ) (fun u => ([] : List va_W)) (va_A (List.flatten (([] : List va_W))) sz)) 0 0 (va_A (List.flatten (([] : List va_W))) sz) := by
  refine cStart (QA := fun A => cQi D (fun (r : Int32) (u : Unit) => post r ) (fun u => ([] : List va_W)) A) (cc := cX12_above) (maxL := 1) (ret := (some .int)) (by decide) (Nat.le_of_ble_eq_true rfl) ?_
  intro p e s m args below meth c A ls hx hb hr hml hown hw hlocks hname hK hN hA hP hD hS hl
  generalize hQ : MQ below _ args s 0 0 A = Q
  have hl : lv_has ls 1 [(0, .int p1)] := hl
  obtain ⟨H, hH⟩ : ∃ H, H = s.heap := ⟨_, rfl⟩
  obtain ⟨locs, hlo⟩ : ∃ z : List Loc, z = [] := ⟨_, rfl⟩
  have hP : va_P D vwCl (List.flatten (([] : List va_W))) H := by rw [hH]; exact hP
  have hS : va_S A s.heap H locs := by rw [hH, hlo]; exact hS
  rw [show W p l e rmX12_above s m args below meth c s.heap [] 0 0 Q (F0 m 0 ls []) = W p l e rmX12_above s m args below meth c H locs 0 0 Q (F0 m 0 ls []) from by rw [hH, hlo]]
  refine lv_iload_n hx hb dX12_above_0 rfl (lv_at hl 0 rfl) ?_
  refine lv_if_le (tgt := 8) hx hb dX12_above_1 (by decide) (fun c1 => ?_) (fun c1 => ?_)
  · have h := h.1 c1
    refine lv_iconst (v := 0) hx hb dX12_above_8 (by decide) ?_
    rw [← hQ]
    exact cRetI (v := 0) () hx hb hr hlocks hS hP hD h dX12_above_9
  · have h := h.2 c1
    refine lv_iload_n hx hb dX12_above_4 rfl (lv_at hl 0 rfl) ?_
    refine lv_goto (tgt := 9) hx hb dX12_above_5 (by decide) ?_
    rw [← hQ]
    exact cRetI (v := p1) () hx hb hr hlocks hS hP hD h dX12_above_9
