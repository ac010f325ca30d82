abbrev vsX2_add : List Cond := Cond.code yX2_add cX2_add 5 none :: WS
abbrev rmX2_add : Room := { frames := 0, cells := 0, slots := 0, locals := 0 }
set_option maxHeartbeats 4000000 in
set_option maxRecDepth 100000 in
theorem k_X2_add (l : Launch) (D : va_G) (C : Nat → ClassId) (sz : Nat) (a0 : Nat) (a1 : Nat) (a2 : Nat)  (a_count : Int32) (a_price : Nat → Int32) (a_cuts : Nat → Int32) (p1 : Int32) (p2 : Int32) (p3 : Int32) (p4 : Int32) {post : (Int32) → (Nat → Int32) → (Nat → Int32) → Prop} (h : P_X2_add a_count a_price a_cuts p1 p2 p3 p4 post) : Met l yX2_add vsX2_add rmX2_add (cPre D C [.ref a0, .int p1, .int p2, .int p3, .int p4] sz ([cLocks a0 a1 a2 C a_count a_price a_cuts])) (cQv D (fun (u : (Int32) × (Nat → Int32) × (Nat → Int32)) => post u.1 u.2.1 u.2.2) (fun u => [cLocks a0 a1 a2 C u.1 u.2.1 u.2.2]) (va_A (List.flatten ([cLocks a0 a1 a2 C a_count a_price a_cuts])) sz)) 0 0 (va_A (List.flatten ([cLocks a0 a1 a2 C a_count a_price a_cuts])) sz) := by
  refine cStart (QA := fun A => cQv D (fun (u : (Int32) × (Nat → Int32) × (Nat → Int32)) => post u.1 u.2.1 u.2.2) (fun u => [cLocks a0 a1 a2 C u.1 u.2.1 u.2.2]) A) (cc := cX2_add) (maxL := 5) (ret := none) (by decide) (Nat.le_of_ble_eq_true rfl) ?_
  intro p e s m args below meth c A ls hx hb hr hml hown hw hlocks hname hK hN hA hP hD hS hl
  generalize hQ : MQ below _ args s 0 0 A = Q
  have hl : lv_has ls 5 [(0, .ref a0), (1, .int p1), (2, .int p2), (3, .int p3), (4, .int p4)] := hl
  obtain ⟨H, hH⟩ : ∃ H, H = s.heap := ⟨_, rfl⟩
  obtain ⟨locs, hlo⟩ : ∃ z : List Loc, z = [] := ⟨_, rfl⟩
  have hP : va_P D vwCl (List.flatten ([cLocks a0 a1 a2 C a_count a_price a_cuts])) H := by rw [hH]; exact hP
  have hS : va_S A s.heap H locs := by rw [hH, hlo]; exact hS
  rw [show W p l e rmX2_add s m args below meth c s.heap [] 0 0 Q (F0 m 0 ls []) = W p l e rmX2_add s m args below meth c H locs 0 0 Q (F0 m 0 ls []) from by rw [hH, hlo]]
  refine lv_aload_n hx hb dX2_add_0 rfl (lv_at hl 0 rfl) ?_
  refine va_get (D := D) (ci := 2) (v := .int a_count) (C := RX2) (T := TX2) (N := 3) hx hb hw inW_X2 hown hK hP 0 rfl rfl 0 (by decide) (hw _ mw_1_112) (fun _ h9 => h9) rfl dX2_add_1 ?_
  refine lv_iconst (v := 5) hx hb dX2_add_4 (by decide) ?_
  refine lv_icmp_ge (tgt := 69) hx hb dX2_add_5 (by decide) (fun c1 => ?_) (fun c1 => ?_)
  · have h := h.1 c1
    rw [← hQ]
    exact cRetV (a_count, a_price, a_cuts) hx hb hr hlocks hS hP hD h dX2_add_69
  · have h := h.2 c1
    refine lv_aload_n hx hb dX2_add_8 rfl (lv_at hl 0 rfl) ?_
    refine va_get (D := D) (ci := 2) (v := .ref a1) (C := RX2) (T := TX2) (N := 3) hx hb hw inW_X2 hown hK hP 0 rfl rfl 1 (by decide) (hw _ mw_1_116) (fun _ h9 => h9) rfl dX2_add_9 ?_
    refine lv_aload_n hx hb dX2_add_12 rfl (lv_at hl 0 rfl) ?_
    refine va_get (D := D) (ci := 2) (v := .int a_count) (C := RX2) (T := TX2) (N := 3) hx hb hw inW_X2 hown hK hP 0 rfl rfl 0 (by decide) (hw _ mw_1_112) (fun _ h9 => h9) rfl dX2_add_13 ?_
    refine lv_iload_n hx hb dX2_add_16 rfl (lv_at hl 1 rfl) ?_
    refine cIast hx hb hK hP hD hS 1 0 rfl rfl a_count.toNatClampNeg rfl h.1 dX2_add_17 (fun H locs hP hD hS => ?_)
    have h := h.2
    refine lv_aload_n hx hb dX2_add_18 rfl (lv_at hl 0 rfl) ?_
    refine va_get (D := D) (ci := 2) (v := .ref a2) (C := RX2) (T := TX2) (N := 3) hx hb hw inW_X2 hown hK hP 0 rfl rfl 2 (by decide) (hw _ mw_1_118) (fun _ h9 => h9) rfl dX2_add_19 ?_
    refine lv_iconst (v := 3) hx hb dX2_add_22 (by decide) ?_
    refine lv_aload_n hx hb dX2_add_23 rfl (lv_at hl 0 rfl) ?_
    refine va_get (D := D) (ci := 2) (v := .int a_count) (C := RX2) (T := TX2) (N := 3) hx hb hw inW_X2 hown hK hP 0 rfl rfl 0 (by decide) (hw _ mw_1_112) (fun _ h9 => h9) rfl dX2_add_24 ?_
    refine lv_imul hx hb dX2_add_27 ?_
    refine lv_iload_n hx hb dX2_add_28 rfl (lv_at hl 2 rfl) ?_
    refine cIast hx hb hK hP hD hS 2 0 rfl rfl ((3 * a_count).toNatClampNeg) rfl h.1 dX2_add_29 (fun H locs hP hD hS => ?_)
    have h := h.2
    refine lv_aload_n hx hb dX2_add_30 rfl (lv_at hl 0 rfl) ?_
    refine va_get (D := D) (ci := 2) (v := .ref a2) (C := RX2) (T := TX2) (N := 3) hx hb hw inW_X2 hown hK hP 0 rfl rfl 2 (by decide) (hw _ mw_1_118) (fun _ h9 => h9) rfl dX2_add_31 ?_
    refine lv_iconst (v := 3) hx hb dX2_add_34 (by decide) ?_
    refine lv_aload_n hx hb dX2_add_35 rfl (lv_at hl 0 rfl) ?_
    refine va_get (D := D) (ci := 2) (v := .int a_count) (C := RX2) (T := TX2) (N := 3) hx hb hw inW_X2 hown hK hP 0 rfl rfl 0 (by decide) (hw _ mw_1_112) (fun _ h9 => h9) rfl dX2_add_36 ?_
    refine lv_imul hx hb dX2_add_39 ?_
    refine lv_iconst (v := 1) hx hb dX2_add_40 (by decide) ?_
    refine lv_iadd hx hb dX2_add_41 ?_
    refine lv_iload_n hx hb dX2_add_42 rfl (lv_at hl 3 rfl) ?_
    refine cIast hx hb hK hP hD hS 2 0 rfl rfl (((3 * a_count) + 1).toNatClampNeg) rfl h.1 dX2_add_43 (fun H locs hP hD hS => ?_)
    have h := h.2
    refine lv_aload_n hx hb dX2_add_44 rfl (lv_at hl 0 rfl) ?_
    refine va_get (D := D) (ci := 2) (v := .ref a2) (C := RX2) (T := TX2) (N := 3) hx hb hw inW_X2 hown hK hP 0 rfl rfl 2 (by decide) (hw _ mw_1_118) (fun _ h9 => h9) rfl dX2_add_45 ?_
    refine lv_iconst (v := 3) hx hb dX2_add_48 (by decide) ?_
    refine lv_aload_n hx hb dX2_add_49 rfl (lv_at hl 0 rfl) ?_
    refine va_get (D := D) (ci := 2) (v := .int a_count) (C := RX2) (T := TX2) (N := 3) hx hb hw inW_X2 hown hK hP 0 rfl rfl 0 (by decide) (hw _ mw_1_112) (fun _ h9 => h9) rfl dX2_add_50 ?_
    refine lv_imul hx hb dX2_add_53 ?_
    refine lv_iconst (v := 2) hx hb dX2_add_54 (by decide) ?_
    refine lv_iadd hx hb dX2_add_55 ?_
    refine lv_iload hx hb dX2_add_56 (lv_at hl 4 rfl) ?_
    refine cIast hx hb hK hP hD hS 2 0 rfl rfl (((3 * a_count) + 2).toNatClampNeg) rfl h.1 dX2_add_58 (fun H locs hP hD hS => ?_)
    have h := h.2
    refine lv_aload_n hx hb dX2_add_59 rfl (lv_at hl 0 rfl) ?_
    refine lv_dup hx hb dX2_add_60 rfl ?_
    refine va_get (D := D) (ci := 2) (v := .int a_count) (C := RX2) (T := TX2) (N := 3) hx hb hw inW_X2 hown hK hP 0 rfl rfl 0 (by decide) (hw _ mw_1_112) (fun _ h9 => h9) rfl dX2_add_61 ?_
    refine lv_iconst (v := 1) hx hb dX2_add_64 (by decide) ?_
    refine lv_iadd hx hb dX2_add_65 ?_
    refine lv_topi (fun x2 ex2 => ?_)
    have h := h x2 ex2
    refine va_put (D := D) (ci := 2) (v := .int x2) (ty := .int) (C := RX2) (T := TX2) (N := 3) hx hb hw inW_X2 tyX2 tyX2_ok nmX2 hown hK hP hD hS 0 rfl rfl 0 (by decide) (hw _ mw_1_112) (fun _ h9 => h9) rfl (by decide +kernel) rfl rfl (Nat.le_of_ble_eq_true rfl) dX2_add_66 (fun H locs hP hD hS => ?_)
    have hP : va_P D vwCl (List.flatten ([cLocks a0 a1 a2 C x2 (upd a_price a_count.toNatClampNeg p1) (upd (upd (upd a_cuts ((3 * a_count).toNatClampNeg) p2) (((3 * a_count) + 1).toNatClampNeg) p3) (((3 * a_count) + 2).toNatClampNeg) p4)])) H := hP
    have hD : va_D A (List.flatten ([cLocks a0 a1 a2 C x2 (upd a_price a_count.toNatClampNeg p1) (upd (upd (upd a_cuts ((3 * a_count).toNatClampNeg) p2) (((3 * a_count) + 1).toNatClampNeg) p3) (((3 * a_count) + 2).toNatClampNeg) p4)])) := hD
    rw [← hQ]
    exact cRetV (x2, (upd a_price a_count.toNatClampNeg p1), (upd (upd (upd a_cuts ((3 * a_count).toNatClampNeg) p2) (((3 * a_count) + 1).toNatClampNeg) p3) (((3 * a_count) + 2).toNatClampNeg) p4)) hx hb hr hlocks hS hP hD h dX2_add_69
abbrev vsX0_standingAt : List Cond := Cond.code yX0_standingAt cX0_standingAt 3 (some .int) :: WS
abbrev rmX0_standingAt : Room := { frames := 0, cells := 0, slots := 0, locals := 0 }
set_option maxHeartbeats 4000000 in
set_option maxRecDepth 100000 in
theorem k_X0_standingAt (l : Launch) (D : va_G) (C : Nat → ClassId) (sz : Nat) (a0 : Nat) (a1 : Nat) (a2 : Nat) (a3 : Nat) (a4 : Nat) (a5 : Nat)  (a_count : Int32) (a_worth : Nat → Int32) (a_seems : Nat → Int32) (a_place : Nat → Int32) (a_lock : Nat → Int32) (a_marked : Nat → Int32) (p1 : Int32) {post : Int32 → Prop} (h : P_X0_standingAt a_count a_place p1 post) : Met l yX0_standingAt vsX0_standingAt rmX0_standingAt (cPre D C [.ref a0, .int p1] sz ([cBikes a0 a1 a2 a3 a4 a5 C a_count a_worth a_seems a_place a_lock a_marked])) (cQi D (fun (r : Int32) (u : Unit) => post r ) (fun u => [cBikes a0 a1 a2 a3 a4 a5 C a_count a_worth a_seems a_place a_lock a_marked]) (va_A (List.flatten ([cBikes a0 a1 a2 a3 a4 a5 C a_count a_worth a_seems a_place a_lock a_marked])) sz)) 0 0 (va_A (List.flatten ([cBikes a0 a1 a2 a3 a4 a5 C a_count a_worth a_seems a_place a_lock a_marked])) sz) := by
  refine cStart (QA := fun A => cQi D (fun (r : Int32) (u : Unit) => post r ) (fun u => [cBikes a0 a1 a2 a3 a4 a5 C a_count a_worth a_seems a_place a_lock a_marked]) A) (cc := cX0_standingAt) (maxL := 3) (ret := (some .int)) (by decide) (Nat.le_of_ble_eq_true rfl) ?_
  intro p e s m args below meth c A ls hx hb hr hml hown hw hlocks hname hK hN hA hP hD hS hl
  generalize hQ : MQ below _ args s 0 0 A = Q
  have hl : lv_has ls 3 [(0, .ref a0), (1, .int p1)] := hl
  obtain ⟨H, hH⟩ : ∃ H, H = s.heap := ⟨_, rfl⟩
  obtain ⟨locs, hlo⟩ : ∃ z : List Loc, z = [] := ⟨_, rfl⟩
  have hP : va_P D vwCl (List.flatten ([cBikes a0 a1 a2 a3 a4 a5 C a_count a_worth a_seems a_place a_lock a_marked])) H := by rw [hH]; exact hP
  have hS : va_S A s.heap H locs := by rw [hH, hlo]; exact hS
  rw [show W p l e rmX0_standingAt s m args below meth c s.heap [] 0 0 Q (F0 m 0 ls []) = W p l e rmX0_standingAt s m args below meth c H locs 0 0 Q (F0 m 0 ls []) from by rw [hH, hlo]]
  have N2 : ∀  (n2 : Nat) (x2_ : Int32) (H : Heap) (locs : List Loc) (ls : Array Slot), P_X0_standingAt_2 a_count a_place p1 post   n2 x2_ → va_P D vwCl (List.flatten ([cBikes a0 a1 a2 a3 a4 a5 C a_count a_worth a_seems a_place a_lock a_marked])) H → va_D A (List.flatten ([cBikes a0 a1 a2 a3 a4 a5 C a_count a_worth a_seems a_place a_lock a_marked])) → va_S A s.heap H locs → lv_has ls 3 [(0, .ref a0), (1, .int p1), (2, .int x2_)] → W p l e rmX0_standingAt s m args below meth c H locs 0 0 Q (F0 m 2 ls []) := by
    intro n2
    induction n2 with
    | zero => intro x2_ H locs ls h hP hD hS hl; exact False.elim h
    | succ n2 ih2 =>
      intro x2_ H locs ls h hP hD hS hl
      refine lv_iload_n hx hb dX0_standingAt_2 rfl (lv_at hl 2 rfl) ?_
      refine lv_aload_n hx hb dX0_standingAt_3 rfl (lv_at hl 0 rfl) ?_
      refine va_get (D := D) (ci := 0) (v := .int a_count) (C := RX0) (T := TX0) (N := 6) hx hb hw inW_X0 hown hK hP 0 rfl rfl 0 (by decide) (hw _ mw_1_133) (fun _ h9 => h9) rfl dX0_standingAt_4 ?_
      refine lv_icmp_ge (tgt := 28) hx hb dX0_standingAt_7 (by decide) (fun c1 => ?_) (fun c1 => ?_)
      · have h := h.1 c1
        refine lv_iconst (v := (-1)) hx hb dX0_standingAt_28 (by decide) ?_
        rw [← hQ]
        exact cRetI (v := (-1)) () hx hb hr hlocks hS hP hD h dX0_standingAt_29
      · have h := h.2 c1
        refine lv_aload_n hx hb dX0_standingAt_10 rfl (lv_at hl 0 rfl) ?_
        refine va_get (D := D) (ci := 0) (v := .ref a3) (C := RX0) (T := TX0) (N := 6) hx hb hw inW_X0 hown hK hP 0 rfl rfl 3 (by decide) (hw _ mw_1_145) (fun _ h9 => h9) rfl dX0_standingAt_11 ?_
        refine lv_iload_n hx hb dX0_standingAt_14 rfl (lv_at hl 2 rfl) ?_
        refine cIald hx hb hK hP 3 0 rfl rfl x2_.toNatClampNeg rfl h.1 dX0_standingAt_15 ?_
        have h := h.2
        refine lv_iload_n hx hb dX0_standingAt_16 rfl (lv_at hl 1 rfl) ?_
        refine lv_icmp_ne (tgt := 22) hx hb dX0_standingAt_17 (by decide) (fun c2 => ?_) (fun c2 => ?_)
        · have h := h.1 c2
          refine lv_iinc (v := (x2_ + 1)) (lv' := [(2, .int (x2_ + 1)), (0, .ref a0), (1, .int p1)]) hx hb dX0_standingAt_22 hl (k := 2) rfl rfl (by decide) rfl (fun ls hl => ?_)
          refine lv_goto (tgt := 2) hx hb dX0_standingAt_25 (by decide) ?_
          exact ih2 (x2_ + 1) _ _ _ h hP hD hS (lv_sub hl [1, 2, 0] rfl)
        · have h := h.2 c2
          refine lv_iload_n hx hb dX0_standingAt_20 rfl (lv_at hl 2 rfl) ?_
          rw [← hQ]
          exact cRetI (v := x2_) () hx hb hr hlocks hS hP hD h dX0_standingAt_21
  refine lv_iconst (v := 0) hx hb dX0_standingAt_0 (by decide) ?_
  refine lv_istore_n (lv' := [(2, .int 0), (0, .ref a0), (1, .int p1)]) hx hb dX0_standingAt_1 rfl hl (by decide) rfl (fun ls hl => ?_)
  obtain ⟨n, h⟩ := h
  exact N2  n 0 _ _ _ h hP hD hS (lv_sub hl [1, 2, 0] rfl)
abbrev vsX0_add : List Cond := Cond.code yX0_add cX0_add 6 none :: WS
abbrev rmX0_add : Room := { frames := 0, cells := 0, slots := 0, locals := 0 }
set_option maxHeartbeats 4000000 in
set_option maxRecDepth 100000 in
theorem k_X0_add (l : Launch) (D : va_G) (C : Nat → ClassId) (sz : Nat) (a0 : Nat) (a1 : Nat) (a2 : Nat) (a3 : Nat) (a4 : Nat) (a5 : Nat)  (a_count : Int32) (a_worth : Nat → Int32) (a_seems : Nat → Int32) (a_place : Nat → Int32) (a_lock : Nat → Int32) (a_marked : Nat → Int32) (p1 : Int32) (p2 : Int32) (p3 : Int32) (p4 : Int32) (p5 : Int32) {post : (Int32) → (Nat → Int32) → (Nat → Int32) → (Nat → Int32) → (Nat → Int32) → (Nat → Int32) → Prop} (h : P_X0_add a_count a_worth a_seems a_place a_lock a_marked p1 p2 p3 p4 p5 post) : Met l yX0_add vsX0_add rmX0_add (cPre D C [.ref a0, .int p1, .int p2, .int p3, .int p4, .int p5] sz ([cBikes a0 a1 a2 a3 a4 a5 C a_count a_worth a_seems a_place a_lock a_marked])) (cQv D (fun (u : (Int32) × (Nat → Int32) × (Nat → Int32) × (Nat → Int32) × (Nat → Int32) × (Nat → Int32)) => post u.1 u.2.1 u.2.2.1 u.2.2.2.1 u.2.2.2.2.1 u.2.2.2.2.2) (fun u => [cBikes a0 a1 a2 a3 a4 a5 C u.1 u.2.1 u.2.2.1 u.2.2.2.1 u.2.2.2.2.1 u.2.2.2.2.2]) (va_A (List.flatten ([cBikes a0 a1 a2 a3 a4 a5 C a_count a_worth a_seems a_place a_lock a_marked])) sz)) 0 0 (va_A (List.flatten ([cBikes a0 a1 a2 a3 a4 a5 C a_count a_worth a_seems a_place a_lock a_marked])) sz) := by
  refine cStart (QA := fun A => cQv D (fun (u : (Int32) × (Nat → Int32) × (Nat → Int32) × (Nat → Int32) × (Nat → Int32) × (Nat → Int32)) => post u.1 u.2.1 u.2.2.1 u.2.2.2.1 u.2.2.2.2.1 u.2.2.2.2.2) (fun u => [cBikes a0 a1 a2 a3 a4 a5 C u.1 u.2.1 u.2.2.1 u.2.2.2.1 u.2.2.2.2.1 u.2.2.2.2.2]) A) (cc := cX0_add) (maxL := 6) (ret := none) (by decide) (Nat.le_of_ble_eq_true rfl) ?_
  intro p e s m args below meth c A ls hx hb hr hml hown hw hlocks hname hK hN hA hP hD hS hl
  generalize hQ : MQ below _ args s 0 0 A = Q
  have hl : lv_has ls 6 [(0, .ref a0), (1, .int p1), (2, .int p2), (3, .int p3), (4, .int p4), (5, .int p5)] := hl
  obtain ⟨H, hH⟩ : ∃ H, H = s.heap := ⟨_, rfl⟩
  obtain ⟨locs, hlo⟩ : ∃ z : List Loc, z = [] := ⟨_, rfl⟩
  have hP : va_P D vwCl (List.flatten ([cBikes a0 a1 a2 a3 a4 a5 C a_count a_worth a_seems a_place a_lock a_marked])) H := by rw [hH]; exact hP
  have hS : va_S A s.heap H locs := by rw [hH, hlo]; exact hS
  rw [show W p l e rmX0_add s m args below meth c s.heap [] 0 0 Q (F0 m 0 ls []) = W p l e rmX0_add s m args below meth c H locs 0 0 Q (F0 m 0 ls []) from by rw [hH, hlo]]
  refine lv_aload_n hx hb dX0_add_0 rfl (lv_at hl 0 rfl) ?_
  refine va_get (D := D) (ci := 0) (v := .int a_count) (C := RX0) (T := TX0) (N := 6) hx hb hw inW_X0 hown hK hP 0 rfl rfl 0 (by decide) (hw _ mw_1_133) (fun _ h9 => h9) rfl dX0_add_1 ?_
  refine lv_bipush (v := 10) hx hb dX0_add_4 (by decide) ?_
  refine lv_icmp_ge (tgt := 71) hx hb dX0_add_6 (by decide) (fun c1 => ?_) (fun c1 => ?_)
  · have h := h.1 c1
    rw [← hQ]
    exact cRetV (a_count, a_worth, a_seems, a_place, a_lock, a_marked) hx hb hr hlocks hS hP hD h dX0_add_71
  · have h := h.2 c1
    refine lv_aload_n hx hb dX0_add_9 rfl (lv_at hl 0 rfl) ?_
    refine va_get (D := D) (ci := 0) (v := .ref a1) (C := RX0) (T := TX0) (N := 6) hx hb hw inW_X0 hown hK hP 0 rfl rfl 1 (by decide) (hw _ mw_1_138) (fun _ h9 => h9) rfl dX0_add_10 ?_
    refine lv_aload_n hx hb dX0_add_13 rfl (lv_at hl 0 rfl) ?_
    refine va_get (D := D) (ci := 0) (v := .int a_count) (C := RX0) (T := TX0) (N := 6) hx hb hw inW_X0 hown hK hP 0 rfl rfl 0 (by decide) (hw _ mw_1_133) (fun _ h9 => h9) rfl dX0_add_14 ?_
    refine lv_iload_n hx hb dX0_add_17 rfl (lv_at hl 1 rfl) ?_
    refine cIast hx hb hK hP hD hS 1 0 rfl rfl a_count.toNatClampNeg rfl h.1 dX0_add_18 (fun H locs hP hD hS => ?_)
    have h := h.2
    refine lv_aload_n hx hb dX0_add_19 rfl (lv_at hl 0 rfl) ?_
    refine va_get (D := D) (ci := 0) (v := .ref a2) (C := RX0) (T := TX0) (N := 6) hx hb hw inW_X0 hown hK hP 0 rfl rfl 2 (by decide) (hw _ mw_1_142) (fun _ h9 => h9) rfl dX0_add_20 ?_
    refine lv_aload_n hx hb dX0_add_23 rfl (lv_at hl 0 rfl) ?_
    refine va_get (D := D) (ci := 0) (v := .int a_count) (C := RX0) (T := TX0) (N := 6) hx hb hw inW_X0 hown hK hP 0 rfl rfl 0 (by decide) (hw _ mw_1_133) (fun _ h9 => h9) rfl dX0_add_24 ?_
    refine lv_iload_n hx hb dX0_add_27 rfl (lv_at hl 2 rfl) ?_
    refine cIast hx hb hK hP hD hS 2 0 rfl rfl a_count.toNatClampNeg rfl h.1 dX0_add_28 (fun H locs hP hD hS => ?_)
    have h := h.2
    refine lv_aload_n hx hb dX0_add_29 rfl (lv_at hl 0 rfl) ?_
    refine va_get (D := D) (ci := 0) (v := .ref a3) (C := RX0) (T := TX0) (N := 6) hx hb hw inW_X0 hown hK hP 0 rfl rfl 3 (by decide) (hw _ mw_1_145) (fun _ h9 => h9) rfl dX0_add_30 ?_
    refine lv_aload_n hx hb dX0_add_33 rfl (lv_at hl 0 rfl) ?_
    refine va_get (D := D) (ci := 0) (v := .int a_count) (C := RX0) (T := TX0) (N := 6) hx hb hw inW_X0 hown hK hP 0 rfl rfl 0 (by decide) (hw _ mw_1_133) (fun _ h9 => h9) rfl dX0_add_34 ?_
    refine lv_iload_n hx hb dX0_add_37 rfl (lv_at hl 3 rfl) ?_
    refine cIast hx hb hK hP hD hS 3 0 rfl rfl a_count.toNatClampNeg rfl h.1 dX0_add_38 (fun H locs hP hD hS => ?_)
    have h := h.2
    refine lv_aload_n hx hb dX0_add_39 rfl (lv_at hl 0 rfl) ?_
    refine va_get (D := D) (ci := 0) (v := .ref a4) (C := RX0) (T := TX0) (N := 6) hx hb hw inW_X0 hown hK hP 0 rfl rfl 4 (by decide) (hw _ mw_1_148) (fun _ h9 => h9) rfl dX0_add_40 ?_
    refine lv_aload_n hx hb dX0_add_43 rfl (lv_at hl 0 rfl) ?_
    refine va_get (D := D) (ci := 0) (v := .int a_count) (C := RX0) (T := TX0) (N := 6) hx hb hw inW_X0 hown hK hP 0 rfl rfl 0 (by decide) (hw _ mw_1_133) (fun _ h9 => h9) rfl dX0_add_44 ?_
    refine lv_iload hx hb dX0_add_47 (lv_at hl 4 rfl) ?_
    refine cIast hx hb hK hP hD hS 4 0 rfl rfl a_count.toNatClampNeg rfl h.1 dX0_add_49 (fun H locs hP hD hS => ?_)
    have h := h.2
    refine lv_aload_n hx hb dX0_add_50 rfl (lv_at hl 0 rfl) ?_
    refine va_get (D := D) (ci := 0) (v := .ref a5) (C := RX0) (T := TX0) (N := 6) hx hb hw inW_X0 hown hK hP 0 rfl rfl 5 (by decide) (hw _ mw_1_151) (fun _ h9 => h9) rfl dX0_add_51 ?_
    refine lv_aload_n hx hb dX0_add_54 rfl (lv_at hl 0 rfl) ?_
    refine va_get (D := D) (ci := 0) (v := .int a_count) (C := RX0) (T := TX0) (N := 6) hx hb hw inW_X0 hown hK hP 0 rfl rfl 0 (by decide) (hw _ mw_1_133) (fun _ h9 => h9) rfl dX0_add_55 ?_
    refine lv_iload hx hb dX0_add_58 (lv_at hl 5 rfl) ?_
    refine cZast hx hb hK hP hD hS 5 3 rfl rfl a_count.toNatClampNeg rfl h.1 h.2.1 dX0_add_60 (fun H locs hP hD hS => ?_)
    have h := h.2
    have h := h.2
    refine lv_aload_n hx hb dX0_add_61 rfl (lv_at hl 0 rfl) ?_
    refine lv_dup hx hb dX0_add_62 rfl ?_
    refine va_get (D := D) (ci := 0) (v := .int a_count) (C := RX0) (T := TX0) (N := 6) hx hb hw inW_X0 hown hK hP 0 rfl rfl 0 (by decide) (hw _ mw_1_133) (fun _ h9 => h9) rfl dX0_add_63 ?_
    refine lv_iconst (v := 1) hx hb dX0_add_66 (by decide) ?_
    refine lv_iadd hx hb dX0_add_67 ?_
    refine lv_topi (fun x2 ex2 => ?_)
    have h := h x2 ex2
    refine va_put (D := D) (ci := 0) (v := .int x2) (ty := .int) (C := RX0) (T := TX0) (N := 6) hx hb hw inW_X0 tyX0 tyX0_ok nmX0 hown hK hP hD hS 0 rfl rfl 0 (by decide) (hw _ mw_1_133) (fun _ h9 => h9) rfl (by decide +kernel) rfl rfl (Nat.le_of_ble_eq_true rfl) dX0_add_68 (fun H locs hP hD hS => ?_)
    have hP : va_P D vwCl (List.flatten ([cBikes a0 a1 a2 a3 a4 a5 C x2 (upd a_worth a_count.toNatClampNeg p1) (upd a_seems a_count.toNatClampNeg p2) (upd a_place a_count.toNatClampNeg p3) (upd a_lock a_count.toNatClampNeg p4) (upd a_marked a_count.toNatClampNeg p5)])) H := hP
    have hD : va_D A (List.flatten ([cBikes a0 a1 a2 a3 a4 a5 C x2 (upd a_worth a_count.toNatClampNeg p1) (upd a_seems a_count.toNatClampNeg p2) (upd a_place a_count.toNatClampNeg p3) (upd a_lock a_count.toNatClampNeg p4) (upd a_marked a_count.toNatClampNeg p5)])) := hD
    rw [← hQ]
    exact cRetV (x2, (upd a_worth a_count.toNatClampNeg p1), (upd a_seems a_count.toNatClampNeg p2), (upd a_place a_count.toNatClampNeg p3), (upd a_lock a_count.toNatClampNeg p4), (upd a_marked a_count.toNatClampNeg p5)) hx hb hr hlocks hS hP hD h dX0_add_71
abbrev vsX9_add : List Cond := Cond.code yX9_add cX9_add 6 none :: WS
abbrev rmX9_add : Room := { frames := 0, cells := 0, slots := 0, locals := 0 }
set_option maxHeartbeats 4000000 in
set_option maxRecDepth 100000 in
theorem k_X9_add (l : Launch) (D : va_G) (C : Nat → ClassId) (sz : Nat) (a0 : Nat) (a1 : Nat) (a2 : Nat) (a3 : Nat) (a4 : Nat) (a5 : Nat)  (a_count : Int32) (a_tool : Nat → Int32) (a_comes : Nat → Int32) (a_fears : Nat → Int32) (a_kind : Nat → Int32) (a_just : Nat → Int32) (p1 : Int32) (p2 : Int32) (p3 : Int32) (p4 : Int32) (p5 : Int32) {post : (Int32) → (Nat → Int32) → (Nat → Int32) → (Nat → Int32) → (Nat → Int32) → (Nat → Int32) → Prop} (h : P_X9_add a_count a_tool a_comes a_fears a_kind a_just p1 p2 p3 p4 p5 post) : Met l yX9_add vsX9_add rmX9_add (cPre D C [.ref a0, .int p1, .int p2, .int p3, .int p4, .int p5] sz ([cThieves a0 a1 a2 a3 a4 a5 C a_count a_tool a_comes a_fears a_kind a_just])) (cQv D (fun (u : (Int32) × (Nat → Int32) × (Nat → Int32) × (Nat → Int32) × (Nat → Int32) × (Nat → Int32)) => post u.1 u.2.1 u.2.2.1 u.2.2.2.1 u.2.2.2.2.1 u.2.2.2.2.2) (fun u => [cThieves a0 a1 a2 a3 a4 a5 C u.1 u.2.1 u.2.2.1 u.2.2.2.1 u.2.2.2.2.1 u.2.2.2.2.2]) (va_A (List.flatten ([cThieves a0 a1 a2 a3 a4 a5 C a_count a_tool a_comes a_fears a_kind a_just])) sz)) 0 0 (va_A (List.flatten ([cThieves a0 a1 a2 a3 a4 a5 C a_count a_tool a_comes a_fears a_kind a_just])) sz) := by
  refine cStart (QA := fun A => cQv D (fun (u : (Int32) × (Nat → Int32) × (Nat → Int32) × (Nat → Int32) × (Nat → Int32) × (Nat → Int32)) => post u.1 u.2.1 u.2.2.1 u.2.2.2.1 u.2.2.2.2.1 u.2.2.2.2.2) (fun u => [cThieves a0 a1 a2 a3 a4 a5 C u.1 u.2.1 u.2.2.1 u.2.2.2.1 u.2.2.2.2.1 u.2.2.2.2.2]) A) (cc := cX9_add) (maxL := 6) (ret := none) (by decide) (Nat.le_of_ble_eq_true rfl) ?_
  intro p e s m args below meth c A ls hx hb hr hml hown hw hlocks hname hK hN hA hP hD hS hl
  generalize hQ : MQ below _ args s 0 0 A = Q
  have hl : lv_has ls 6 [(0, .ref a0), (1, .int p1), (2, .int p2), (3, .int p3), (4, .int p4), (5, .int p5)] := hl
  obtain ⟨H, hH⟩ : ∃ H, H = s.heap := ⟨_, rfl⟩
  obtain ⟨locs, hlo⟩ : ∃ z : List Loc, z = [] := ⟨_, rfl⟩
  have hP : va_P D vwCl (List.flatten ([cThieves a0 a1 a2 a3 a4 a5 C a_count a_tool a_comes a_fears a_kind a_just])) H := by rw [hH]; exact hP
  have hS : va_S A s.heap H locs := by rw [hH, hlo]; exact hS
  rw [show W p l e rmX9_add s m args below meth c s.heap [] 0 0 Q (F0 m 0 ls []) = W p l e rmX9_add s m args below meth c H locs 0 0 Q (F0 m 0 ls []) from by rw [hH, hlo]]
  refine lv_aload_n hx hb dX9_add_0 rfl (lv_at hl 0 rfl) ?_
  refine va_get (D := D) (ci := 9) (v := .int a_count) (C := RX9) (T := TX9) (N := 6) hx hb hw inW_X9 hown hK hP 0 rfl rfl 0 (by decide) (hw _ mw_1_174) (fun _ h9 => h9) rfl dX9_add_1 ?_
  refine lv_bipush (v := 6) hx hb dX9_add_4 (by decide) ?_
  refine lv_icmp_ge (tgt := 71) hx hb dX9_add_6 (by decide) (fun c1 => ?_) (fun c1 => ?_)
  · have h := h.1 c1
    rw [← hQ]
    exact cRetV (a_count, a_tool, a_comes, a_fears, a_kind, a_just) hx hb hr hlocks hS hP hD h dX9_add_71
  · have h := h.2 c1
    refine lv_aload_n hx hb dX9_add_9 rfl (lv_at hl 0 rfl) ?_
    refine va_get (D := D) (ci := 9) (v := .ref a1) (C := RX9) (T := TX9) (N := 6) hx hb hw inW_X9 hown hK hP 0 rfl rfl 1 (by decide) (hw _ mw_1_179) (fun _ h9 => h9) rfl dX9_add_10 ?_
    refine lv_aload_n hx hb dX9_add_13 rfl (lv_at hl 0 rfl) ?_
    refine va_get (D := D) (ci := 9) (v := .int a_count) (C := RX9) (T := TX9) (N := 6) hx hb hw inW_X9 hown hK hP 0 rfl rfl 0 (by decide) (hw _ mw_1_174) (fun _ h9 => h9) rfl dX9_add_14 ?_
    refine lv_iload_n hx hb dX9_add_17 rfl (lv_at hl 1 rfl) ?_
    refine cIast hx hb hK hP hD hS 1 0 rfl rfl a_count.toNatClampNeg rfl h.1 dX9_add_18 (fun H locs hP hD hS => ?_)
    have h := h.2
    refine lv_aload_n hx hb dX9_add_19 rfl (lv_at hl 0 rfl) ?_
    refine va_get (D := D) (ci := 9) (v := .ref a2) (C := RX9) (T := TX9) (N := 6) hx hb hw inW_X9 hown hK hP 0 rfl rfl 2 (by decide) (hw _ mw_1_181) (fun _ h9 => h9) rfl dX9_add_20 ?_
    refine lv_aload_n hx hb dX9_add_23 rfl (lv_at hl 0 rfl) ?_
    refine va_get (D := D) (ci := 9) (v := .int a_count) (C := RX9) (T := TX9) (N := 6) hx hb hw inW_X9 hown hK hP 0 rfl rfl 0 (by decide) (hw _ mw_1_174) (fun _ h9 => h9) rfl dX9_add_24 ?_
    refine lv_iload_n hx hb dX9_add_27 rfl (lv_at hl 2 rfl) ?_
    refine cIast hx hb hK hP hD hS 2 0 rfl rfl a_count.toNatClampNeg rfl h.1 dX9_add_28 (fun H locs hP hD hS => ?_)
    have h := h.2
    refine lv_aload_n hx hb dX9_add_29 rfl (lv_at hl 0 rfl) ?_
    refine va_get (D := D) (ci := 9) (v := .ref a3) (C := RX9) (T := TX9) (N := 6) hx hb hw inW_X9 hown hK hP 0 rfl rfl 3 (by decide) (hw _ mw_1_183) (fun _ h9 => h9) rfl dX9_add_30 ?_
    refine lv_aload_n hx hb dX9_add_33 rfl (lv_at hl 0 rfl) ?_
    refine va_get (D := D) (ci := 9) (v := .int a_count) (C := RX9) (T := TX9) (N := 6) hx hb hw inW_X9 hown hK hP 0 rfl rfl 0 (by decide) (hw _ mw_1_174) (fun _ h9 => h9) rfl dX9_add_34 ?_
    refine lv_iload_n hx hb dX9_add_37 rfl (lv_at hl 3 rfl) ?_
    refine cIast hx hb hK hP hD hS 3 0 rfl rfl a_count.toNatClampNeg rfl h.1 dX9_add_38 (fun H locs hP hD hS => ?_)
    have h := h.2
    refine lv_aload_n hx hb dX9_add_39 rfl (lv_at hl 0 rfl) ?_
    refine va_get (D := D) (ci := 9) (v := .ref a4) (C := RX9) (T := TX9) (N := 6) hx hb hw inW_X9 hown hK hP 0 rfl rfl 4 (by decide) (hw _ mw_1_185) (fun _ h9 => h9) rfl dX9_add_40 ?_
    refine lv_aload_n hx hb dX9_add_43 rfl (lv_at hl 0 rfl) ?_
    refine va_get (D := D) (ci := 9) (v := .int a_count) (C := RX9) (T := TX9) (N := 6) hx hb hw inW_X9 hown hK hP 0 rfl rfl 0 (by decide) (hw _ mw_1_174) (fun _ h9 => h9) rfl dX9_add_44 ?_
    refine lv_iload hx hb dX9_add_47 (lv_at hl 4 rfl) ?_
    refine cIast hx hb hK hP hD hS 4 0 rfl rfl a_count.toNatClampNeg rfl h.1 dX9_add_49 (fun H locs hP hD hS => ?_)
    have h := h.2
    refine lv_aload_n hx hb dX9_add_50 rfl (lv_at hl 0 rfl) ?_
    refine va_get (D := D) (ci := 9) (v := .ref a5) (C := RX9) (T := TX9) (N := 6) hx hb hw inW_X9 hown hK hP 0 rfl rfl 5 (by decide) (hw _ mw_1_187) (fun _ h9 => h9) rfl dX9_add_51 ?_
    refine lv_aload_n hx hb dX9_add_54 rfl (lv_at hl 0 rfl) ?_
    refine va_get (D := D) (ci := 9) (v := .int a_count) (C := RX9) (T := TX9) (N := 6) hx hb hw inW_X9 hown hK hP 0 rfl rfl 0 (by decide) (hw _ mw_1_174) (fun _ h9 => h9) rfl dX9_add_55 ?_
    refine lv_iload hx hb dX9_add_58 (lv_at hl 5 rfl) ?_
    refine cIast hx hb hK hP hD hS 5 0 rfl rfl a_count.toNatClampNeg rfl h.1 dX9_add_60 (fun H locs hP hD hS => ?_)
    have h := h.2
    refine lv_aload_n hx hb dX9_add_61 rfl (lv_at hl 0 rfl) ?_
    refine lv_dup hx hb dX9_add_62 rfl ?_
    refine va_get (D := D) (ci := 9) (v := .int a_count) (C := RX9) (T := TX9) (N := 6) hx hb hw inW_X9 hown hK hP 0 rfl rfl 0 (by decide) (hw _ mw_1_174) (fun _ h9 => h9) rfl dX9_add_63 ?_
    refine lv_iconst (v := 1) hx hb dX9_add_66 (by decide) ?_
    refine lv_iadd hx hb dX9_add_67 ?_
    refine lv_topi (fun x2 ex2 => ?_)
    have h := h x2 ex2
    refine va_put (D := D) (ci := 9) (v := .int x2) (ty := .int) (C := RX9) (T := TX9) (N := 6) hx hb hw inW_X9 tyX9 tyX9_ok nmX9 hown hK hP hD hS 0 rfl rfl 0 (by decide) (hw _ mw_1_174) (fun _ h9 => h9) rfl (by decide +kernel) rfl rfl (Nat.le_of_ble_eq_true rfl) dX9_add_68 (fun H locs hP hD hS => ?_)
    have hP : va_P D vwCl (List.flatten ([cThieves a0 a1 a2 a3 a4 a5 C x2 (upd a_tool a_count.toNatClampNeg p1) (upd a_comes a_count.toNatClampNeg p2) (upd a_fears a_count.toNatClampNeg p3) (upd a_kind a_count.toNatClampNeg p4) (upd a_just a_count.toNatClampNeg p5)])) H := hP
    have hD : va_D A (List.flatten ([cThieves a0 a1 a2 a3 a4 a5 C x2 (upd a_tool a_count.toNatClampNeg p1) (upd a_comes a_count.toNatClampNeg p2) (upd a_fears a_count.toNatClampNeg p3) (upd a_kind a_count.toNatClampNeg p4) (upd a_just a_count.toNatClampNeg p5)])) := hD
    rw [← hQ]
    exact cRetV (x2, (upd a_tool a_count.toNatClampNeg p1), (upd a_comes a_count.toNatClampNeg p2), (upd a_fears a_count.toNatClampNeg p3), (upd a_kind a_count.toNatClampNeg p4), (upd a_just a_count.toNatClampNeg p5)) hx hb hr hlocks hS hP hD h dX9_add_71
abbrev vsX1_copyFrom : List Cond := Cond.code yX1_copyFrom cX1_copyFrom 2 none :: WS
abbrev rmX1_copyFrom : Room := { frames := 1, cells := 0, slots := 0, locals := 40 }
set_option maxHeartbeats 4000000 in
set_option maxRecDepth 100000 in
theorem k_X1_copyFrom (l : Launch) (D : va_G) (C : Nat → ClassId) (sz : Nat) (a0 : Nat) (a1 : Nat) (a2 : Nat) (e0 : Nat) (e1 : Nat) (e2 : Nat)  (a_count : Int32) (a_place : Nat → Int32) (a_bright : Nat → Int32) (e_count : Int32) (e_place : Nat → Int32) (e_bright : Nat → Int32)  {post : (Int32) → (Nat → Int32) → (Nat → Int32) → Prop} (h : P_X1_copyFrom a_count a_place a_bright e_count e_place e_bright post) : Met l yX1_copyFrom vsX1_copyFrom rmX1_copyFrom (cPre D C [.ref a0, .ref e0] sz ([cLamps a0 a1 a2 C a_count a_place a_bright] ++ ([cLamps e0 e1 e2 C e_count e_place e_bright]))) (cQv D (fun (u : (Int32) × (Nat → Int32) × (Nat → Int32)) => post u.1 u.2.1 u.2.2) (fun u => [cLamps a0 a1 a2 C u.1 u.2.1 u.2.2] ++ ([cLamps e0 e1 e2 C e_count e_place e_bright])) (va_A (List.flatten ([cLamps a0 a1 a2 C a_count a_place a_bright] ++ ([cLamps e0 e1 e2 C e_count e_place e_bright]))) sz)) 0 0 (va_A (List.flatten ([cLamps a0 a1 a2 C a_count a_place a_bright] ++ ([cLamps e0 e1 e2 C e_count e_place e_bright]))) sz) := by
  refine cStart (QA := fun A => cQv D (fun (u : (Int32) × (Nat → Int32) × (Nat → Int32)) => post u.1 u.2.1 u.2.2) (fun u => [cLamps a0 a1 a2 C u.1 u.2.1 u.2.2] ++ ([cLamps e0 e1 e2 C e_count e_place e_bright])) A) (cc := cX1_copyFrom) (maxL := 2) (ret := none) (by decide) (Nat.le_of_ble_eq_true rfl) ?_
  intro p e s m args below meth c A ls hx hb hr hml hown hw hlocks hname hK hN hA hP hD hS hl
  generalize hQ : MQ below _ args s 0 0 A = Q
  have hl : lv_has ls 2 [(0, .ref a0), (1, .ref e0)] := hl
  obtain ⟨H, hH⟩ : ∃ H, H = s.heap := ⟨_, rfl⟩
  obtain ⟨locs, hlo⟩ : ∃ z : List Loc, z = [] := ⟨_, rfl⟩
  have hP : va_P D vwCl (List.flatten ([cLamps a0 a1 a2 C a_count a_place a_bright] ++ ([cLamps e0 e1 e2 C e_count e_place e_bright]))) H := by rw [hH]; exact hP
  have hS : va_S A s.heap H locs := by rw [hH, hlo]; exact hS
  rw [show W p l e rmX1_copyFrom s m args below meth c s.heap [] 0 0 Q (F0 m 0 ls []) = W p l e rmX1_copyFrom s m args below meth c H locs 0 0 Q (F0 m 0 ls []) from by rw [hH, hlo]]
  refine lv_aload_n hx hb dX1_copyFrom_0 rfl (lv_at hl 0 rfl) ?_
  refine lv_aload_n hx hb dX1_copyFrom_1 rfl (lv_at hl 1 rfl) ?_
  refine va_get (D := D) (ci := 1) (v := .int e_count) (C := RX1) (T := TX1) (N := 3) hx hb hw inW_X1 hown hK hP 3 rfl rfl 0 (by decide) (hw _ mw_1_90) (fun _ h9 => h9) rfl dX1_copyFrom_2 ?_
  refine va_put (D := D) (ci := 1) (v := .int e_count) (ty := .int) (C := RX1) (T := TX1) (N := 3) hx hb hw inW_X1 tyX1 tyX1_ok nmX1 hown hK hP hD hS 0 rfl rfl 0 (by decide) (hw _ mw_1_90) (fun _ h9 => h9) rfl (by decide +kernel) rfl rfl (Nat.le_of_ble_eq_true rfl) dX1_copyFrom_5 (fun H locs hP hD hS => ?_)
  refine lv_aload_n hx hb dX1_copyFrom_8 rfl (lv_at hl 1 rfl) ?_
  refine va_get (D := D) (ci := 1) (v := .ref e1) (C := RX1) (T := TX1) (N := 3) hx hb hw inW_X1 hown hK hP 3 rfl rfl 1 (by decide) (hw _ mw_1_94) (fun _ h9 => h9) rfl dX1_copyFrom_9 ?_
  refine lv_iconst (v := 0) hx hb dX1_copyFrom_12 (by decide) ?_
  refine lv_aload_n hx hb dX1_copyFrom_13 rfl (lv_at hl 0 rfl) ?_
  refine va_get (D := D) (ci := 1) (v := .ref a1) (C := RX1) (T := TX1) (N := 3) hx hb hw inW_X1 hown hK hP 0 rfl rfl 1 (by decide) (hw _ mw_1_94) (fun _ h9 => h9) rfl dX1_copyFrom_14 ?_
  refine lv_iconst (v := 0) hx hb dX1_copyFrom_17 (by decide) ?_
  refine lv_aload_n hx hb dX1_copyFrom_18 rfl (lv_at hl 0 rfl) ?_
  refine va_get (D := D) (ci := 1) (v := .ref a1) (C := RX1) (T := TX1) (N := 3) hx hb hw inW_X1 hown hK hP 0 rfl rfl 1 (by decide) (hw _ mw_1_94) (fun _ h9 => h9) rfl dX1_copyFrom_19 ?_
  refine va_alen (v := 5) hx hb hK hP 1 0 rfl rfl rfl dX1_copyFrom_22 ?_
  refine cCopyI hx hb (hml.trans hl.1.symm) hown (hw _ mw_3_131) (hw _ mw_3_133) (hw _ mw_3_132) (hw _ mw_1_19) hK hP hD hS 4 1 0 rfl rfl rfl 0 0 5 (by decide +kernel) (by decide +kernel) (by decide +kernel) (by decide) (by decide) (by decide) (by decide) (by decide) (Nat.le_of_ble_eq_true rfl) (Nat.le_of_ble_eq_true rfl) dX1_copyFrom_23 (fun H locs hP hD hS => ?_)
  refine lv_aload_n hx hb dX1_copyFrom_26 rfl (lv_at hl 1 rfl) ?_
  refine va_get (D := D) (ci := 1) (v := .ref e2) (C := RX1) (T := TX1) (N := 3) hx hb hw inW_X1 hown hK hP 3 rfl rfl 2 (by decide) (hw _ mw_1_96) (fun _ h9 => h9) rfl dX1_copyFrom_27 ?_
  refine lv_iconst (v := 0) hx hb dX1_copyFrom_30 (by decide) ?_
  refine lv_aload_n hx hb dX1_copyFrom_31 rfl (lv_at hl 0 rfl) ?_
  refine va_get (D := D) (ci := 1) (v := .ref a2) (C := RX1) (T := TX1) (N := 3) hx hb hw inW_X1 hown hK hP 0 rfl rfl 2 (by decide) (hw _ mw_1_96) (fun _ h9 => h9) rfl dX1_copyFrom_32 ?_
  refine lv_iconst (v := 0) hx hb dX1_copyFrom_35 (by decide) ?_
  refine lv_aload_n hx hb dX1_copyFrom_36 rfl (lv_at hl 0 rfl) ?_
  refine va_get (D := D) (ci := 1) (v := .ref a2) (C := RX1) (T := TX1) (N := 3) hx hb hw inW_X1 hown hK hP 0 rfl rfl 2 (by decide) (hw _ mw_1_96) (fun _ h9 => h9) rfl dX1_copyFrom_37 ?_
  refine va_alen (v := 5) hx hb hK hP 2 0 rfl rfl rfl dX1_copyFrom_40 ?_
  refine cCopyI hx hb (hml.trans hl.1.symm) hown (hw _ mw_3_131) (hw _ mw_3_133) (hw _ mw_3_132) (hw _ mw_1_19) hK hP hD hS 5 2 0 rfl rfl rfl 0 0 5 (by decide +kernel) (by decide +kernel) (by decide +kernel) (by decide) (by decide) (by decide) (by decide) (by decide) (Nat.le_of_ble_eq_true rfl) (Nat.le_of_ble_eq_true rfl) dX1_copyFrom_41 (fun H locs hP hD hS => ?_)
  have hP : va_P D vwCl (List.flatten ([cLamps a0 a1 a2 C e_count (va_cpy e_place a_place 0 0 5) (va_cpy e_bright a_bright 0 0 5)] ++ ([cLamps e0 e1 e2 C e_count e_place e_bright]))) H := hP
  have hD : va_D A (List.flatten ([cLamps a0 a1 a2 C e_count (va_cpy e_place a_place 0 0 5) (va_cpy e_bright a_bright 0 0 5)] ++ ([cLamps e0 e1 e2 C e_count e_place e_bright]))) := hD
  rw [← hQ]
  exact cRetV (e_count, (va_cpy e_place a_place 0 0 5), (va_cpy e_bright a_bright 0 0 5)) hx hb hr hlocks hS hP hD h dX1_copyFrom_44
