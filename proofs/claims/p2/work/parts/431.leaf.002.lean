abbrev vsX2_copyFrom : List Cond := Cond.code yX2_copyFrom cX2_copyFrom 2 none :: WS
abbrev rmX2_copyFrom : Room := { frames := 1, cells := 0, slots := 0, locals := 40 }
set_option maxHeartbeats 4000000 in
set_option maxRecDepth 100000 in
theorem k_X2_copyFrom (l : Launch) (D : va_G) (C : Nat → ClassId) (sz : Nat) (a0 : Nat) (a1 : Nat) (a2 : Nat) (e0 : Nat) (e1 : Nat) (e2 : Nat)  (a_count : Int32) (a_price : Nat → Int32) (a_cuts : Nat → Int32) (e_count : Int32) (e_price : Nat → Int32) (e_cuts : Nat → Int32)  {post : (Int32) → (Nat → Int32) → (Nat → Int32) → Prop} (h : P_X2_copyFrom a_count a_price a_cuts e_count e_price e_cuts post) : Met l yX2_copyFrom vsX2_copyFrom rmX2_copyFrom (cPre D C [.ref a0, .ref e0] sz ([cLocks a0 a1 a2 C a_count a_price a_cuts] ++ ([cLocks e0 e1 e2 C e_count e_price e_cuts]))) (cQv D (fun (u : (Int32) × (Nat → Int32) × (Nat → Int32)) => post u.1 u.2.1 u.2.2) (fun u => [cLocks a0 a1 a2 C u.1 u.2.1 u.2.2] ++ ([cLocks e0 e1 e2 C e_count e_price e_cuts])) (va_A (List.flatten ([cLocks a0 a1 a2 C a_count a_price a_cuts] ++ ([cLocks e0 e1 e2 C e_count e_price e_cuts]))) sz)) 0 0 (va_A (List.flatten ([cLocks a0 a1 a2 C a_count a_price a_cuts] ++ ([cLocks e0 e1 e2 C e_count e_price e_cuts]))) sz) := by
  refine cStart (QA := fun A => cQv D (fun (u : (Int32) × (Nat → Int32) × (Nat → Int32)) => post u.1 u.2.1 u.2.2) (fun u => [cLocks a0 a1 a2 C u.1 u.2.1 u.2.2] ++ ([cLocks e0 e1 e2 C e_count e_price e_cuts])) A) (cc := cX2_copyFrom) (maxL := 2) (ret := none) (by decide) (Nat.le_of_ble_eq_true rfl) ?_
  intro p e s m args below meth c A ls hx hb hr hml hown hw hlocks hname hK hN hA hP hD hS hl
  generalize hQ : MQ below _ args s 0 0 A = Q
  have hl : lv_has ls 2 [(0, .ref a0), (1, .ref e0)] := hl
  obtain ⟨H, hH⟩ : ∃ H, H = s.heap := ⟨_, rfl⟩
  obtain ⟨locs, hlo⟩ : ∃ z : List Loc, z = [] := ⟨_, rfl⟩
  have hP : va_P D vwCl (List.flatten ([cLocks a0 a1 a2 C a_count a_price a_cuts] ++ ([cLocks e0 e1 e2 C e_count e_price e_cuts]))) H := by rw [hH]; exact hP
  have hS : va_S A s.heap H locs := by rw [hH, hlo]; exact hS
  rw [show W p l e rmX2_copyFrom s m args below meth c s.heap [] 0 0 Q (F0 m 0 ls []) = W p l e rmX2_copyFrom s m args below meth c H locs 0 0 Q (F0 m 0 ls []) from by rw [hH, hlo]]
  refine lv_aload_n hx hb dX2_copyFrom_0 rfl (lv_at hl 0 rfl) ?_
  refine lv_aload_n hx hb dX2_copyFrom_1 rfl (lv_at hl 1 rfl) ?_
  refine va_get (D := D) (ci := 2) (v := .int e_count) (C := RX2) (T := TX2) (N := 3) hx hb hw inW_X2 hown hK hP 3 rfl rfl 0 (by decide) (hw _ mw_1_112) (fun _ h9 => h9) rfl dX2_copyFrom_2 ?_
  refine va_put (D := D) (ci := 2) (v := .int e_count) (ty := .int) (C := RX2) (T := TX2) (N := 3) hx hb hw inW_X2 tyX2 tyX2_ok nmX2 hown hK hP hD hS 0 rfl rfl 0 (by decide) (hw _ mw_1_112) (fun _ h9 => h9) rfl (by decide +kernel) rfl rfl (Nat.le_of_ble_eq_true rfl) dX2_copyFrom_5 (fun H locs hP hD hS => ?_)
  refine lv_aload_n hx hb dX2_copyFrom_8 rfl (lv_at hl 1 rfl) ?_
  refine va_get (D := D) (ci := 2) (v := .ref e1) (C := RX2) (T := TX2) (N := 3) hx hb hw inW_X2 hown hK hP 3 rfl rfl 1 (by decide) (hw _ mw_1_116) (fun _ h9 => h9) rfl dX2_copyFrom_9 ?_
  refine lv_iconst (v := 0) hx hb dX2_copyFrom_12 (by decide) ?_
  refine lv_aload_n hx hb dX2_copyFrom_13 rfl (lv_at hl 0 rfl) ?_
  refine va_get (D := D) (ci := 2) (v := .ref a1) (C := RX2) (T := TX2) (N := 3) hx hb hw inW_X2 hown hK hP 0 rfl rfl 1 (by decide) (hw _ mw_1_116) (fun _ h9 => h9) rfl dX2_copyFrom_14 ?_
  refine lv_iconst (v := 0) hx hb dX2_copyFrom_17 (by decide) ?_
  refine lv_aload_n hx hb dX2_copyFrom_18 rfl (lv_at hl 0 rfl) ?_
  refine va_get (D := D) (ci := 2) (v := .ref a1) (C := RX2) (T := TX2) (N := 3) hx hb hw inW_X2 hown hK hP 0 rfl rfl 1 (by decide) (hw _ mw_1_116) (fun _ h9 => h9) rfl dX2_copyFrom_19 ?_
  refine va_alen (v := 5) hx hb hK hP 1 0 rfl rfl rfl dX2_copyFrom_22 ?_
  refine cCopyI hx hb (hml.trans hl.1.symm) hown (hw _ mw_3_138) (hw _ mw_3_133) (hw _ mw_3_132) (hw _ mw_1_19) hK hP hD hS 4 1 0 rfl rfl rfl 0 0 5 (by decide +kernel) (by decide +kernel) (by decide +kernel) (by decide) (by decide) (by decide) (by decide) (by decide) (Nat.le_of_ble_eq_true rfl) (Nat.le_of_ble_eq_true rfl) dX2_copyFrom_23 (fun H locs hP hD hS => ?_)
  refine lv_aload_n hx hb dX2_copyFrom_26 rfl (lv_at hl 1 rfl) ?_
  refine va_get (D := D) (ci := 2) (v := .ref e2) (C := RX2) (T := TX2) (N := 3) hx hb hw inW_X2 hown hK hP 3 rfl rfl 2 (by decide) (hw _ mw_1_118) (fun _ h9 => h9) rfl dX2_copyFrom_27 ?_
  refine lv_iconst (v := 0) hx hb dX2_copyFrom_30 (by decide) ?_
  refine lv_aload_n hx hb dX2_copyFrom_31 rfl (lv_at hl 0 rfl) ?_
  refine va_get (D := D) (ci := 2) (v := .ref a2) (C := RX2) (T := TX2) (N := 3) hx hb hw inW_X2 hown hK hP 0 rfl rfl 2 (by decide) (hw _ mw_1_118) (fun _ h9 => h9) rfl dX2_copyFrom_32 ?_
  refine lv_iconst (v := 0) hx hb dX2_copyFrom_35 (by decide) ?_
  refine lv_aload_n hx hb dX2_copyFrom_36 rfl (lv_at hl 0 rfl) ?_
  refine va_get (D := D) (ci := 2) (v := .ref a2) (C := RX2) (T := TX2) (N := 3) hx hb hw inW_X2 hown hK hP 0 rfl rfl 2 (by decide) (hw _ mw_1_118) (fun _ h9 => h9) rfl dX2_copyFrom_37 ?_
  refine va_alen (v := 15) hx hb hK hP 2 0 rfl rfl rfl dX2_copyFrom_40 ?_
  refine cCopyI hx hb (hml.trans hl.1.symm) hown (hw _ mw_3_138) (hw _ mw_3_133) (hw _ mw_3_132) (hw _ mw_1_19) hK hP hD hS 5 2 0 rfl rfl rfl 0 0 15 (by decide +kernel) (by decide +kernel) (by decide +kernel) (by decide) (by decide) (by decide) (by decide) (by decide) (Nat.le_of_ble_eq_true rfl) (Nat.le_of_ble_eq_true rfl) dX2_copyFrom_41 (fun H locs hP hD hS => ?_)
  have hP : va_P D vwCl (List.flatten ([cLocks a0 a1 a2 C e_count (va_cpy e_price a_price 0 0 5) (va_cpy e_cuts a_cuts 0 0 15)] ++ ([cLocks e0 e1 e2 C e_count e_price e_cuts]))) H := hP
  have hD : va_D A (List.flatten ([cLocks a0 a1 a2 C e_count (va_cpy e_price a_price 0 0 5) (va_cpy e_cuts a_cuts 0 0 15)] ++ ([cLocks e0 e1 e2 C e_count e_price e_cuts]))) := hD
  rw [← hQ]
  exact cRetV (e_count, (va_cpy e_price a_price 0 0 5), (va_cpy e_cuts a_cuts 0 0 15)) hx hb hr hlocks hS hP hD h dX2_copyFrom_44
abbrev vsX0_copyFrom : List Cond := Cond.code yX0_copyFrom cX0_copyFrom 3 none :: WS
abbrev rmX0_copyFrom : Room := { frames := 1, cells := 0, slots := 0, locals := 40 }
set_option maxHeartbeats 4000000 in
set_option maxRecDepth 100000 in
theorem k_X0_copyFrom (l : Launch) (D : va_G) (C : Nat → ClassId) (sz : Nat) (a0 : Nat) (a1 : Nat) (a2 : Nat) (a3 : Nat) (a4 : Nat) (a5 : Nat) (e0 : Nat) (e1 : Nat) (e2 : Nat) (e3 : Nat) (e4 : Nat) (e5 : Nat)  (a_count : Int32) (a_worth : Nat → Int32) (a_seems : Nat → Int32) (a_place : Nat → Int32) (a_lock : Nat → Int32) (a_marked : Nat → Int32) (e_count : Int32) (e_worth : Nat → Int32) (e_seems : Nat → Int32) (e_place : Nat → Int32) (e_lock : Nat → Int32) (e_marked : Nat → Int32)  {post : (Int32) → (Nat → Int32) → (Nat → Int32) → (Nat → Int32) → (Nat → Int32) → (Nat → Int32) → Prop} (h : P_X0_copyFrom a_count a_worth a_seems a_place a_lock a_marked e_count e_worth e_seems e_place e_lock e_marked post) : Met l yX0_copyFrom vsX0_copyFrom rmX0_copyFrom (cPre D C [.ref a0, .ref e0] sz ([cBikes a0 a1 a2 a3 a4 a5 C a_count a_worth a_seems a_place a_lock a_marked] ++ ([cBikes e0 e1 e2 e3 e4 e5 C e_count e_worth e_seems e_place e_lock e_marked]))) (cQv D (fun (u : (Int32) × (Nat → Int32) × (Nat → Int32) × (Nat → Int32) × (Nat → Int32) × (Nat → Int32)) => post u.1 u.2.1 u.2.2.1 u.2.2.2.1 u.2.2.2.2.1 u.2.2.2.2.2) (fun u => [cBikes a0 a1 a2 a3 a4 a5 C u.1 u.2.1 u.2.2.1 u.2.2.2.1 u.2.2.2.2.1 u.2.2.2.2.2] ++ ([cBikes e0 e1 e2 e3 e4 e5 C e_count e_worth e_seems e_place e_lock e_marked])) (va_A (List.flatten ([cBikes a0 a1 a2 a3 a4 a5 C a_count a_worth a_seems a_place a_lock a_marked] ++ ([cBikes e0 e1 e2 e3 e4 e5 C e_count e_worth e_seems e_place e_lock e_marked]))) sz)) 0 0 (va_A (List.flatten ([cBikes a0 a1 a2 a3 a4 a5 C a_count a_worth a_seems a_place a_lock a_marked] ++ ([cBikes e0 e1 e2 e3 e4 e5 C e_count e_worth e_seems e_place e_lock e_marked]))) sz) := by
  refine cStart (QA := fun A => cQv D (fun (u : (Int32) × (Nat → Int32) × (Nat → Int32) × (Nat → Int32) × (Nat → Int32) × (Nat → Int32)) => post u.1 u.2.1 u.2.2.1 u.2.2.2.1 u.2.2.2.2.1 u.2.2.2.2.2) (fun u => [cBikes a0 a1 a2 a3 a4 a5 C u.1 u.2.1 u.2.2.1 u.2.2.2.1 u.2.2.2.2.1 u.2.2.2.2.2] ++ ([cBikes e0 e1 e2 e3 e4 e5 C e_count e_worth e_seems e_place e_lock e_marked])) A) (cc := cX0_copyFrom) (maxL := 3) (ret := none) (by decide) (Nat.le_of_ble_eq_true rfl) ?_
  intro p e s m args below meth c A ls hx hb hr hml hown hw hlocks hname hK hN hA hP hD hS hl
  generalize hQ : MQ below _ args s 0 0 A = Q
  have hl : lv_has ls 3 [(0, .ref a0), (1, .ref e0)] := hl
  obtain ⟨H, hH⟩ : ∃ H, H = s.heap := ⟨_, rfl⟩
  obtain ⟨locs, hlo⟩ : ∃ z : List Loc, z = [] := ⟨_, rfl⟩
  have hP : va_P D vwCl (List.flatten ([cBikes a0 a1 a2 a3 a4 a5 C a_count a_worth a_seems a_place a_lock a_marked] ++ ([cBikes e0 e1 e2 e3 e4 e5 C e_count e_worth e_seems e_place e_lock e_marked]))) H := by rw [hH]; exact hP
  have hS : va_S A s.heap H locs := by rw [hH, hlo]; exact hS
  rw [show W p l e rmX0_copyFrom s m args below meth c s.heap [] 0 0 Q (F0 m 0 ls []) = W p l e rmX0_copyFrom s m args below meth c H locs 0 0 Q (F0 m 0 ls []) from by rw [hH, hlo]]
  have N82 : ∀ (a_count : Int32) (a_worth : Nat → Int32) (a_seems : Nat → Int32) (a_place : Nat → Int32) (a_lock : Nat → Int32) (n82 : Nat) (x2_ : Int32) (a_marked : Nat → Int32) (H : Heap) (locs : List Loc) (ls : Array Slot), P_X0_copyFrom_82 e_count e_worth e_seems e_place e_lock e_marked post  a_count a_worth a_seems a_place a_lock n82 x2_ a_marked → va_P D vwCl (List.flatten ([cBikes a0 a1 a2 a3 a4 a5 C a_count a_worth a_seems a_place a_lock a_marked] ++ ([cBikes e0 e1 e2 e3 e4 e5 C e_count e_worth e_seems e_place e_lock e_marked]))) H → va_D A (List.flatten ([cBikes a0 a1 a2 a3 a4 a5 C a_count a_worth a_seems a_place a_lock a_marked] ++ ([cBikes e0 e1 e2 e3 e4 e5 C e_count e_worth e_seems e_place e_lock e_marked]))) → va_S A s.heap H locs → lv_has ls 3 [(0, .ref a0), (1, .ref e0), (2, .int x2_)] → W p l e rmX0_copyFrom s m args below meth c H locs 0 0 Q (F0 m 82 ls []) := by
    intro a_count a_worth a_seems a_place a_lock
    intro n82
    induction n82 with
    | zero => intro x2_ a_marked H locs ls h hP hD hS hl; exact False.elim h
    | succ n82 ih82 =>
      intro x2_ a_marked H locs ls h hP hD hS hl
      refine lv_iload_n hx hb dX0_copyFrom_82 rfl (lv_at hl 2 rfl) ?_
      refine lv_bipush (v := 10) hx hb dX0_copyFrom_83 (by decide) ?_
      refine lv_icmp_ge (tgt := 106) hx hb dX0_copyFrom_85 (by decide) (fun c1 => ?_) (fun c1 => ?_)
      · have h := h.1 c1
        rw [← hQ]
        exact cRetV (a_count, a_worth, a_seems, a_place, a_lock, a_marked) hx hb hr hlocks hS hP hD h dX0_copyFrom_106
      · have h := h.2 c1
        refine lv_aload_n hx hb dX0_copyFrom_88 rfl (lv_at hl 0 rfl) ?_
        refine va_get (D := D) (ci := 0) (v := .ref a5) (C := RX0) (T := TX0) (N := 6) hx hb hw inW_X0 hown hK hP 0 rfl rfl 5 (by decide) (hw _ mw_1_151) (fun _ h9 => h9) rfl dX0_copyFrom_89 ?_
        refine lv_iload_n hx hb dX0_copyFrom_92 rfl (lv_at hl 2 rfl) ?_
        refine lv_aload_n hx hb dX0_copyFrom_93 rfl (lv_at hl 1 rfl) ?_
        refine va_get (D := D) (ci := 0) (v := .ref e5) (C := RX0) (T := TX0) (N := 6) hx hb hw inW_X0 hown hK hP 6 rfl rfl 5 (by decide) (hw _ mw_1_151) (fun _ h9 => h9) rfl dX0_copyFrom_94 ?_
        refine lv_iload_n hx hb dX0_copyFrom_97 rfl (lv_at hl 2 rfl) ?_
        refine cZald hx hb hK hP 11 3 rfl rfl x2_.toNatClampNeg rfl h.1 dX0_copyFrom_98 ?_
        have h := h.2
        refine cZast hx hb hK hP hD hS 5 3 rfl rfl x2_.toNatClampNeg rfl h.1 h.2.1 dX0_copyFrom_99 (fun H locs hP hD hS => ?_)
        have h := h.2
        have h := h.2
        refine lv_iinc (v := (x2_ + 1)) (lv' := [(2, .int (x2_ + 1)), (0, .ref a0), (1, .ref e0)]) hx hb dX0_copyFrom_100 hl (k := 2) rfl rfl (by decide) rfl (fun ls hl => ?_)
        refine lv_goto (tgt := 82) hx hb dX0_copyFrom_103 (by decide) ?_
        have hP : va_P D vwCl (List.flatten ([cBikes a0 a1 a2 a3 a4 a5 C a_count a_worth a_seems a_place a_lock (upd a_marked x2_.toNatClampNeg (e_marked x2_.toNatClampNeg))] ++ ([cBikes e0 e1 e2 e3 e4 e5 C e_count e_worth e_seems e_place e_lock e_marked]))) H := hP
        have hD : va_D A (List.flatten ([cBikes a0 a1 a2 a3 a4 a5 C a_count a_worth a_seems a_place a_lock (upd a_marked x2_.toNatClampNeg (e_marked x2_.toNatClampNeg))] ++ ([cBikes e0 e1 e2 e3 e4 e5 C e_count e_worth e_seems e_place e_lock e_marked]))) := hD
        exact ih82 (x2_ + 1) (upd a_marked x2_.toNatClampNeg (e_marked x2_.toNatClampNeg)) _ _ _ h hP hD hS (lv_sub hl [1, 2, 0] rfl)
  refine lv_aload_n hx hb dX0_copyFrom_0 rfl (lv_at hl 0 rfl) ?_
  refine lv_aload_n hx hb dX0_copyFrom_1 rfl (lv_at hl 1 rfl) ?_
  refine va_get (D := D) (ci := 0) (v := .int e_count) (C := RX0) (T := TX0) (N := 6) hx hb hw inW_X0 hown hK hP 6 rfl rfl 0 (by decide) (hw _ mw_1_133) (fun _ h9 => h9) rfl dX0_copyFrom_2 ?_
  refine va_put (D := D) (ci := 0) (v := .int e_count) (ty := .int) (C := RX0) (T := TX0) (N := 6) hx hb hw inW_X0 tyX0 tyX0_ok nmX0 hown hK hP hD hS 0 rfl rfl 0 (by decide) (hw _ mw_1_133) (fun _ h9 => h9) rfl (by decide +kernel) rfl rfl (Nat.le_of_ble_eq_true rfl) dX0_copyFrom_5 (fun H locs hP hD hS => ?_)
  refine lv_aload_n hx hb dX0_copyFrom_8 rfl (lv_at hl 1 rfl) ?_
  refine va_get (D := D) (ci := 0) (v := .ref e1) (C := RX0) (T := TX0) (N := 6) hx hb hw inW_X0 hown hK hP 6 rfl rfl 1 (by decide) (hw _ mw_1_138) (fun _ h9 => h9) rfl dX0_copyFrom_9 ?_
  refine lv_iconst (v := 0) hx hb dX0_copyFrom_12 (by decide) ?_
  refine lv_aload_n hx hb dX0_copyFrom_13 rfl (lv_at hl 0 rfl) ?_
  refine va_get (D := D) (ci := 0) (v := .ref a1) (C := RX0) (T := TX0) (N := 6) hx hb hw inW_X0 hown hK hP 0 rfl rfl 1 (by decide) (hw _ mw_1_138) (fun _ h9 => h9) rfl dX0_copyFrom_14 ?_
  refine lv_iconst (v := 0) hx hb dX0_copyFrom_17 (by decide) ?_
  refine lv_aload_n hx hb dX0_copyFrom_18 rfl (lv_at hl 0 rfl) ?_
  refine va_get (D := D) (ci := 0) (v := .ref a1) (C := RX0) (T := TX0) (N := 6) hx hb hw inW_X0 hown hK hP 0 rfl rfl 1 (by decide) (hw _ mw_1_138) (fun _ h9 => h9) rfl dX0_copyFrom_19 ?_
  refine va_alen (v := 10) hx hb hK hP 1 0 rfl rfl rfl dX0_copyFrom_22 ?_
  refine cCopyI hx hb (hml.trans hl.1.symm) hown (hw _ mw_3_143) (hw _ mw_3_133) (hw _ mw_3_132) (hw _ mw_1_19) hK hP hD hS 7 1 0 rfl rfl rfl 0 0 10 (by decide +kernel) (by decide +kernel) (by decide +kernel) (by decide) (by decide) (by decide) (by decide) (by decide) (Nat.le_of_ble_eq_true rfl) (Nat.le_of_ble_eq_true rfl) dX0_copyFrom_23 (fun H locs hP hD hS => ?_)
  refine lv_aload_n hx hb dX0_copyFrom_26 rfl (lv_at hl 1 rfl) ?_
  refine va_get (D := D) (ci := 0) (v := .ref e2) (C := RX0) (T := TX0) (N := 6) hx hb hw inW_X0 hown hK hP 6 rfl rfl 2 (by decide) (hw _ mw_1_142) (fun _ h9 => h9) rfl dX0_copyFrom_27 ?_
  refine lv_iconst (v := 0) hx hb dX0_copyFrom_30 (by decide) ?_
  refine lv_aload_n hx hb dX0_copyFrom_31 rfl (lv_at hl 0 rfl) ?_
  refine va_get (D := D) (ci := 0) (v := .ref a2) (C := RX0) (T := TX0) (N := 6) hx hb hw inW_X0 hown hK hP 0 rfl rfl 2 (by decide) (hw _ mw_1_142) (fun _ h9 => h9) rfl dX0_copyFrom_32 ?_
  refine lv_iconst (v := 0) hx hb dX0_copyFrom_35 (by decide) ?_
  refine lv_aload_n hx hb dX0_copyFrom_36 rfl (lv_at hl 0 rfl) ?_
  refine va_get (D := D) (ci := 0) (v := .ref a2) (C := RX0) (T := TX0) (N := 6) hx hb hw inW_X0 hown hK hP 0 rfl rfl 2 (by decide) (hw _ mw_1_142) (fun _ h9 => h9) rfl dX0_copyFrom_37 ?_
  refine va_alen (v := 10) hx hb hK hP 2 0 rfl rfl rfl dX0_copyFrom_40 ?_
  refine cCopyI hx hb (hml.trans hl.1.symm) hown (hw _ mw_3_143) (hw _ mw_3_133) (hw _ mw_3_132) (hw _ mw_1_19) hK hP hD hS 8 2 0 rfl rfl rfl 0 0 10 (by decide +kernel) (by decide +kernel) (by decide +kernel) (by decide) (by decide) (by decide) (by decide) (by decide) (Nat.le_of_ble_eq_true rfl) (Nat.le_of_ble_eq_true rfl) dX0_copyFrom_41 (fun H locs hP hD hS => ?_)
  refine lv_aload_n hx hb dX0_copyFrom_44 rfl (lv_at hl 1 rfl) ?_
  refine va_get (D := D) (ci := 0) (v := .ref e3) (C := RX0) (T := TX0) (N := 6) hx hb hw inW_X0 hown hK hP 6 rfl rfl 3 (by decide) (hw _ mw_1_145) (fun _ h9 => h9) rfl dX0_copyFrom_45 ?_
  refine lv_iconst (v := 0) hx hb dX0_copyFrom_48 (by decide) ?_
  refine lv_aload_n hx hb dX0_copyFrom_49 rfl (lv_at hl 0 rfl) ?_
  refine va_get (D := D) (ci := 0) (v := .ref a3) (C := RX0) (T := TX0) (N := 6) hx hb hw inW_X0 hown hK hP 0 rfl rfl 3 (by decide) (hw _ mw_1_145) (fun _ h9 => h9) rfl dX0_copyFrom_50 ?_
  refine lv_iconst (v := 0) hx hb dX0_copyFrom_53 (by decide) ?_
  refine lv_aload_n hx hb dX0_copyFrom_54 rfl (lv_at hl 0 rfl) ?_
  refine va_get (D := D) (ci := 0) (v := .ref a3) (C := RX0) (T := TX0) (N := 6) hx hb hw inW_X0 hown hK hP 0 rfl rfl 3 (by decide) (hw _ mw_1_145) (fun _ h9 => h9) rfl dX0_copyFrom_55 ?_
  refine va_alen (v := 10) hx hb hK hP 3 0 rfl rfl rfl dX0_copyFrom_58 ?_
  refine cCopyI hx hb (hml.trans hl.1.symm) hown (hw _ mw_3_143) (hw _ mw_3_133) (hw _ mw_3_132) (hw _ mw_1_19) hK hP hD hS 9 3 0 rfl rfl rfl 0 0 10 (by decide +kernel) (by decide +kernel) (by decide +kernel) (by decide) (by decide) (by decide) (by decide) (by decide) (Nat.le_of_ble_eq_true rfl) (Nat.le_of_ble_eq_true rfl) dX0_copyFrom_59 (fun H locs hP hD hS => ?_)
  refine lv_aload_n hx hb dX0_copyFrom_62 rfl (lv_at hl 1 rfl) ?_
  refine va_get (D := D) (ci := 0) (v := .ref e4) (C := RX0) (T := TX0) (N := 6) hx hb hw inW_X0 hown hK hP 6 rfl rfl 4 (by decide) (hw _ mw_1_148) (fun _ h9 => h9) rfl dX0_copyFrom_63 ?_
  refine lv_iconst (v := 0) hx hb dX0_copyFrom_66 (by decide) ?_
  refine lv_aload_n hx hb dX0_copyFrom_67 rfl (lv_at hl 0 rfl) ?_
  refine va_get (D := D) (ci := 0) (v := .ref a4) (C := RX0) (T := TX0) (N := 6) hx hb hw inW_X0 hown hK hP 0 rfl rfl 4 (by decide) (hw _ mw_1_148) (fun _ h9 => h9) rfl dX0_copyFrom_68 ?_
  refine lv_iconst (v := 0) hx hb dX0_copyFrom_71 (by decide) ?_
  refine lv_aload_n hx hb dX0_copyFrom_72 rfl (lv_at hl 0 rfl) ?_
  refine va_get (D := D) (ci := 0) (v := .ref a4) (C := RX0) (T := TX0) (N := 6) hx hb hw inW_X0 hown hK hP 0 rfl rfl 4 (by decide) (hw _ mw_1_148) (fun _ h9 => h9) rfl dX0_copyFrom_73 ?_
  refine va_alen (v := 10) hx hb hK hP 4 0 rfl rfl rfl dX0_copyFrom_76 ?_
  refine cCopyI hx hb (hml.trans hl.1.symm) hown (hw _ mw_3_143) (hw _ mw_3_133) (hw _ mw_3_132) (hw _ mw_1_19) hK hP hD hS 10 4 0 rfl rfl rfl 0 0 10 (by decide +kernel) (by decide +kernel) (by decide +kernel) (by decide) (by decide) (by decide) (by decide) (by decide) (Nat.le_of_ble_eq_true rfl) (Nat.le_of_ble_eq_true rfl) dX0_copyFrom_77 (fun H locs hP hD hS => ?_)
  refine lv_iconst (v := 0) hx hb dX0_copyFrom_80 (by decide) ?_
  refine lv_istore_n (lv' := [(2, .int 0), (0, .ref a0), (1, .ref e0)]) hx hb dX0_copyFrom_81 rfl hl (by decide) rfl (fun ls hl => ?_)
  have hP : va_P D vwCl (List.flatten ([cBikes a0 a1 a2 a3 a4 a5 C e_count (va_cpy e_worth a_worth 0 0 10) (va_cpy e_seems a_seems 0 0 10) (va_cpy e_place a_place 0 0 10) (va_cpy e_lock a_lock 0 0 10) a_marked] ++ ([cBikes e0 e1 e2 e3 e4 e5 C e_count e_worth e_seems e_place e_lock e_marked]))) H := hP
  have hD : va_D A (List.flatten ([cBikes a0 a1 a2 a3 a4 a5 C e_count (va_cpy e_worth a_worth 0 0 10) (va_cpy e_seems a_seems 0 0 10) (va_cpy e_place a_place 0 0 10) (va_cpy e_lock a_lock 0 0 10) a_marked] ++ ([cBikes e0 e1 e2 e3 e4 e5 C e_count e_worth e_seems e_place e_lock e_marked]))) := hD
  obtain ⟨n, h⟩ := h
  exact N82 e_count (va_cpy e_worth a_worth 0 0 10) (va_cpy e_seems a_seems 0 0 10) (va_cpy e_place a_place 0 0 10) (va_cpy e_lock a_lock 0 0 10) n 0 a_marked _ _ _ h hP hD hS (lv_sub hl [1, 2, 0] rfl)
abbrev vsX9_copyFrom : List Cond := Cond.code yX9_copyFrom cX9_copyFrom 2 none :: WS
abbrev rmX9_copyFrom : Room := { frames := 1, cells := 0, slots := 0, locals := 40 }
set_option maxHeartbeats 4000000 in
set_option maxRecDepth 100000 in
theorem k_X9_copyFrom (l : Launch) (D : va_G) (C : Nat → ClassId) (sz : Nat) (a0 : Nat) (a1 : Nat) (a2 : Nat) (a3 : Nat) (a4 : Nat) (a5 : Nat) (e0 : Nat) (e1 : Nat) (e2 : Nat) (e3 : Nat) (e4 : Nat) (e5 : Nat)  (a_count : Int32) (a_tool : Nat → Int32) (a_comes : Nat → Int32) (a_fears : Nat → Int32) (a_kind : Nat → Int32) (a_just : Nat → Int32) (e_count : Int32) (e_tool : Nat → Int32) (e_comes : Nat → Int32) (e_fears : Nat → Int32) (e_kind : Nat → Int32) (e_just : Nat → Int32)  {post : (Int32) → (Nat → Int32) → (Nat → Int32) → (Nat → Int32) → (Nat → Int32) → (Nat → Int32) → Prop} (h : P_X9_copyFrom a_count a_tool a_comes a_fears a_kind a_just e_count e_tool e_comes e_fears e_kind e_just post) : Met l yX9_copyFrom vsX9_copyFrom rmX9_copyFrom (cPre D C [.ref a0, .ref e0] sz ([cThieves a0 a1 a2 a3 a4 a5 C a_count a_tool a_comes a_fears a_kind a_just] ++ ([cThieves e0 e1 e2 e3 e4 e5 C e_count e_tool e_comes e_fears e_kind e_just]))) (cQv D (fun (u : (Int32) × (Nat → Int32) × (Nat → Int32) × (Nat → Int32) × (Nat → Int32) × (Nat → Int32)) => post u.1 u.2.1 u.2.2.1 u.2.2.2.1 u.2.2.2.2.1 u.2.2.2.2.2) (fun u => [cThieves a0 a1 a2 a3 a4 a5 C u.1 u.2.1 u.2.2.1 u.2.2.2.1 u.2.2.2.2.1 u.2.2.2.2.2] ++ ([cThieves e0 e1 e2 e3 e4 e5 C e_count e_tool e_comes e_fears e_kind e_just])) (va_A (List.flatten ([cThieves a0 a1 a2 a3 a4 a5 C a_count a_tool a_comes a_fears a_kind a_just] ++ ([cThieves e0 e1 e2 e3 e4 e5 C e_count e_tool e_comes e_fears e_kind e_just]))) sz)) 0 0 (va_A (List.flatten ([cThieves a0 a1 a2 a3 a4 a5 C a_count a_tool a_comes a_fears a_kind a_just] ++ ([cThieves e0 e1 e2 e3 e4 e5 C e_count e_tool e_comes e_fears e_kind e_just]))) sz) := by
  refine cStart (QA := fun A => cQv D (fun (u : (Int32) × (Nat → Int32) × (Nat → Int32) × (Nat → Int32) × (Nat → Int32) × (Nat → Int32)) => post u.1 u.2.1 u.2.2.1 u.2.2.2.1 u.2.2.2.2.1 u.2.2.2.2.2) (fun u => [cThieves a0 a1 a2 a3 a4 a5 C u.1 u.2.1 u.2.2.1 u.2.2.2.1 u.2.2.2.2.1 u.2.2.2.2.2] ++ ([cThieves e0 e1 e2 e3 e4 e5 C e_count e_tool e_comes e_fears e_kind e_just])) A) (cc := cX9_copyFrom) (maxL := 2) (ret := none) (by decide) (Nat.le_of_ble_eq_true rfl) ?_
  intro p e s m args below meth c A ls hx hb hr hml hown hw hlocks hname hK hN hA hP hD hS hl
  generalize hQ : MQ below _ args s 0 0 A = Q
  have hl : lv_has ls 2 [(0, .ref a0), (1, .ref e0)] := hl
  obtain ⟨H, hH⟩ : ∃ H, H = s.heap := ⟨_, rfl⟩
  obtain ⟨locs, hlo⟩ : ∃ z : List Loc, z = [] := ⟨_, rfl⟩
  have hP : va_P D vwCl (List.flatten ([cThieves a0 a1 a2 a3 a4 a5 C a_count a_tool a_comes a_fears a_kind a_just] ++ ([cThieves e0 e1 e2 e3 e4 e5 C e_count e_tool e_comes e_fears e_kind e_just]))) H := by rw [hH]; exact hP
  have hS : va_S A s.heap H locs := by rw [hH, hlo]; exact hS
  rw [show W p l e rmX9_copyFrom s m args below meth c s.heap [] 0 0 Q (F0 m 0 ls []) = W p l e rmX9_copyFrom s m args below meth c H locs 0 0 Q (F0 m 0 ls []) from by rw [hH, hlo]]
  refine lv_aload_n hx hb dX9_copyFrom_0 rfl (lv_at hl 0 rfl) ?_
  refine lv_aload_n hx hb dX9_copyFrom_1 rfl (lv_at hl 1 rfl) ?_
  refine va_get (D := D) (ci := 9) (v := .int e_count) (C := RX9) (T := TX9) (N := 6) hx hb hw inW_X9 hown hK hP 6 rfl rfl 0 (by decide) (hw _ mw_1_174) (fun _ h9 => h9) rfl dX9_copyFrom_2 ?_
  refine va_put (D := D) (ci := 9) (v := .int e_count) (ty := .int) (C := RX9) (T := TX9) (N := 6) hx hb hw inW_X9 tyX9 tyX9_ok nmX9 hown hK hP hD hS 0 rfl rfl 0 (by decide) (hw _ mw_1_174) (fun _ h9 => h9) rfl (by decide +kernel) rfl rfl (Nat.le_of_ble_eq_true rfl) dX9_copyFrom_5 (fun H locs hP hD hS => ?_)
  refine lv_aload_n hx hb dX9_copyFrom_8 rfl (lv_at hl 1 rfl) ?_
  refine va_get (D := D) (ci := 9) (v := .ref e1) (C := RX9) (T := TX9) (N := 6) hx hb hw inW_X9 hown hK hP 6 rfl rfl 1 (by decide) (hw _ mw_1_179) (fun _ h9 => h9) rfl dX9_copyFrom_9 ?_
  refine lv_iconst (v := 0) hx hb dX9_copyFrom_12 (by decide) ?_
  refine lv_aload_n hx hb dX9_copyFrom_13 rfl (lv_at hl 0 rfl) ?_
  refine va_get (D := D) (ci := 9) (v := .ref a1) (C := RX9) (T := TX9) (N := 6) hx hb hw inW_X9 hown hK hP 0 rfl rfl 1 (by decide) (hw _ mw_1_179) (fun _ h9 => h9) rfl dX9_copyFrom_14 ?_
  refine lv_iconst (v := 0) hx hb dX9_copyFrom_17 (by decide) ?_
  refine lv_aload_n hx hb dX9_copyFrom_18 rfl (lv_at hl 0 rfl) ?_
  refine va_get (D := D) (ci := 9) (v := .ref a1) (C := RX9) (T := TX9) (N := 6) hx hb hw inW_X9 hown hK hP 0 rfl rfl 1 (by decide) (hw _ mw_1_179) (fun _ h9 => h9) rfl dX9_copyFrom_19 ?_
  refine va_alen (v := 6) hx hb hK hP 1 0 rfl rfl rfl dX9_copyFrom_22 ?_
  refine cCopyI hx hb (hml.trans hl.1.symm) hown (hw _ mw_3_148) (hw _ mw_3_133) (hw _ mw_3_132) (hw _ mw_1_19) hK hP hD hS 7 1 0 rfl rfl rfl 0 0 6 (by decide +kernel) (by decide +kernel) (by decide +kernel) (by decide) (by decide) (by decide) (by decide) (by decide) (Nat.le_of_ble_eq_true rfl) (Nat.le_of_ble_eq_true rfl) dX9_copyFrom_23 (fun H locs hP hD hS => ?_)
  refine lv_aload_n hx hb dX9_copyFrom_26 rfl (lv_at hl 1 rfl) ?_
  refine va_get (D := D) (ci := 9) (v := .ref e2) (C := RX9) (T := TX9) (N := 6) hx hb hw inW_X9 hown hK hP 6 rfl rfl 2 (by decide) (hw _ mw_1_181) (fun _ h9 => h9) rfl dX9_copyFrom_27 ?_
  refine lv_iconst (v := 0) hx hb dX9_copyFrom_30 (by decide) ?_
  refine lv_aload_n hx hb dX9_copyFrom_31 rfl (lv_at hl 0 rfl) ?_
  refine va_get (D := D) (ci := 9) (v := .ref a2) (C := RX9) (T := TX9) (N := 6) hx hb hw inW_X9 hown hK hP 0 rfl rfl 2 (by decide) (hw _ mw_1_181) (fun _ h9 => h9) rfl dX9_copyFrom_32 ?_
  refine lv_iconst (v := 0) hx hb dX9_copyFrom_35 (by decide) ?_
  refine lv_aload_n hx hb dX9_copyFrom_36 rfl (lv_at hl 0 rfl) ?_
  refine va_get (D := D) (ci := 9) (v := .ref a2) (C := RX9) (T := TX9) (N := 6) hx hb hw inW_X9 hown hK hP 0 rfl rfl 2 (by decide) (hw _ mw_1_181) (fun _ h9 => h9) rfl dX9_copyFrom_37 ?_
  refine va_alen (v := 6) hx hb hK hP 2 0 rfl rfl rfl dX9_copyFrom_40 ?_
  refine cCopyI hx hb (hml.trans hl.1.symm) hown (hw _ mw_3_148) (hw _ mw_3_133) (hw _ mw_3_132) (hw _ mw_1_19) hK hP hD hS 8 2 0 rfl rfl rfl 0 0 6 (by decide +kernel) (by decide +kernel) (by decide +kernel) (by decide) (by decide) (by decide) (by decide) (by decide) (Nat.le_of_ble_eq_true rfl) (Nat.le_of_ble_eq_true rfl) dX9_copyFrom_41 (fun H locs hP hD hS => ?_)
  refine lv_aload_n hx hb dX9_copyFrom_44 rfl (lv_at hl 1 rfl) ?_
  refine va_get (D := D) (ci := 9) (v := .ref e3) (C := RX9) (T := TX9) (N := 6) hx hb hw inW_X9 hown hK hP 6 rfl rfl 3 (by decide) (hw _ mw_1_183) (fun _ h9 => h9) rfl dX9_copyFrom_45 ?_
  refine lv_iconst (v := 0) hx hb dX9_copyFrom_48 (by decide) ?_
  refine lv_aload_n hx hb dX9_copyFrom_49 rfl (lv_at hl 0 rfl) ?_
  refine va_get (D := D) (ci := 9) (v := .ref a3) (C := RX9) (T := TX9) (N := 6) hx hb hw inW_X9 hown hK hP 0 rfl rfl 3 (by decide) (hw _ mw_1_183) (fun _ h9 => h9) rfl dX9_copyFrom_50 ?_
  refine lv_iconst (v := 0) hx hb dX9_copyFrom_53 (by decide) ?_
  refine lv_aload_n hx hb dX9_copyFrom_54 rfl (lv_at hl 0 rfl) ?_
  refine va_get (D := D) (ci := 9) (v := .ref a3) (C := RX9) (T := TX9) (N := 6) hx hb hw inW_X9 hown hK hP 0 rfl rfl 3 (by decide) (hw _ mw_1_183) (fun _ h9 => h9) rfl dX9_copyFrom_55 ?_
  refine va_alen (v := 6) hx hb hK hP 3 0 rfl rfl rfl dX9_copyFrom_58 ?_
  refine cCopyI hx hb (hml.trans hl.1.symm) hown (hw _ mw_3_148) (hw _ mw_3_133) (hw _ mw_3_132) (hw _ mw_1_19) hK hP hD hS 9 3 0 rfl rfl rfl 0 0 6 (by decide +kernel) (by decide +kernel) (by decide +kernel) (by decide) (by decide) (by decide) (by decide) (by decide) (Nat.le_of_ble_eq_true rfl) (Nat.le_of_ble_eq_true rfl) dX9_copyFrom_59 (fun H locs hP hD hS => ?_)
  refine lv_aload_n hx hb dX9_copyFrom_62 rfl (lv_at hl 1 rfl) ?_
  refine va_get (D := D) (ci := 9) (v := .ref e4) (C := RX9) (T := TX9) (N := 6) hx hb hw inW_X9 hown hK hP 6 rfl rfl 4 (by decide) (hw _ mw_1_185) (fun _ h9 => h9) rfl dX9_copyFrom_63 ?_
  refine lv_iconst (v := 0) hx hb dX9_copyFrom_66 (by decide) ?_
  refine lv_aload_n hx hb dX9_copyFrom_67 rfl (lv_at hl 0 rfl) ?_
  refine va_get (D := D) (ci := 9) (v := .ref a4) (C := RX9) (T := TX9) (N := 6) hx hb hw inW_X9 hown hK hP 0 rfl rfl 4 (by decide) (hw _ mw_1_185) (fun _ h9 => h9) rfl dX9_copyFrom_68 ?_
  refine lv_iconst (v := 0) hx hb dX9_copyFrom_71 (by decide) ?_
  refine lv_aload_n hx hb dX9_copyFrom_72 rfl (lv_at hl 0 rfl) ?_
  refine va_get (D := D) (ci := 9) (v := .ref a4) (C := RX9) (T := TX9) (N := 6) hx hb hw inW_X9 hown hK hP 0 rfl rfl 4 (by decide) (hw _ mw_1_185) (fun _ h9 => h9) rfl dX9_copyFrom_73 ?_
  refine va_alen (v := 6) hx hb hK hP 4 0 rfl rfl rfl dX9_copyFrom_76 ?_
  refine cCopyI hx hb (hml.trans hl.1.symm) hown (hw _ mw_3_148) (hw _ mw_3_133) (hw _ mw_3_132) (hw _ mw_1_19) hK hP hD hS 10 4 0 rfl rfl rfl 0 0 6 (by decide +kernel) (by decide +kernel) (by decide +kernel) (by decide) (by decide) (by decide) (by decide) (by decide) (Nat.le_of_ble_eq_true rfl) (Nat.le_of_ble_eq_true rfl) dX9_copyFrom_77 (fun H locs hP hD hS => ?_)
  refine lv_aload_n hx hb dX9_copyFrom_80 rfl (lv_at hl 1 rfl) ?_
  refine va_get (D := D) (ci := 9) (v := .ref e5) (C := RX9) (T := TX9) (N := 6) hx hb hw inW_X9 hown hK hP 6 rfl rfl 5 (by decide) (hw _ mw_1_187) (fun _ h9 => h9) rfl dX9_copyFrom_81 ?_
  refine lv_iconst (v := 0) hx hb dX9_copyFrom_84 (by decide) ?_
  refine lv_aload_n hx hb dX9_copyFrom_85 rfl (lv_at hl 0 rfl) ?_
  refine va_get (D := D) (ci := 9) (v := .ref a5) (C := RX9) (T := TX9) (N := 6) hx hb hw inW_X9 hown hK hP 0 rfl rfl 5 (by decide) (hw _ mw_1_187) (fun _ h9 => h9) rfl dX9_copyFrom_86 ?_
  refine lv_iconst (v := 0) hx hb dX9_copyFrom_89 (by decide) ?_
  refine lv_aload_n hx hb dX9_copyFrom_90 rfl (lv_at hl 0 rfl) ?_
  refine va_get (D := D) (ci := 9) (v := .ref a5) (C := RX9) (T := TX9) (N := 6) hx hb hw inW_X9 hown hK hP 0 rfl rfl 5 (by decide) (hw _ mw_1_187) (fun _ h9 => h9) rfl dX9_copyFrom_91 ?_
  refine va_alen (v := 6) hx hb hK hP 5 0 rfl rfl rfl dX9_copyFrom_94 ?_
  refine cCopyI hx hb (hml.trans hl.1.symm) hown (hw _ mw_3_148) (hw _ mw_3_133) (hw _ mw_3_132) (hw _ mw_1_19) hK hP hD hS 11 5 0 rfl rfl rfl 0 0 6 (by decide +kernel) (by decide +kernel) (by decide +kernel) (by decide) (by decide) (by decide) (by decide) (by decide) (Nat.le_of_ble_eq_true rfl) (Nat.le_of_ble_eq_true rfl) dX9_copyFrom_95 (fun H locs hP hD hS => ?_)
  have hP : va_P D vwCl (List.flatten ([cThieves a0 a1 a2 a3 a4 a5 C e_count (va_cpy e_tool a_tool 0 0 6) (va_cpy e_comes a_comes 0 0 6) (va_cpy e_fears a_fears 0 0 6) (va_cpy e_kind a_kind 0 0 6) (va_cpy e_just a_just 0 0 6)] ++ ([cThieves e0 e1 e2 e3 e4 e5 C e_count e_tool e_comes e_fears e_kind e_just]))) H := hP
  have hD : va_D A (List.flatten ([cThieves a0 a1 a2 a3 a4 a5 C e_count (va_cpy e_tool a_tool 0 0 6) (va_cpy e_comes a_comes 0 0 6) (va_cpy e_fears a_fears 0 0 6) (va_cpy e_kind a_kind 0 0 6) (va_cpy e_just a_just 0 0 6)] ++ ([cThieves e0 e1 e2 e3 e4 e5 C e_count e_tool e_comes e_fears e_kind e_just]))) := hD
  rw [← hQ]
  exact cRetV (e_count, (va_cpy e_tool a_tool 0 0 6), (va_cpy e_comes a_comes 0 0 6), (va_cpy e_fears a_fears 0 0 6), (va_cpy e_kind a_kind 0 0 6), (va_cpy e_just a_just 0 0 6)) hx hb hr hlocks hS hP hD h dX9_copyFrom_98
abbrev vsX10_copyFrom : List Cond := Cond.code yX10_copyFrom cX10_copyFrom 2 none :: WS
abbrev rmX10_copyFrom : Room := { frames := 1, cells := 0, slots := 0, locals := 40 }
set_option maxHeartbeats 4000000 in
set_option maxRecDepth 100000 in
theorem k_X10_copyFrom (l : Launch) (D : va_G) (C : Nat → ClassId) (sz : Nat) (a0 : Nat) (a1 : Nat) (a2 : Nat) (e0 : Nat) (e1 : Nat) (e2 : Nat)  (a_isThere : Int32) (a_taken : Nat → Int32) (a_took : Nat → Int32) (e_isThere : Int32) (e_taken : Nat → Int32) (e_took : Nat → Int32)  {post : (Int32) → (Nat → Int32) → (Nat → Int32) → Prop} (h : P_X10_copyFrom a_isThere a_taken a_took e_isThere e_taken e_took post) : Met l yX10_copyFrom vsX10_copyFrom rmX10_copyFrom (cPre D C [.ref a0, .ref e0] sz ([cYear a0 a1 a2 C a_isThere a_taken a_took] ++ ([cYear e0 e1 e2 C e_isThere e_taken e_took]))) (cQv D (fun (u : (Int32) × (Nat → Int32) × (Nat → Int32)) => post u.1 u.2.1 u.2.2) (fun u => [cYear a0 a1 a2 C u.1 u.2.1 u.2.2] ++ ([cYear e0 e1 e2 C e_isThere e_taken e_took])) (va_A (List.flatten ([cYear a0 a1 a2 C a_isThere a_taken a_took] ++ ([cYear e0 e1 e2 C e_isThere e_taken e_took]))) sz)) 0 0 (va_A (List.flatten ([cYear a0 a1 a2 C a_isThere a_taken a_took] ++ ([cYear e0 e1 e2 C e_isThere e_taken e_took]))) sz) := by
  refine cStart (QA := fun A => cQv D (fun (u : (Int32) × (Nat → Int32) × (Nat → Int32)) => post u.1 u.2.1 u.2.2) (fun u => [cYear a0 a1 a2 C u.1 u.2.1 u.2.2] ++ ([cYear e0 e1 e2 C e_isThere e_taken e_took])) A) (cc := cX10_copyFrom) (maxL := 2) (ret := none) (by decide) (Nat.le_of_ble_eq_true rfl) ?_
  intro p e s m args below meth c A ls hx hb hr hml hown hw hlocks hname hK hN hA hP hD hS hl
  generalize hQ : MQ below _ args s 0 0 A = Q
  have hl : lv_has ls 2 [(0, .ref a0), (1, .ref e0)] := hl
  obtain ⟨H, hH⟩ : ∃ H, H = s.heap := ⟨_, rfl⟩
  obtain ⟨locs, hlo⟩ : ∃ z : List Loc, z = [] := ⟨_, rfl⟩
  have hP : va_P D vwCl (List.flatten ([cYear a0 a1 a2 C a_isThere a_taken a_took] ++ ([cYear e0 e1 e2 C e_isThere e_taken e_took]))) H := by rw [hH]; exact hP
  have hS : va_S A s.heap H locs := by rw [hH, hlo]; exact hS
  rw [show W p l e rmX10_copyFrom s m args below meth c s.heap [] 0 0 Q (F0 m 0 ls []) = W p l e rmX10_copyFrom s m args below meth c H locs 0 0 Q (F0 m 0 ls []) from by rw [hH, hlo]]
  refine lv_aload_n hx hb dX10_copyFrom_0 rfl (lv_at hl 0 rfl) ?_
  refine lv_aload_n hx hb dX10_copyFrom_1 rfl (lv_at hl 1 rfl) ?_
  refine va_get (D := D) (ci := 10) (v := .int e_isThere) (C := RX10) (T := TX10) (N := 3) hx hb hw inW_X10 hown hK hP 3 rfl rfl 0 (by decide) (hw _ mw_1_208) (fun _ h9 => h9) rfl dX10_copyFrom_2 ?_
  refine va_put (D := D) (ci := 10) (v := .int e_isThere) (ty := .boolean) (C := RX10) (T := TX10) (N := 3) hx hb hw inW_X10 tyX10 tyX10_ok nmX10 hown hK hP hD hS 0 rfl rfl 0 (by decide) (hw _ mw_1_208) (fun _ h9 => h9) rfl (by decide +kernel) (zb_n h.1) (zb_f h.1) (Nat.le_of_ble_eq_true rfl) dX10_copyFrom_5 (fun H locs hP hD hS => ?_)
  have h := h.2
  refine lv_aload_n hx hb dX10_copyFrom_8 rfl (lv_at hl 1 rfl) ?_
  refine va_get (D := D) (ci := 10) (v := .ref e1) (C := RX10) (T := TX10) (N := 3) hx hb hw inW_X10 hown hK hP 3 rfl rfl 1 (by decide) (hw _ mw_1_211) (fun _ h9 => h9) rfl dX10_copyFrom_9 ?_
  refine lv_iconst (v := 0) hx hb dX10_copyFrom_12 (by decide) ?_
  refine lv_aload_n hx hb dX10_copyFrom_13 rfl (lv_at hl 0 rfl) ?_
  refine va_get (D := D) (ci := 10) (v := .ref a1) (C := RX10) (T := TX10) (N := 3) hx hb hw inW_X10 hown hK hP 0 rfl rfl 1 (by decide) (hw _ mw_1_211) (fun _ h9 => h9) rfl dX10_copyFrom_14 ?_
  refine lv_iconst (v := 0) hx hb dX10_copyFrom_17 (by decide) ?_
  refine lv_aload_n hx hb dX10_copyFrom_18 rfl (lv_at hl 0 rfl) ?_
  refine va_get (D := D) (ci := 10) (v := .ref a1) (C := RX10) (T := TX10) (N := 3) hx hb hw inW_X10 hown hK hP 0 rfl rfl 1 (by decide) (hw _ mw_1_211) (fun _ h9 => h9) rfl dX10_copyFrom_19 ?_
  refine va_alen (v := 10) hx hb hK hP 1 0 rfl rfl rfl dX10_copyFrom_22 ?_
  refine cCopyI hx hb (hml.trans hl.1.symm) hown (hw _ mw_3_153) (hw _ mw_3_133) (hw _ mw_3_132) (hw _ mw_1_19) hK hP hD hS 4 1 0 rfl rfl rfl 0 0 10 (by decide +kernel) (by decide +kernel) (by decide +kernel) (by decide) (by decide) (by decide) (by decide) (by decide) (Nat.le_of_ble_eq_true rfl) (Nat.le_of_ble_eq_true rfl) dX10_copyFrom_23 (fun H locs hP hD hS => ?_)
  refine lv_aload_n hx hb dX10_copyFrom_26 rfl (lv_at hl 1 rfl) ?_
  refine va_get (D := D) (ci := 10) (v := .ref e2) (C := RX10) (T := TX10) (N := 3) hx hb hw inW_X10 hown hK hP 3 rfl rfl 2 (by decide) (hw _ mw_1_215) (fun _ h9 => h9) rfl dX10_copyFrom_27 ?_
  refine lv_iconst (v := 0) hx hb dX10_copyFrom_30 (by decide) ?_
  refine lv_aload_n hx hb dX10_copyFrom_31 rfl (lv_at hl 0 rfl) ?_
  refine va_get (D := D) (ci := 10) (v := .ref a2) (C := RX10) (T := TX10) (N := 3) hx hb hw inW_X10 hown hK hP 0 rfl rfl 2 (by decide) (hw _ mw_1_215) (fun _ h9 => h9) rfl dX10_copyFrom_32 ?_
  refine lv_iconst (v := 0) hx hb dX10_copyFrom_35 (by decide) ?_
  refine lv_aload_n hx hb dX10_copyFrom_36 rfl (lv_at hl 0 rfl) ?_
  refine va_get (D := D) (ci := 10) (v := .ref a2) (C := RX10) (T := TX10) (N := 3) hx hb hw inW_X10 hown hK hP 0 rfl rfl 2 (by decide) (hw _ mw_1_215) (fun _ h9 => h9) rfl dX10_copyFrom_37 ?_
  refine va_alen (v := 6) hx hb hK hP 2 0 rfl rfl rfl dX10_copyFrom_40 ?_
  refine cCopyI hx hb (hml.trans hl.1.symm) hown (hw _ mw_3_153) (hw _ mw_3_133) (hw _ mw_3_132) (hw _ mw_1_19) hK hP hD hS 5 2 0 rfl rfl rfl 0 0 6 (by decide +kernel) (by decide +kernel) (by decide +kernel) (by decide) (by decide) (by decide) (by decide) (by decide) (Nat.le_of_ble_eq_true rfl) (Nat.le_of_ble_eq_true rfl) dX10_copyFrom_41 (fun H locs hP hD hS => ?_)
  have hP : va_P D vwCl (List.flatten ([cYear a0 a1 a2 C e_isThere (va_cpy e_taken a_taken 0 0 10) (va_cpy e_took a_took 0 0 6)] ++ ([cYear e0 e1 e2 C e_isThere e_taken e_took]))) H := hP
  have hD : va_D A (List.flatten ([cYear a0 a1 a2 C e_isThere (va_cpy e_taken a_taken 0 0 10) (va_cpy e_took a_took 0 0 6)] ++ ([cYear e0 e1 e2 C e_isThere e_taken e_took]))) := hD
  rw [← hQ]
  exact cRetV (e_isThere, (va_cpy e_taken a_taken 0 0 10), (va_cpy e_took a_took 0 0 6)) hx hb hr hlocks hS hP hD h dX10_copyFrom_44
abbrev vsX0_markedOnes : List Cond := Cond.code yX0_markedOnes cX0_markedOnes 3 (some .int) :: WS
abbrev rmX0_markedOnes : Room := { frames := 0, cells := 0, slots := 0, locals := 0 }
set_option maxHeartbeats 4000000 in
set_option maxRecDepth 100000 in
theorem k_X0_markedOnes (l : Launch) (D : va_G) (C : Nat → ClassId) (sz : Nat) (a0 : Nat) (a1 : Nat) (a2 : Nat) (a3 : Nat) (a4 : Nat) (a5 : Nat)  (a_count : Int32) (a_worth : Nat → Int32) (a_seems : Nat → Int32) (a_place : Nat → Int32) (a_lock : Nat → Int32) (a_marked : Nat → Int32)  {post : Int32 → Prop} (h : P_X0_markedOnes a_count a_marked post) : Met l yX0_markedOnes vsX0_markedOnes rmX0_markedOnes (cPre D C [.ref a0] sz ([cBikes a0 a1 a2 a3 a4 a5 C a_count a_worth a_seems a_place a_lock a_marked])) (cQi D (fun (r : Int32) (u : Unit) => post r ) (fun u => [cBikes a0 a1 a2 a3 a4 a5 C a_count a_worth a_seems a_place a_lock a_marked]) (va_A (List.flatten ([cBikes a0 a1 a2 a3 a4 a5 C a_count a_worth a_seems a_place a_lock a_marked])) sz)) 0 0 (va_A (List.flatten ([cBikes a0 a1 a2 a3 a4 a5 C a_count a_worth a_seems a_place a_lock a_marked])) sz) := by
  refine cStart (QA := fun A => cQi D (fun (r : Int32) (u : Unit) => post r ) (fun u => [cBikes a0 a1 a2 a3 a4 a5 C a_count a_worth a_seems a_place a_lock a_marked]) A) (cc := cX0_markedOnes) (maxL := 3) (ret := (some .int)) (by decide) (Nat.le_of_ble_eq_true rfl) ?_
  intro p e s m args below meth c A ls hx hb hr hml hown hw hlocks hname hK hN hA hP hD hS hl
  generalize hQ : MQ below _ args s 0 0 A = Q
  have hl : lv_has ls 3 [(0, .ref a0)] := hl
  obtain ⟨H, hH⟩ : ∃ H, H = s.heap := ⟨_, rfl⟩
  obtain ⟨locs, hlo⟩ : ∃ z : List Loc, z = [] := ⟨_, rfl⟩
  have hP : va_P D vwCl (List.flatten ([cBikes a0 a1 a2 a3 a4 a5 C a_count a_worth a_seems a_place a_lock a_marked])) H := by rw [hH]; exact hP
  have hS : va_S A s.heap H locs := by rw [hH, hlo]; exact hS
  rw [show W p l e rmX0_markedOnes s m args below meth c s.heap [] 0 0 Q (F0 m 0 ls []) = W p l e rmX0_markedOnes s m args below meth c H locs 0 0 Q (F0 m 0 ls []) from by rw [hH, hlo]]
  have N4 : ∀  (n4 : Nat) (x1_ : Int32) (x2_ : Int32) (H : Heap) (locs : List Loc) (ls : Array Slot), P_X0_markedOnes_4 a_count a_marked post   n4 x1_ x2_ → va_P D vwCl (List.flatten ([cBikes a0 a1 a2 a3 a4 a5 C a_count a_worth a_seems a_place a_lock a_marked])) H → va_D A (List.flatten ([cBikes a0 a1 a2 a3 a4 a5 C a_count a_worth a_seems a_place a_lock a_marked])) → va_S A s.heap H locs → lv_has ls 3 [(0, .ref a0), (1, .int x1_), (2, .int x2_)] → W p l e rmX0_markedOnes s m args below meth c H locs 0 0 Q (F0 m 4 ls []) := by
    intro n4
    induction n4 with
    | zero => intro x1_ x2_ H locs ls h hP hD hS hl; exact False.elim h
    | succ n4 ih4 =>
      intro x1_ x2_ H locs ls h hP hD hS hl
      refine lv_iload_n hx hb dX0_markedOnes_4 rfl (lv_at hl 2 rfl) ?_
      refine lv_aload_n hx hb dX0_markedOnes_5 rfl (lv_at hl 0 rfl) ?_
      refine va_get (D := D) (ci := 0) (v := .int a_count) (C := RX0) (T := TX0) (N := 6) hx hb hw inW_X0 hown hK hP 0 rfl rfl 0 (by decide) (hw _ mw_1_133) (fun _ h9 => h9) rfl dX0_markedOnes_6 ?_
      refine lv_icmp_ge (tgt := 30) hx hb dX0_markedOnes_9 (by decide) (fun c1 => ?_) (fun c1 => ?_)
      · have h := h.1 c1
        refine lv_iload_n hx hb dX0_markedOnes_30 rfl (lv_at hl 1 rfl) ?_
        rw [← hQ]
        exact cRetI (v := x1_) () hx hb hr hlocks hS hP hD h dX0_markedOnes_31
      · have h := h.2 c1
        refine lv_aload_n hx hb dX0_markedOnes_12 rfl (lv_at hl 0 rfl) ?_
        refine va_get (D := D) (ci := 0) (v := .ref a5) (C := RX0) (T := TX0) (N := 6) hx hb hw inW_X0 hown hK hP 0 rfl rfl 5 (by decide) (hw _ mw_1_151) (fun _ h9 => h9) rfl dX0_markedOnes_13 ?_
        refine lv_iload_n hx hb dX0_markedOnes_16 rfl (lv_at hl 2 rfl) ?_
        refine cZald hx hb hK hP 5 3 rfl rfl x2_.toNatClampNeg rfl h.1 dX0_markedOnes_17 ?_
        have h := h.2
        refine lv_if_eq (tgt := 24) hx hb dX0_markedOnes_18 (by decide) (fun c2 => ?_) (fun c2 => ?_)
        · have h := h.1 c2
          refine lv_iinc (v := (x2_ + 1)) (lv' := [(2, .int (x2_ + 1)), (0, .ref a0), (1, .int x1_)]) hx hb dX0_markedOnes_24 hl (k := 2) rfl rfl (by decide) rfl (fun ls hl => ?_)
          refine lv_goto (tgt := 4) hx hb dX0_markedOnes_27 (by decide) ?_
          exact ih4 x1_ (x2_ + 1) _ _ _ h hP hD hS (lv_sub hl [1, 2, 0] rfl)
        · have h := h.2 c2
          refine lv_iinc (v := (x1_ + 1)) (lv' := [(1, .int (x1_ + 1)), (0, .ref a0), (2, .int x2_)]) hx hb dX0_markedOnes_21 hl (k := 1) rfl rfl (by decide) rfl (fun ls hl => ?_)
          refine lv_iinc (v := (x2_ + 1)) (lv' := [(2, .int (x2_ + 1)), (1, .int (x1_ + 1)), (0, .ref a0)]) hx hb dX0_markedOnes_24 hl (k := 2) rfl rfl (by decide) rfl (fun ls hl => ?_)
          refine lv_goto (tgt := 4) hx hb dX0_markedOnes_27 (by decide) ?_
          exact ih4 (x1_ + 1) (x2_ + 1) _ _ _ h hP hD hS (lv_sub hl [2, 1, 0] rfl)
  refine lv_iconst (v := 0) hx hb dX0_markedOnes_0 (by decide) ?_
  refine lv_istore_n (lv' := [(1, .int 0), (0, .ref a0)]) hx hb dX0_markedOnes_1 rfl hl (by decide) rfl (fun ls hl => ?_)
  refine lv_iconst (v := 0) hx hb dX0_markedOnes_2 (by decide) ?_
  refine lv_istore_n (lv' := [(2, .int 0), (1, .int 0), (0, .ref a0)]) hx hb dX0_markedOnes_3 rfl hl (by decide) rfl (fun ls hl => ?_)
  obtain ⟨n, h⟩ := h
  exact N4  n 0 0 _ _ _ h hP hD hS (lv_sub hl [2, 1, 0] rfl)
