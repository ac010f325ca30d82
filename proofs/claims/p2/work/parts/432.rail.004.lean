abbrev vsX6_sizeOf : List Cond := Cond.code yX6_sizeOf cX6_sizeOf 2 (some .int) :: WS
abbrev rmX6_sizeOf : Room := { frames := 0, cells := 0, slots := 0, locals := 0 }
set_option maxHeartbeats 4000000 in
set_option maxRecDepth 100000 in
theorem k_X6_sizeOf (l : Launch) (D : va_G) (C : Nat → ClassId) (sz : Nat) (aS : Nat → Nat)  (sa : Nat → Nat → Int32) (sl : Nat → Nat → Int64) (p1 : Int32) {post : Int32 → Prop} (h : P_X6_sizeOf sa p1 post) : Met l yX6_sizeOf vsX6_sizeOf rmX6_sizeOf (cPre D C [.ref (aS 0), .int p1] sz (wSlots aS C sa sl)) (cQi D (fun (r : Int32) (u : Unit) => post r ) (fun u => wSlots aS C sa sl) (va_A (List.flatten (wSlots aS C sa sl)) sz)) 0 0 (va_A (List.flatten (wSlots aS C sa sl)) sz) := by
  refine cStart (QA := fun A => cQi D (fun (r : Int32) (u : Unit) => post r ) (fun u => wSlots aS C sa sl) A) (cc := cX6_sizeOf) (maxL := 2) (ret := (some .int)) (by decide) (Nat.le_of_ble_eq_true rfl) ?_
  intro p e s m args below meth c A ls hx hb hr hml hown hw hlocks hname hK hN hA hP hD hS hl
  generalize hQ : MQ below _ args s 0 0 A = Q
  have hl : lv_has ls 2 [(0, .ref (aS 0)), (1, .int p1)] := hl
  obtain ⟨H, hH⟩ : ∃ H, H = s.heap := ⟨_, rfl⟩
  obtain ⟨locs, hlo⟩ : ∃ z : List Loc, z = [] := ⟨_, rfl⟩
  have hP : va_P D vwCl (List.flatten (wSlots aS C sa sl)) H := by rw [hH]; exact hP
  have hS : va_S A s.heap H locs := by rw [hH, hlo]; exact hS
  rw [show W p l e rmX6_sizeOf s m args below meth c s.heap [] 0 0 Q (F0 m 0 ls []) = W p l e rmX6_sizeOf s m args below meth c H locs 0 0 Q (F0 m 0 ls []) from by rw [hH, hlo]]
  refine lv_aload_n hx hb dX6_sizeOf_0 rfl (lv_at hl 0 rfl) ?_
  refine va_get (D := D) (ci := 6) (v := .ref (aS 2)) (C := RX6) (T := TX6) (N := 3) hx hb hw inW_X6 hown hK hP 0 rfl rfl 1 (by decide) (hw _ mw_2_69) (fun _ h9 => h9) rfl dX6_sizeOf_1 ?_
  refine lv_iload_n hx hb dX6_sizeOf_4 rfl (lv_at hl 1 rfl) ?_
  refine cIald hx hb hK hP 2 0 rfl rfl p1.toNatClampNeg rfl h.1 dX6_sizeOf_5 ?_
  have h := h.2
  rw [← hQ]
  exact cRetI (v := (sa 0 p1.toNatClampNeg)) () hx hb hr hlocks hS hP hD h dX6_sizeOf_6
abbrev vsX4_worthTaken : List Cond := Cond.code yX4_worthTaken cX4_worthTaken 5 (some .long) :: WS
abbrev rmX4_worthTaken : Room := { frames := 0, cells := 0, slots := 0, locals := 0 }
set_option maxHeartbeats 4000000 in
set_option maxRecDepth 100000 in
theorem k_X4_worthTaken (l : Launch) (D : va_G) (C : Nat → ClassId) (sz : Nat) (aR : Nat → Nat) (e0 : Nat) (e1 : Nat) (e2 : Nat)  (rs : Nat → Int32) (ra : Nat → Nat → Int32) (e_isThere : Int32) (e_taken : Nat → Int32) (e_took : Nat → Int32)  {post : Int64 → Prop} (h : P_X4_worthTaken rs ra e_taken post) : Met l yX4_worthTaken vsX4_worthTaken rmX4_worthTaken (cPre D C [.ref (aR 0), .ref e0] sz (wRail aR C rs ra ++ ([cYear e0 e1 e2 C e_isThere e_taken e_took]))) (cQl D (fun (r : Int64) (u : Unit) => post r ) (fun u => wRail aR C rs ra ++ ([cYear e0 e1 e2 C e_isThere e_taken e_took])) (va_A (List.flatten (wRail aR C rs ra ++ ([cYear e0 e1 e2 C e_isThere e_taken e_took]))) sz)) 0 0 (va_A (List.flatten (wRail aR C rs ra ++ ([cYear e0 e1 e2 C e_isThere e_taken e_took]))) sz) := by
  refine cStart (QA := fun A => cQl D (fun (r : Int64) (u : Unit) => post r ) (fun u => wRail aR C rs ra ++ ([cYear e0 e1 e2 C e_isThere e_taken e_took])) A) (cc := cX4_worthTaken) (maxL := 5) (ret := (some .long)) (by decide) (Nat.le_of_ble_eq_true rfl) ?_
  intro p e s m args below meth c A ls hx hb hr hml hown hw hlocks hname hK hN hA hP hD hS hl
  generalize hQ : MQ below _ args s 0 0 A = Q
  have hl : lv_has ls 5 [(0, .ref (aR 0)), (1, .ref e0)] := hl
  have hn60 : (Cond.fieldLinkNest "LockRail$Rail" 60 "LockRail$Bikes" "count" "I" "LockRail").before args s = true := hN.f 17 rfl
  have hn159 : (Cond.fieldLinkNest "LockRail$Rail" 159 "LockRail$Year" "taken" "[I" "LockRail").before args s = true := hN.f 43 rfl
  have hn162 : (Cond.fieldLinkNest "LockRail$Rail" 162 "LockRail$Bikes" "worth" "[I" "LockRail").before args s = true := hN.f 22 rfl
  obtain ⟨H, hH⟩ : ∃ H, H = s.heap := ⟨_, rfl⟩
  obtain ⟨locs, hlo⟩ : ∃ z : List Loc, z = [] := ⟨_, rfl⟩
  have hP : va_P D vwCl (List.flatten (wRail aR C rs ra ++ ([cYear e0 e1 e2 C e_isThere e_taken e_took]))) H := by rw [hH]; exact hP
  have hS : va_S A s.heap H locs := by rw [hH, hlo]; exact hS
  rw [show W p l e rmX4_worthTaken s m args below meth c s.heap [] 0 0 Q (F0 m 0 ls []) = W p l e rmX4_worthTaken s m args below meth c H locs 0 0 Q (F0 m 0 ls []) from by rw [hH, hlo]]
  have N5 : ∀  (n5 : Nat) (x2_ : Int64) (x4_ : Int32) (H : Heap) (locs : List Loc) (ls : Array Slot), P_X4_worthTaken_5 rs ra e_taken post   n5 x2_ x4_ → va_P D vwCl (List.flatten (wRail aR C rs ra ++ ([cYear e0 e1 e2 C e_isThere e_taken e_took]))) H → va_D A (List.flatten (wRail aR C rs ra ++ ([cYear e0 e1 e2 C e_isThere e_taken e_took]))) → va_S A s.heap H locs → lv_has ls 5 [(0, .ref (aR 0)), (1, .ref e0), (2, .long x2_), (4, .int x4_)] → W p l e rmX4_worthTaken s m args below meth c H locs 0 0 Q (F0 m 5 ls []) := by
    intro n5
    induction n5 with
    | zero => intro x2_ x4_ H locs ls h hP hD hS hl; exact False.elim h
    | succ n5 ih5 =>
      intro x2_ x4_ H locs ls h hP hD hS hl
      refine lv_iload hx hb dX4_worthTaken_5 (lv_at hl 3 rfl) ?_
      refine lv_aload_n hx hb dX4_worthTaken_7 rfl (lv_at hl 0 rfl) ?_
      refine va_get (D := D) (ci := 4) (v := .ref (aR 7)) (C := RX4) (T := TX4) (N := 16) hx hb hw inW_X4 hown hK hP 0 rfl rfl 5 (by decide) (hw _ mw_2_1) (fun _ h9 => h9) rfl dX4_worthTaken_8 ?_
      refine va_getN (D := D) (ci := 0) (v := .int (rs 13)) (C := RX0) (T := TX0) (N := 6) hx hb hw inW_X0 hown hK hP 7 rfl rfl 0 (by decide) hn60 (fun _ h9 => h9) rfl dX4_worthTaken_11 ?_
      refine lv_icmp_ge (tgt := 46) hx hb dX4_worthTaken_14 (by decide) (fun c1 => ?_) (fun c1 => ?_)
      · have h := h.1 c1
        refine lv_lload_n hx hb dX4_worthTaken_46 rfl (lv_at hl 2 rfl) ?_
        rw [← hQ]
        exact cRetL (v := x2_) () hx hb hr hlocks hS hP hD h dX4_worthTaken_47
      · have h := h.2 c1
        refine lv_lload_n hx hb dX4_worthTaken_17 rfl (lv_at hl 2 rfl) ?_
        refine lv_aload_n hx hb dX4_worthTaken_18 rfl (lv_at hl 1 rfl) ?_
        refine va_getN (D := D) (ci := 10) (v := .ref e1) (C := RX10) (T := TX10) (N := 3) hx hb hw inW_X10 hown hK hP 22 rfl rfl 1 (by decide) hn159 (fun _ h9 => h9) rfl dX4_worthTaken_19 ?_
        refine lv_iload hx hb dX4_worthTaken_22 (lv_at hl 3 rfl) ?_
        refine cIald hx hb hK hP 23 0 rfl rfl x4_.toNatClampNeg rfl h.1 dX4_worthTaken_24 ?_
        have h := h.2
        refine lv_i2l hx hb dX4_worthTaken_25 rfl ?_
        refine lv_aload_n hx hb dX4_worthTaken_26 rfl (lv_at hl 0 rfl) ?_
        refine va_get (D := D) (ci := 4) (v := .ref (aR 7)) (C := RX4) (T := TX4) (N := 16) hx hb hw inW_X4 hown hK hP 0 rfl rfl 5 (by decide) (hw _ mw_2_1) (fun _ h9 => h9) rfl dX4_worthTaken_27 ?_
        refine va_getN (D := D) (ci := 0) (v := .ref (aR 8)) (C := RX0) (T := TX0) (N := 6) hx hb hw inW_X0 hown hK hP 7 rfl rfl 1 (by decide) hn162 (fun _ h9 => h9) rfl dX4_worthTaken_30 ?_
        refine lv_iload hx hb dX4_worthTaken_33 (lv_at hl 3 rfl) ?_
        refine cIald hx hb hK hP 8 0 rfl rfl x4_.toNatClampNeg rfl h.1 dX4_worthTaken_35 ?_
        have h := h.2
        refine lv_i2l hx hb dX4_worthTaken_36 rfl ?_
        refine lv_lmul hx hb dX4_worthTaken_37 ?_
        refine lv_ladd hx hb dX4_worthTaken_38 ?_
        refine lv_topl (fun x2 ex2 => ?_)
        have h := h x2 ex2
        refine lv_lstore_n (lv' := [(2, .long x2), (0, .ref (aR 0)), (1, .ref e0), (4, .int x4_)]) hx hb dX4_worthTaken_39 rfl hl (by decide) rfl (fun ls hl => ?_)
        refine lv_iinc (v := (x4_ + 1)) (lv' := [(4, .int (x4_ + 1)), (2, .long x2), (0, .ref (aR 0)), (1, .ref e0)]) hx hb dX4_worthTaken_40 hl (k := 3) rfl rfl (by decide) rfl (fun ls hl => ?_)
        refine lv_goto (tgt := 5) hx hb dX4_worthTaken_43 (by decide) ?_
        exact ih5 x2 (x4_ + 1) _ _ _ h hP hD hS (lv_sub hl [2, 3, 1, 0] rfl)
  refine lv_lconst (v := 0) hx hb dX4_worthTaken_0 (by decide) ?_
  refine lv_lstore_n (lv' := [(2, .long 0), (0, .ref (aR 0)), (1, .ref e0)]) hx hb dX4_worthTaken_1 rfl hl (by decide) rfl (fun ls hl => ?_)
  refine lv_iconst (v := 0) hx hb dX4_worthTaken_2 (by decide) ?_
  refine lv_istore (lv' := [(4, .int 0), (2, .long 0), (0, .ref (aR 0)), (1, .ref e0)]) hx hb dX4_worthTaken_3 hl (by decide) rfl (fun ls hl => ?_)
  obtain ⟨n, h⟩ := h
  exact N5  n 0 0 _ _ _ h hP hD hS (lv_sub hl [2, 3, 1, 0] rfl)
abbrev vsX6_rows : List Cond := Cond.code yX6_rows cX6_rows 3 (some .int) :: WS
abbrev rmX6_rows : Room := { frames := 1, cells := 0, slots := 0, locals := 21 }
set_option maxHeartbeats 4000000 in
set_option maxRecDepth 100000 in
theorem k_X6_rows (l : Launch) (D : va_G) (C : Nat → ClassId) (sz : Nat) (aS : Nat → Nat)  (sa : Nat → Nat → Int32) (sl : Nat → Nat → Int64)  {post : Int32 → Prop} (h : P_X6_rows sa post) : Met l yX6_rows vsX6_rows rmX6_rows (cPre D C [.ref (aS 0)] sz (wSlots aS C sa sl)) (cQi D (fun (r : Int32) (u : Unit) => post r ) (fun u => wSlots aS C sa sl) (va_A (List.flatten (wSlots aS C sa sl)) sz)) 0 0 (va_A (List.flatten (wSlots aS C sa sl)) sz) := by
  refine cStart (QA := fun A => cQi D (fun (r : Int32) (u : Unit) => post r ) (fun u => wSlots aS C sa sl) A) (cc := cX6_rows) (maxL := 3) (ret := (some .int)) (by decide) (Nat.le_of_ble_eq_true rfl) ?_
  intro p e s m args below meth c A ls hx hb hr hml hown hw hlocks hname hK hN hA hP hD hS hl
  generalize hQ : MQ below _ args s 0 0 A = Q
  have hl : lv_has ls 3 [(0, .ref (aS 0))] := hl
  obtain ⟨H, hH⟩ : ∃ H, H = s.heap := ⟨_, rfl⟩
  obtain ⟨locs, hlo⟩ : ∃ z : List Loc, z = [] := ⟨_, rfl⟩
  have hP : va_P D vwCl (List.flatten (wSlots aS C sa sl)) H := by rw [hH]; exact hP
  have hS : va_S A s.heap H locs := by rw [hH, hlo]; exact hS
  rw [show W p l e rmX6_rows s m args below meth c s.heap [] 0 0 Q (F0 m 0 ls []) = W p l e rmX6_rows s m args below meth c H locs 0 0 Q (F0 m 0 ls []) from by rw [hH, hlo]]
  have N4 : ∀  (n4 : Nat) (x1_ : Int32) (x2_ : Int32) (H : Heap) (locs : List Loc) (ls : Array Slot), P_X6_rows_4 sa post   n4 x1_ x2_ → va_P D vwCl (List.flatten (wSlots aS C sa sl)) H → va_D A (List.flatten (wSlots aS C sa sl)) → va_S A s.heap H locs → lv_has ls 3 [(0, .ref (aS 0)), (1, .int x1_), (2, .int x2_)] → W p l e rmX6_rows s m args below meth c H locs 0 0 Q (F0 m 4 ls []) := by
    intro n4
    induction n4 with
    | zero => intro x1_ x2_ H locs ls h hP hD hS hl; exact False.elim h
    | succ n4 ih4 =>
      intro x1_ x2_ H locs ls h hP hD hS hl
      refine lv_iload_n hx hb dX6_rows_4 rfl (lv_at hl 2 rfl) ?_
      refine lv_iconst (v := 4) hx hb dX6_rows_5 (by decide) ?_
      refine lv_icmp_ge (tgt := 26) hx hb dX6_rows_6 (by decide) (fun c1 => ?_) (fun c1 => ?_)
      · have h := h.1 c1
        refine lv_iload_n hx hb dX6_rows_26 rfl (lv_at hl 1 rfl) ?_
        rw [← hQ]
        exact cRetI (v := x1_) () hx hb hr hlocks hS hP hD h dX6_rows_27
      · have h := h.2 c1
        refine lv_aload_n hx hb dX6_rows_9 rfl (lv_at hl 0 rfl) ?_
        refine lv_iload_n hx hb dX6_rows_10 rfl (lv_at hl 2 rfl) ?_
        refine cGoI (wo := fun u => wSlots aS C sa sl) (cRunV (As := [.int x2_]) (rest := []) ⟨hx, hb, hml, hown, hw⟩ hK hN hP hD [0] rfl rfl (k_X6_hasRow l D C _ aS  sa sl x2_ h) (cwV 1 hw (goodV mw_5_231 mw_5_187 mw_s97 mw_1_10 mw_5_188) rfl rfl rfl (by decide +kernel) ⟨Nat.le_of_ble_eq_true rfl, Nat.le_of_ble_eq_true rfl⟩) rfl rfl rfl hl.1 rfl (Nat.le_of_ble_eq_true rfl) dX6_rows_11 ⟨Nat.zero_le _, Nat.zero_le _⟩) hP hD hS hA [0] [] [0] rfl rfl rfl (by decide) rfl (fun _ => rfl) (fun r2 u H locs h hP hD hS => ?_)
        have hP : va_P D vwCl (List.flatten (wSlots aS C sa sl)) H := hP
        have hD : va_D A (List.flatten (wSlots aS C sa sl)) := hD
        refine lv_if_eq (tgt := 20) hx hb dX6_rows_14 (by decide) (fun c3 => ?_) (fun c3 => ?_)
        · have h := h.1 c3
          refine lv_iinc (v := (x2_ + 1)) (lv' := [(2, .int (x2_ + 1)), (0, .ref (aS 0)), (1, .int x1_)]) hx hb dX6_rows_20 hl (k := 2) rfl rfl (by decide) rfl (fun ls hl => ?_)
          refine lv_goto (tgt := 4) hx hb dX6_rows_23 (by decide) ?_
          exact ih4 x1_ (x2_ + 1) _ _ _ h hP hD hS (lv_sub hl [1, 2, 0] rfl)
        · have h := h.2 c3
          refine lv_iinc (v := (x1_ + 1)) (lv' := [(1, .int (x1_ + 1)), (0, .ref (aS 0)), (2, .int x2_)]) hx hb dX6_rows_17 hl (k := 1) rfl rfl (by decide) rfl (fun ls hl => ?_)
          refine lv_iinc (v := (x2_ + 1)) (lv' := [(2, .int (x2_ + 1)), (1, .int (x1_ + 1)), (0, .ref (aS 0))]) hx hb dX6_rows_20 hl (k := 2) rfl rfl (by decide) rfl (fun ls hl => ?_)
          refine lv_goto (tgt := 4) hx hb dX6_rows_23 (by decide) ?_
          exact ih4 (x1_ + 1) (x2_ + 1) _ _ _ h hP hD hS (lv_sub hl [2, 1, 0] rfl)
  refine lv_iconst (v := 0) hx hb dX6_rows_0 (by decide) ?_
  refine lv_istore_n (lv' := [(1, .int 0), (0, .ref (aS 0))]) hx hb dX6_rows_1 rfl hl (by decide) rfl (fun ls hl => ?_)
  refine lv_iconst (v := 0) hx hb dX6_rows_2 (by decide) ?_
  refine lv_istore_n (lv' := [(2, .int 0), (1, .int 0), (0, .ref (aS 0))]) hx hb dX6_rows_3 rfl hl (by decide) rfl (fun ls hl => ?_)
  obtain ⟨n, h⟩ := h
  exact N4  n 0 0 _ _ _ h hP hD hS (lv_sub hl [2, 1, 0] rfl)
abbrev vsX6_make : List Cond := Cond.code yX6_make cX6_make 5 none :: WS
abbrev rmX6_make : Room := { frames := 0, cells := 0, slots := 0, locals := 0 }
set_option maxHeartbeats 4000000 in
set_option maxRecDepth 100000 in
theorem k_X6_make (l : Launch) (D : va_G) (C : Nat → ClassId) (sz : Nat) (aS : Nat → Nat)  (sa : Nat → Nat → Int32) (sl : Nat → Nat → Int64) (p1 : Int32) (p2 : Int32) (p3 : Int32) {post : (Nat → Nat → Int32) → (Nat → Nat → Int64) → Prop} (h : P_X6_make sa sl p1 p2 p3 post) : Met l yX6_make vsX6_make rmX6_make (cPre D C [.ref (aS 0), .int p1, .int p2, .int p3] sz (wSlots aS C sa sl)) (cQv D (fun (u : (Nat → Nat → Int32) × (Nat → Nat → Int64)) => post u.1 u.2) (fun u => wSlots aS C u.1 u.2) (va_A (List.flatten (wSlots aS C sa sl)) sz)) 0 0 (va_A (List.flatten (wSlots aS C sa sl)) sz) := by
  refine cStart (QA := fun A => cQv D (fun (u : (Nat → Nat → Int32) × (Nat → Nat → Int64)) => post u.1 u.2) (fun u => wSlots aS C u.1 u.2) A) (cc := cX6_make) (maxL := 5) (ret := none) (by decide) (Nat.le_of_ble_eq_true rfl) ?_
  intro p e s m args below meth c A ls hx hb hr hml hown hw hlocks hname hK hN hA hP hD hS hl
  generalize hQ : MQ below _ args s 0 0 A = Q
  have hl : lv_has ls 5 [(0, .ref (aS 0)), (1, .int p1), (2, .int p2), (3, .int p3)] := hl
  obtain ⟨H, hH⟩ : ∃ H, H = s.heap := ⟨_, rfl⟩
  obtain ⟨locs, hlo⟩ : ∃ z : List Loc, z = [] := ⟨_, rfl⟩
  have hP : va_P D vwCl (List.flatten (wSlots aS C sa sl)) H := by rw [hH]; exact hP
  have hS : va_S A s.heap H locs := by rw [hH, hlo]; exact hS
  rw [show W p l e rmX6_make s m args below meth c s.heap [] 0 0 Q (F0 m 0 ls []) = W p l e rmX6_make s m args below meth c H locs 0 0 Q (F0 m 0 ls []) from by rw [hH, hlo]]
  have N19 : ∀ (sa : Nat → Nat → Int32) (n19 : Nat) (x4_ : Int32) (sl : Nat → Nat → Int64) (H : Heap) (locs : List Loc) (ls : Array Slot), P_X6_make_19 p1 p2 p3 post  sa n19 x4_ sl → va_P D vwCl (List.flatten (wSlots aS C sa sl)) H → va_D A (List.flatten (wSlots aS C sa sl)) → va_S A s.heap H locs → lv_has ls 5 [(0, .ref (aS 0)), (1, .int p1), (3, .int p3), (4, .int x4_)] → W p l e rmX6_make s m args below meth c H locs 0 0 Q (F0 m 19 ls []) := by
    intro sa
    intro n19
    induction n19 with
    | zero => intro x4_ sl H locs ls h hP hD hS hl; exact False.elim h
    | succ n19 ih19 =>
      intro x4_ sl H locs ls h hP hD hS hl
      refine lv_iload hx hb dX6_make_19 (lv_at hl 3 rfl) ?_
      refine lv_iload_n hx hb dX6_make_21 rfl (lv_at hl 2 rfl) ?_
      refine lv_icmp_ge (tgt := 44) hx hb dX6_make_22 (by decide) (fun c1 => ?_) (fun c1 => ?_)
      · have h := h.1 c1
        rw [← hQ]
        exact cRetV (sa, sl) hx hb hr hlocks hS hP hD h dX6_make_44
      · have h := h.2 c1
        refine lv_aload_n hx hb dX6_make_25 rfl (lv_at hl 0 rfl) ?_
        refine va_get (D := D) (ci := 6) (v := .ref (aS 1)) (C := RX6) (T := TX6) (N := 3) hx hb hw inW_X6 hown hK hP 0 rfl rfl 0 (by decide) (hw _ mw_2_68) (fun _ h9 => h9) rfl dX6_make_26 ?_
        refine lv_iload_n hx hb dX6_make_29 rfl (lv_at hl 1 rfl) ?_
        refine lv_bipush (v := 60) hx hb dX6_make_30 (by decide) ?_
        refine lv_imul hx hb dX6_make_32 ?_
        refine lv_iload hx hb dX6_make_33 (lv_at hl 3 rfl) ?_
        refine lv_iadd hx hb dX6_make_35 ?_
        refine lv_lconst (v := 0) hx hb dX6_make_36 (by decide) ?_
        refine cLast hx hb hK hP hD hS 1 1 rfl rfl (((p1 * 60) + x4_).toNatClampNeg) rfl h.1 dX6_make_37 (fun H locs hP hD hS => ?_)
        have h := h.2
        refine lv_iinc (v := (x4_ + 1)) (lv' := [(4, .int (x4_ + 1)), (0, .ref (aS 0)), (1, .int p1), (3, .int p3)]) hx hb dX6_make_38 hl (k := 3) rfl rfl (by decide) rfl (fun ls hl => ?_)
        refine lv_goto (tgt := 19) hx hb dX6_make_41 (by decide) ?_
        have hP : va_P D vwCl (List.flatten (wSlots aS C sa (va_up sl 0 (vp_updL (sl 0) (((p1 * 60) + x4_).toNatClampNeg) 0)))) H := hP
        have hD : va_D A (List.flatten (wSlots aS C sa (va_up sl 0 (vp_updL (sl 0) (((p1 * 60) + x4_).toNatClampNeg) 0)))) := hD
        exact ih19 (x4_ + 1) (va_up sl 0 (vp_updL (sl 0) (((p1 * 60) + x4_).toNatClampNeg) 0)) _ _ _ h hP hD hS (lv_sub hl [1, 2, 3, 0] rfl)
  refine lv_aload_n hx hb dX6_make_0 rfl (lv_at hl 0 rfl) ?_
  refine va_get (D := D) (ci := 6) (v := .ref (aS 3)) (C := RX6) (T := TX6) (N := 3) hx hb hw inW_X6 hown hK hP 0 rfl rfl 2 (by decide) (hw _ mw_2_70) (fun _ h9 => h9) rfl dX6_make_1 ?_
  refine lv_iload_n hx hb dX6_make_4 rfl (lv_at hl 1 rfl) ?_
  refine lv_iload_n hx hb dX6_make_5 rfl (lv_at hl 2 rfl) ?_
  refine lv_iconst (v := 1) hx hb dX6_make_6 (by decide) ?_
  refine lv_iadd hx hb dX6_make_7 ?_
  refine cIast hx hb hK hP hD hS 3 0 rfl rfl p1.toNatClampNeg rfl h.1 dX6_make_8 (fun H locs hP hD hS => ?_)
  have h := h.2
  refine lv_aload_n hx hb dX6_make_9 rfl (lv_at hl 0 rfl) ?_
  refine va_get (D := D) (ci := 6) (v := .ref (aS 2)) (C := RX6) (T := TX6) (N := 3) hx hb hw inW_X6 hown hK hP 0 rfl rfl 1 (by decide) (hw _ mw_2_69) (fun _ h9 => h9) rfl dX6_make_10 ?_
  refine lv_iload_n hx hb dX6_make_13 rfl (lv_at hl 1 rfl) ?_
  refine lv_iload_n hx hb dX6_make_14 rfl (lv_at hl 3 rfl) ?_
  refine cIast hx hb hK hP hD hS 2 0 rfl rfl p1.toNatClampNeg rfl h.1 dX6_make_15 (fun H locs hP hD hS => ?_)
  have h := h.2
  refine lv_iconst (v := 0) hx hb dX6_make_16 (by decide) ?_
  refine lv_istore (lv' := [(4, .int 0), (0, .ref (aS 0)), (1, .int p1), (2, .int p2), (3, .int p3)]) hx hb dX6_make_17 hl (by decide) rfl (fun ls hl => ?_)
  have hP : va_P D vwCl (List.flatten (wSlots aS C (va_up (va_up sa 0 (upd (sa 0) p1.toNatClampNeg p3)) 1 (upd (sa 1) p1.toNatClampNeg (p2 + 1))) sl)) H := hP
  have hD : va_D A (List.flatten (wSlots aS C (va_up (va_up sa 0 (upd (sa 0) p1.toNatClampNeg p3)) 1 (upd (sa 1) p1.toNatClampNeg (p2 + 1))) sl)) := hD
  obtain ⟨n, h⟩ := h
  exact N19 (va_up (va_up sa 0 (upd (sa 0) p1.toNatClampNeg p3)) 1 (upd (sa 1) p1.toNatClampNeg (p2 + 1))) n 0 sl _ _ _ h hP hD hS (lv_sub hl [1, 2, 4, 0] rfl)
abbrev vsX6_cut : List Cond := Cond.code yX6_cut cX6_cut 3 (some .long) :: WS
abbrev rmX6_cut : Room := { frames := 0, cells := 0, slots := 0, locals := 0 }
set_option maxHeartbeats 4000000 in
set_option maxRecDepth 100000 in
theorem k_X6_cut (l : Launch) (D : va_G) (C : Nat → ClassId) (sz : Nat)    (p1 : Int64) (p2 : Int32) {post : Int64 → Prop} (h : P_X6_cut p1 p2 post) : Met l yX6_cut vsX6_cut rmX6_cut (cPre D C [.long p1, .int p2] sz (([] : List va_W))) (cQl D (fun (r : Int64) (u : Unit) => post r ) (fun u => ([] : List va_W)) (va_A (List.flatten (([] : List va_W))) sz)) 0 0 (va_A (List.flatten (([] : List va_W))) sz) := by
  refine cStart (QA := fun A => cQl D (fun (r : Int64) (u : Unit) => post r ) (fun u => ([] : List va_W)) A) (cc := cX6_cut) (maxL := 3) (ret := (some .long)) (by decide) (Nat.le_of_ble_eq_true rfl) ?_
  intro p e s m args below meth c A ls hx hb hr hml hown hw hlocks hname hK hN hA hP hD hS hl
  generalize hQ : MQ below _ args s 0 0 A = Q
  have hl : lv_has ls 3 [(0, .long p1), (2, .int p2)] := hl
  obtain ⟨H, hH⟩ : ∃ H, H = s.heap := ⟨_, rfl⟩
  obtain ⟨locs, hlo⟩ : ∃ z : List Loc, z = [] := ⟨_, rfl⟩
  have hP : va_P D vwCl (List.flatten (([] : List va_W))) H := by rw [hH]; exact hP
  have hS : va_S A s.heap H locs := by rw [hH, hlo]; exact hS
  rw [show W p l e rmX6_cut s m args below meth c s.heap [] 0 0 Q (F0 m 0 ls []) = W p l e rmX6_cut s m args below meth c H locs 0 0 Q (F0 m 0 ls []) from by rw [hH, hlo]]
  refine lv_iload_n hx hb dX6_cut_0 rfl (lv_at hl 1 rfl) ?_
  by_cases c1_0 : p2 = 0
  · refine lv_tableIn (tgt := 28) hx hb dX6_cut_1 (by rw [c1_0] <;> decide) (by rw [c1_0] <;> decide) (by rw [c1_0] <;> rfl) (by decide) ?_
    have h := h.1 c1_0
    refine lv_lload_n hx hb dX6_cut_28 rfl (lv_at hl 0 rfl) ?_
    refine lv_l2i hx hb dX6_cut_29 rfl ?_
    refine lv_i2b hx hb dX6_cut_30 rfl ?_
    refine lv_i2l hx hb dX6_cut_31 rfl ?_
    rw [← hQ]
    exact cRetL (v := p1.toInt32.toInt8.toInt32.toInt64) () hx hb hr hlocks hS hP hD h dX6_cut_32
  by_cases c1_1 : p2 = 1
  · refine lv_tableIn (tgt := 33) hx hb dX6_cut_1 (by rw [c1_1] <;> decide) (by rw [c1_1] <;> decide) (by rw [c1_1] <;> rfl) (by decide) ?_
    have h := h.2.1 c1_1
    refine lv_lload_n hx hb dX6_cut_33 rfl (lv_at hl 0 rfl) ?_
    refine lv_l2i hx hb dX6_cut_34 rfl ?_
    refine lv_i2s hx hb dX6_cut_35 rfl ?_
    refine lv_i2l hx hb dX6_cut_36 rfl ?_
    rw [← hQ]
    exact cRetL (v := p1.toInt32.toInt16.toInt32.toInt64) () hx hb hr hlocks hS hP hD h dX6_cut_37
  by_cases c1_2 : p2 = 2
  · refine lv_tableIn (tgt := 38) hx hb dX6_cut_1 (by rw [c1_2] <;> decide) (by rw [c1_2] <;> decide) (by rw [c1_2] <;> rfl) (by decide) ?_
    have h := h.2.2.1 c1_2
    refine lv_lload_n hx hb dX6_cut_38 rfl (lv_at hl 0 rfl) ?_
    refine lv_l2i hx hb dX6_cut_39 rfl ?_
    refine lv_i2l hx hb dX6_cut_40 rfl ?_
    rw [← hQ]
    exact cRetL (v := p1.toInt32.toInt64) () hx hb hr hlocks hS hP hD h dX6_cut_41
  refine lv_tableOut (tgt := 42) hx hb dX6_cut_1 (sw_out3 c1_0 c1_1 c1_2) (by decide) ?_
  have h := h.2.2.2 c1_0 c1_1 c1_2
  refine lv_lload_n hx hb dX6_cut_42 rfl (lv_at hl 0 rfl) ?_
  rw [← hQ]
  exact cRetL (v := p1) () hx hb hr hlocks hS hP hD h dX6_cut_43
