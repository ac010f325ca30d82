abbrev vsX10_begin : List Cond := Cond.code yX10_begin cX10_begin 2 none :: WS
abbrev rmX10_begin : Room := { frames := 0, cells := 0, slots := 0, locals := 0 }
set_option maxHeartbeats 4000000 in
set_option maxRecDepth 100000 in
theorem k_X10_begin (l : Launch) (D : va_G) (C : Nat → ClassId) (sz : Nat) (a0 : Nat) (a1 : Nat) (a2 : Nat)  (a_isThere : Int32) (a_taken : Nat → Int32) (a_took : Nat → Int32)  {post : (Int32) → (Nat → Int32) → (Nat → Int32) → Prop} (h : P_X10_begin a_isThere a_taken a_took post) : Met l yX10_begin vsX10_begin rmX10_begin (cPre D C [.ref a0] sz ([cYear a0 a1 a2 C a_isThere a_taken a_took])) (cQv D (fun (u : (Int32) × (Nat → Int32) × (Nat → Int32)) => post u.1 u.2.1 u.2.2) (fun u => [cYear a0 a1 a2 C u.1 u.2.1 u.2.2]) (va_A (List.flatten ([cYear a0 a1 a2 C a_isThere a_taken a_took])) sz)) 0 0 (va_A (List.flatten ([cYear a0 a1 a2 C a_isThere a_taken a_took])) sz) := by
  refine cStart (QA := fun A => cQv D (fun (u : (Int32) × (Nat → Int32) × (Nat → Int32)) => post u.1 u.2.1 u.2.2) (fun u => [cYear a0 a1 a2 C u.1 u.2.1 u.2.2]) A) (cc := cX10_begin) (maxL := 2) (ret := none) (by decide) (Nat.le_of_ble_eq_true rfl) ?_
  intro p e s m args below meth c A ls hx hb hr hml hown hw hlocks hname hK hN hA hP hD hS hl
  generalize hQ : MQ below _ args s 0 0 A = Q
  have hl : lv_has ls 2 [(0, .ref a0)] := hl
  obtain ⟨H, hH⟩ : ∃ H, H = s.heap := ⟨_, rfl⟩
  obtain ⟨locs, hlo⟩ : ∃ z : List Loc, z = [] := ⟨_, rfl⟩
  have hP : va_P D vwCl (List.flatten ([cYear a0 a1 a2 C a_isThere a_taken a_took])) H := by rw [hH]; exact hP
  have hS : va_S A s.heap H locs := by rw [hH, hlo]; exact hS
  rw [show W p l e rmX10_begin s m args below meth c s.heap [] 0 0 Q (F0 m 0 ls []) = W p l e rmX10_begin s m args below meth c H locs 0 0 Q (F0 m 0 ls []) from by rw [hH, hlo]]
  have N28 : ∀ (a_isThere : Int32) (a_taken : Nat → Int32) (n28 : Nat) (x1_ : Int32) (a_took : Nat → Int32) (H : Heap) (locs : List Loc) (ls : Array Slot), P_X10_begin_28  post  a_isThere a_taken n28 x1_ a_took → va_P D vwCl (List.flatten ([cYear a0 a1 a2 C a_isThere a_taken a_took])) H → va_D A (List.flatten ([cYear a0 a1 a2 C a_isThere a_taken a_took])) → va_S A s.heap H locs → lv_has ls 2 [(0, .ref a0), (1, .int x1_)] → W p l e rmX10_begin s m args below meth c H locs 0 0 Q (F0 m 28 ls []) := by
    intro a_isThere a_taken
    intro n28
    induction n28 with
    | zero => intro x1_ a_took H locs ls h hP hD hS hl; exact False.elim h
    | succ n28 ih28 =>
      intro x1_ a_took H locs ls h hP hD hS hl
      refine lv_iload_n hx hb dX10_begin_28 rfl (lv_at hl 1 rfl) ?_
      refine lv_bipush (v := 6) hx hb dX10_begin_29 (by decide) ?_
      refine lv_icmp_ge (tgt := 47) hx hb dX10_begin_31 (by decide) (fun c1 => ?_) (fun c1 => ?_)
      · have h := h.1 c1
        rw [← hQ]
        exact cRetV (a_isThere, a_taken, a_took) hx hb hr hlocks hS hP hD h dX10_begin_47
      · have h := h.2 c1
        refine lv_aload_n hx hb dX10_begin_34 rfl (lv_at hl 0 rfl) ?_
        refine va_get (D := D) (ci := 10) (v := .ref a2) (C := RX10) (T := TX10) (N := 3) hx hb hw inW_X10 hown hK hP 0 rfl rfl 2 (by decide) (hw _ mw_1_215) (fun _ h9 => h9) rfl dX10_begin_35 ?_
        refine lv_iload_n hx hb dX10_begin_38 rfl (lv_at hl 1 rfl) ?_
        refine lv_iconst (v := 0) hx hb dX10_begin_39 (by decide) ?_
        refine cIast hx hb hK hP hD hS 2 0 rfl rfl x1_.toNatClampNeg rfl h.1 dX10_begin_40 (fun H locs hP hD hS => ?_)
        have h := h.2
        refine lv_iinc (v := (x1_ + 1)) (lv' := [(1, .int (x1_ + 1)), (0, .ref a0)]) hx hb dX10_begin_41 hl (k := 1) rfl rfl (by decide) rfl (fun ls hl => ?_)
        refine lv_goto (tgt := 28) hx hb dX10_begin_44 (by decide) ?_
        have hP : va_P D vwCl (List.flatten ([cYear a0 a1 a2 C a_isThere a_taken (upd a_took x1_.toNatClampNeg 0)])) H := hP
        have hD : va_D A (List.flatten ([cYear a0 a1 a2 C a_isThere a_taken (upd a_took x1_.toNatClampNeg 0)])) := hD
        exact ih28 (x1_ + 1) (upd a_took x1_.toNatClampNeg 0) _ _ _ h hP hD hS (lv_sub hl [1, 0] rfl)
  have N7 : ∀ (a_isThere : Int32) (a_took : Nat → Int32) (n7 : Nat) (x1_ : Int32) (a_taken : Nat → Int32) (H : Heap) (locs : List Loc) (ls : Array Slot), P_X10_begin_7  post (fun (a_isThere : Int32) (a_taken : Nat → Int32) (x1_ : Int32) (a_took : Nat → Int32) => ∃ n : Nat, P_X10_begin_28  post  a_isThere a_taken n x1_ a_took) a_isThere a_took n7 x1_ a_taken → va_P D vwCl (List.flatten ([cYear a0 a1 a2 C a_isThere a_taken a_took])) H → va_D A (List.flatten ([cYear a0 a1 a2 C a_isThere a_taken a_took])) → va_S A s.heap H locs → lv_has ls 2 [(0, .ref a0), (1, .int x1_)] → W p l e rmX10_begin s m args below meth c H locs 0 0 Q (F0 m 7 ls []) := by
    intro a_isThere a_took
    intro n7
    induction n7 with
    | zero => intro x1_ a_taken H locs ls h hP hD hS hl; exact False.elim h
    | succ n7 ih7 =>
      intro x1_ a_taken H locs ls h hP hD hS hl
      refine lv_iload_n hx hb dX10_begin_7 rfl (lv_at hl 1 rfl) ?_
      refine lv_bipush (v := 10) hx hb dX10_begin_8 (by decide) ?_
      refine lv_icmp_ge (tgt := 26) hx hb dX10_begin_10 (by decide) (fun c2 => ?_) (fun c2 => ?_)
      · have h := h.1 c2
        refine lv_iconst (v := 0) hx hb dX10_begin_26 (by decide) ?_
        refine lv_istore_n (lv' := [(1, .int 0), (0, .ref a0)]) hx hb dX10_begin_27 rfl hl (by decide) rfl (fun ls hl => ?_)
        obtain ⟨n, h⟩ := h
        exact N28 a_isThere a_taken n 0 a_took _ _ _ h hP hD hS (lv_sub hl [1, 0] rfl)
      · have h := h.2 c2
        refine lv_aload_n hx hb dX10_begin_13 rfl (lv_at hl 0 rfl) ?_
        refine va_get (D := D) (ci := 10) (v := .ref a1) (C := RX10) (T := TX10) (N := 3) hx hb hw inW_X10 hown hK hP 0 rfl rfl 1 (by decide) (hw _ mw_1_211) (fun _ h9 => h9) rfl dX10_begin_14 ?_
        refine lv_iload_n hx hb dX10_begin_17 rfl (lv_at hl 1 rfl) ?_
        refine lv_iconst (v := 0) hx hb dX10_begin_18 (by decide) ?_
        refine cIast hx hb hK hP hD hS 1 0 rfl rfl x1_.toNatClampNeg rfl h.1 dX10_begin_19 (fun H locs hP hD hS => ?_)
        have h := h.2
        refine lv_iinc (v := (x1_ + 1)) (lv' := [(1, .int (x1_ + 1)), (0, .ref a0)]) hx hb dX10_begin_20 hl (k := 1) rfl rfl (by decide) rfl (fun ls hl => ?_)
        refine lv_goto (tgt := 7) hx hb dX10_begin_23 (by decide) ?_
        have hP : va_P D vwCl (List.flatten ([cYear a0 a1 a2 C a_isThere (upd a_taken x1_.toNatClampNeg 0) a_took])) H := hP
        have hD : va_D A (List.flatten ([cYear a0 a1 a2 C a_isThere (upd a_taken x1_.toNatClampNeg 0) a_took])) := hD
        exact ih7 (x1_ + 1) (upd a_taken x1_.toNatClampNeg 0) _ _ _ h hP hD hS (lv_sub hl [1, 0] rfl)
  refine lv_aload_n hx hb dX10_begin_0 rfl (lv_at hl 0 rfl) ?_
  refine lv_iconst (v := 1) hx hb dX10_begin_1 (by decide) ?_
  refine va_put (D := D) (ci := 10) (v := .int 1) (ty := .boolean) (C := RX10) (T := TX10) (N := 3) hx hb hw inW_X10 tyX10 tyX10_ok nmX10 hown hK hP hD hS 0 rfl rfl 0 (by decide) (hw _ mw_1_208) (fun _ h9 => h9) rfl (by decide +kernel) rfl rfl (Nat.le_of_ble_eq_true rfl) dX10_begin_2 (fun H locs hP hD hS => ?_)
  refine lv_iconst (v := 0) hx hb dX10_begin_5 (by decide) ?_
  refine lv_istore_n (lv' := [(1, .int 0), (0, .ref a0)]) hx hb dX10_begin_6 rfl hl (by decide) rfl (fun ls hl => ?_)
  have hP : va_P D vwCl (List.flatten ([cYear a0 a1 a2 C 1 a_taken a_took])) H := hP
  have hD : va_D A (List.flatten ([cYear a0 a1 a2 C 1 a_taken a_took])) := hD
  obtain ⟨n, h⟩ := h
  exact N7 1 a_took n 0 a_taken _ _ _ h hP hD hS (lv_sub hl [1, 0] rfl)

