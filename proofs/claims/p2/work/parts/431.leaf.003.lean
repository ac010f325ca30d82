abbrev vsX7_wipe : List Cond := Cond.code yX7_wipe cX7_wipe 2 none :: WS
abbrev rmX7_wipe : Room := { frames := 0, cells := 0, slots := 0, locals := 0 }
set_option maxHeartbeats 4000000 in
set_option maxRecDepth 100000 in
theorem k_X7_wipe (l : Launch) (D : va_G) (C : Nat → ClassId) (sz : Nat) (a0 : Nat) (a1 : Nat) (a2 : Nat) (a3 : Nat) (a4 : Nat)  (a_size : Int32) (a_states : Nat → Int32) (a_parts : Nat → Int64) (a_slotOf : Nat → Int32) (a_table : Nat → Int32)  {post : (Int32) → (Nat → Int32) → Prop} (h : P_X7_wipe a_size a_slotOf a_table post) : Met l yX7_wipe vsX7_wipe rmX7_wipe (cPre D C [.ref a0] sz ([cSpread a0 a1 a2 a3 a4 C a_size a_states a_parts a_slotOf a_table])) (cQv D (fun (u : (Int32) × (Nat → Int32)) => post u.1 u.2) (fun u => [cSpread a0 a1 a2 a3 a4 C u.1 a_states a_parts a_slotOf u.2]) (va_A (List.flatten ([cSpread a0 a1 a2 a3 a4 C a_size a_states a_parts a_slotOf a_table])) sz)) 0 0 (va_A (List.flatten ([cSpread a0 a1 a2 a3 a4 C a_size a_states a_parts a_slotOf a_table])) sz) := by
  refine cStart (QA := fun A => cQv D (fun (u : (Int32) × (Nat → Int32)) => post u.1 u.2) (fun u => [cSpread a0 a1 a2 a3 a4 C u.1 a_states a_parts a_slotOf u.2]) A) (cc := cX7_wipe) (maxL := 2) (ret := none) (by decide) (Nat.le_of_ble_eq_true rfl) ?_
  intro p e s m args below meth c A ls hx hb hr hml hown hw hlocks hname hK hN hA hP hD hS hl
  generalize hQ : MQ below _ args s 0 0 A = Q
  have hl : lv_has ls 2 [(0, .ref a0)] := hl
  obtain ⟨H, hH⟩ : ∃ H, H = s.heap := ⟨_, rfl⟩
  obtain ⟨locs, hlo⟩ : ∃ z : List Loc, z = [] := ⟨_, rfl⟩
  have hP : va_P D vwCl (List.flatten ([cSpread a0 a1 a2 a3 a4 C a_size a_states a_parts a_slotOf a_table])) H := by rw [hH]; exact hP
  have hS : va_S A s.heap H locs := by rw [hH, hlo]; exact hS
  rw [show W p l e rmX7_wipe s m args below meth c s.heap [] 0 0 Q (F0 m 0 ls []) = W p l e rmX7_wipe s m args below meth c H locs 0 0 Q (F0 m 0 ls []) from by rw [hH, hlo]]
  have N2 : ∀ (a_size : Int32) (n2 : Nat) (x1_ : Int32) (a_table : Nat → Int32) (H : Heap) (locs : List Loc) (ls : Array Slot), P_X7_wipe_2 a_slotOf post  a_size n2 x1_ a_table → va_P D vwCl (List.flatten ([cSpread a0 a1 a2 a3 a4 C a_size a_states a_parts a_slotOf a_table])) H → va_D A (List.flatten ([cSpread a0 a1 a2 a3 a4 C a_size a_states a_parts a_slotOf a_table])) → va_S A s.heap H locs → lv_has ls 2 [(0, .ref a0), (1, .int x1_)] → W p l e rmX7_wipe s m args below meth c H locs 0 0 Q (F0 m 2 ls []) := by
    intro a_size
    intro n2
    induction n2 with
    | zero => intro x1_ a_table H locs ls h hP hD hS hl; exact False.elim h
    | succ n2 ih2 =>
      intro x1_ a_table H locs ls h hP hD hS hl
      refine lv_iload_n hx hb dX7_wipe_2 rfl (lv_at hl 1 rfl) ?_
      refine lv_aload_n hx hb dX7_wipe_3 rfl (lv_at hl 0 rfl) ?_
      refine va_get (D := D) (ci := 7) (v := .int a_size) (C := RX7) (T := TX7) (N := 5) hx hb hw inW_X7 hown hK hP 0 rfl rfl 0 (by decide) (hw _ mw_2_91) (fun _ h9 => h9) rfl dX7_wipe_4 ?_
      refine lv_icmp_ge (tgt := 28) hx hb dX7_wipe_7 (by decide) (fun c1 => ?_) (fun c1 => ?_)
      · have h := h.1 c1
        refine lv_aload_n hx hb dX7_wipe_28 rfl (lv_at hl 0 rfl) ?_
        refine lv_iconst (v := 0) hx hb dX7_wipe_29 (by decide) ?_
        refine va_put (D := D) (ci := 7) (v := .int 0) (ty := .int) (C := RX7) (T := TX7) (N := 5) hx hb hw inW_X7 tyX7 tyX7_ok nmX7 hown hK hP hD hS 0 rfl rfl 0 (by decide) (hw _ mw_2_91) (fun _ h9 => h9) rfl (by decide +kernel) rfl rfl (Nat.le_of_ble_eq_true rfl) dX7_wipe_30 (fun H locs hP hD hS => ?_)
        have hP : va_P D vwCl (List.flatten ([cSpread a0 a1 a2 a3 a4 C 0 a_states a_parts a_slotOf a_table])) H := hP
        have hD : va_D A (List.flatten ([cSpread a0 a1 a2 a3 a4 C 0 a_states a_parts a_slotOf a_table])) := hD
        rw [← hQ]
        exact cRetV (0, a_table) hx hb hr hlocks hS hP hD h dX7_wipe_33
      · have h := h.2 c1
        refine lv_aload_n hx hb dX7_wipe_10 rfl (lv_at hl 0 rfl) ?_
        refine va_get (D := D) (ci := 7) (v := .ref a4) (C := RX7) (T := TX7) (N := 5) hx hb hw inW_X7 hown hK hP 0 rfl rfl 4 (by decide) (hw _ mw_2_98) (fun _ h9 => h9) rfl dX7_wipe_11 ?_
        refine lv_aload_n hx hb dX7_wipe_14 rfl (lv_at hl 0 rfl) ?_
        refine va_get (D := D) (ci := 7) (v := .ref a3) (C := RX7) (T := TX7) (N := 5) hx hb hw inW_X7 hown hK hP 0 rfl rfl 3 (by decide) (hw _ mw_2_97) (fun _ h9 => h9) rfl dX7_wipe_15 ?_
        refine lv_iload_n hx hb dX7_wipe_18 rfl (lv_at hl 1 rfl) ?_
        refine cIald hx hb hK hP 3 0 rfl rfl x1_.toNatClampNeg rfl h.1 dX7_wipe_19 ?_
        have h := h.2
        refine lv_iconst (v := 0) hx hb dX7_wipe_20 (by decide) ?_
        refine cIast hx hb hK hP hD hS 4 0 rfl rfl ((a_slotOf x1_.toNatClampNeg).toNatClampNeg) rfl h.1 dX7_wipe_21 (fun H locs hP hD hS => ?_)
        have h := h.2
        refine lv_iinc (v := (x1_ + 1)) (lv' := [(1, .int (x1_ + 1)), (0, .ref a0)]) hx hb dX7_wipe_22 hl (k := 1) rfl rfl (by decide) rfl (fun ls hl => ?_)
        refine lv_goto (tgt := 2) hx hb dX7_wipe_25 (by decide) ?_
        have hP : va_P D vwCl (List.flatten ([cSpread a0 a1 a2 a3 a4 C a_size a_states a_parts a_slotOf (upd a_table ((a_slotOf x1_.toNatClampNeg).toNatClampNeg) 0)])) H := hP
        have hD : va_D A (List.flatten ([cSpread a0 a1 a2 a3 a4 C a_size a_states a_parts a_slotOf (upd a_table ((a_slotOf x1_.toNatClampNeg).toNatClampNeg) 0)])) := hD
        exact ih2 (x1_ + 1) (upd a_table ((a_slotOf x1_.toNatClampNeg).toNatClampNeg) 0) _ _ _ h hP hD hS (lv_sub hl [1, 0] rfl)
  refine lv_iconst (v := 0) hx hb dX7_wipe_0 (by decide) ?_
  refine lv_istore_n (lv' := [(1, .int 0), (0, .ref a0)]) hx hb dX7_wipe_1 rfl hl (by decide) rfl (fun ls hl => ?_)
  obtain ⟨n, h⟩ := h
  exact N2 a_size n 0 a_table _ _ _ h hP hD hS (lv_sub hl [1, 0] rfl)
abbrev vsX7_put : List Cond := Cond.code yX7_put cX7_put 7 none :: WS
abbrev rmX7_put : Room := { frames := 0, cells := 0, slots := 0, locals := 0 }
set_option maxHeartbeats 4000000 in
set_option maxRecDepth 100000 in
theorem k_X7_put (l : Launch) (D : va_G) (C : Nat → ClassId) (sz : Nat) (a0 : Nat) (a1 : Nat) (a2 : Nat) (a3 : Nat) (a4 : Nat)  (a_size : Int32) (a_states : Nat → Int32) (a_parts : Nat → Int64) (a_slotOf : Nat → Int32) (a_table : Nat → Int32) (p1 : Int32) (p2 : Int64) {post : (Int32) → (Nat → Int32) → (Nat → Int64) → (Nat → Int32) → (Nat → Int32) → Prop} (h : P_X7_put a_size a_states a_parts a_slotOf a_table p1 p2 post) : Met l yX7_put vsX7_put rmX7_put (cPre D C [.ref a0, .int p1, .long p2] sz ([cSpread a0 a1 a2 a3 a4 C a_size a_states a_parts a_slotOf a_table])) (cQv D (fun (u : (Int32) × (Nat → Int32) × (Nat → Int64) × (Nat → Int32) × (Nat → Int32)) => post u.1 u.2.1 u.2.2.1 u.2.2.2.1 u.2.2.2.2) (fun u => [cSpread a0 a1 a2 a3 a4 C u.1 u.2.1 u.2.2.1 u.2.2.2.1 u.2.2.2.2]) (va_A (List.flatten ([cSpread a0 a1 a2 a3 a4 C a_size a_states a_parts a_slotOf a_table])) sz)) 0 0 (va_A (List.flatten ([cSpread a0 a1 a2 a3 a4 C a_size a_states a_parts a_slotOf a_table])) sz) := by
  refine cStart (QA := fun A => cQv D (fun (u : (Int32) × (Nat → Int32) × (Nat → Int64) × (Nat → Int32) × (Nat → Int32)) => post u.1 u.2.1 u.2.2.1 u.2.2.2.1 u.2.2.2.2) (fun u => [cSpread a0 a1 a2 a3 a4 C u.1 u.2.1 u.2.2.1 u.2.2.2.1 u.2.2.2.2]) A) (cc := cX7_put) (maxL := 7) (ret := none) (by decide) (Nat.le_of_ble_eq_true rfl) ?_
  intro p e s m args below meth c A ls hx hb hr hml hown hw hlocks hname hK hN hA hP hD hS hl
  generalize hQ : MQ below _ args s 0 0 A = Q
  have hl : lv_has ls 7 [(0, .ref a0), (1, .int p1), (2, .long p2)] := hl
  obtain ⟨H, hH⟩ : ∃ H, H = s.heap := ⟨_, rfl⟩
  obtain ⟨locs, hlo⟩ : ∃ z : List Loc, z = [] := ⟨_, rfl⟩
  have hP : va_P D vwCl (List.flatten ([cSpread a0 a1 a2 a3 a4 C a_size a_states a_parts a_slotOf a_table])) H := by rw [hH]; exact hP
  have hS : va_S A s.heap H locs := by rw [hH, hlo]; exact hS
  rw [show W p l e rmX7_put s m args below meth c s.heap [] 0 0 Q (F0 m 0 ls []) = W p l e rmX7_put s m args below meth c H locs 0 0 Q (F0 m 0 ls []) from by rw [hH, hlo]]
  have N87 : ∀ (x4_ : Int32) (a_size : Int32) (a_states : Nat → Int32) (a_parts : Nat → Int64) (a_slotOf : Nat → Int32) (a_table : Nat → Int32) (H : Heap) (locs : List Loc) (ls : Array Slot), P_X7_put_87 p1 p2 post  x4_ a_size a_states a_parts a_slotOf a_table → va_P D vwCl (List.flatten ([cSpread a0 a1 a2 a3 a4 C a_size a_states a_parts a_slotOf a_table])) H → va_D A (List.flatten ([cSpread a0 a1 a2 a3 a4 C a_size a_states a_parts a_slotOf a_table])) → va_S A s.heap H locs → lv_has ls 7 [(0, .ref a0), (1, .int p1), (2, .long p2), (4, .int x4_)] → W p l e rmX7_put s m args below meth c H locs 0 0 Q (F0 m 87 ls []) := by
    intro x4_ a_size a_states a_parts a_slotOf a_table H locs ls h hP hD hS hl
    refine lv_aload_n hx hb dX7_put_87 rfl (lv_at hl 0 rfl) ?_
    refine va_get (D := D) (ci := 7) (v := .int a_size) (C := RX7) (T := TX7) (N := 5) hx hb hw inW_X7 hown hK hP 0 rfl rfl 0 (by decide) (hw _ mw_2_91) (fun _ h9 => h9) rfl dX7_put_88 ?_
    refine lv_sipush (v := 1536) hx hb dX7_put_91 (by decide) ?_
    refine lv_icmp_ge (tgt := 149) hx hb dX7_put_94 (by decide) (fun c1 => ?_) (fun c1 => ?_)
    · have h := h.1 c1
      rw [← hQ]
      exact cRetV (a_size, a_states, a_parts, a_slotOf, a_table) hx hb hr hlocks hS hP hD h dX7_put_149
    · have h := h.2 c1
      refine lv_aload_n hx hb dX7_put_97 rfl (lv_at hl 0 rfl) ?_
      refine va_get (D := D) (ci := 7) (v := .ref a1) (C := RX7) (T := TX7) (N := 5) hx hb hw inW_X7 hown hK hP 0 rfl rfl 1 (by decide) (hw _ mw_2_93) (fun _ h9 => h9) rfl dX7_put_98 ?_
      refine lv_aload_n hx hb dX7_put_101 rfl (lv_at hl 0 rfl) ?_
      refine va_get (D := D) (ci := 7) (v := .int a_size) (C := RX7) (T := TX7) (N := 5) hx hb hw inW_X7 hown hK hP 0 rfl rfl 0 (by decide) (hw _ mw_2_91) (fun _ h9 => h9) rfl dX7_put_102 ?_
      refine lv_iload_n hx hb dX7_put_105 rfl (lv_at hl 1 rfl) ?_
      refine cIast hx hb hK hP hD hS 1 0 rfl rfl a_size.toNatClampNeg rfl h.1 dX7_put_106 (fun H locs hP hD hS => ?_)
      have h := h.2
      refine lv_aload_n hx hb dX7_put_107 rfl (lv_at hl 0 rfl) ?_
      refine va_get (D := D) (ci := 7) (v := .ref a2) (C := RX7) (T := TX7) (N := 5) hx hb hw inW_X7 hown hK hP 0 rfl rfl 2 (by decide) (hw _ mw_2_95) (fun _ h9 => h9) rfl dX7_put_108 ?_
      refine lv_aload_n hx hb dX7_put_111 rfl (lv_at hl 0 rfl) ?_
      refine va_get (D := D) (ci := 7) (v := .int a_size) (C := RX7) (T := TX7) (N := 5) hx hb hw inW_X7 hown hK hP 0 rfl rfl 0 (by decide) (hw _ mw_2_91) (fun _ h9 => h9) rfl dX7_put_112 ?_
      refine lv_lload_n hx hb dX7_put_115 rfl (lv_at hl 2 rfl) ?_
      refine cLast hx hb hK hP hD hS 2 1 rfl rfl a_size.toNatClampNeg rfl h.1 dX7_put_116 (fun H locs hP hD hS => ?_)
      have h := h.2
      refine lv_aload_n hx hb dX7_put_117 rfl (lv_at hl 0 rfl) ?_
      refine va_get (D := D) (ci := 7) (v := .ref a3) (C := RX7) (T := TX7) (N := 5) hx hb hw inW_X7 hown hK hP 0 rfl rfl 3 (by decide) (hw _ mw_2_97) (fun _ h9 => h9) rfl dX7_put_118 ?_
      refine lv_aload_n hx hb dX7_put_121 rfl (lv_at hl 0 rfl) ?_
      refine va_get (D := D) (ci := 7) (v := .int a_size) (C := RX7) (T := TX7) (N := 5) hx hb hw inW_X7 hown hK hP 0 rfl rfl 0 (by decide) (hw _ mw_2_91) (fun _ h9 => h9) rfl dX7_put_122 ?_
      refine lv_iload hx hb dX7_put_125 (lv_at hl 3 rfl) ?_
      refine cIast hx hb hK hP hD hS 3 0 rfl rfl a_size.toNatClampNeg rfl h.1 dX7_put_127 (fun H locs hP hD hS => ?_)
      have h := h.2
      refine lv_aload_n hx hb dX7_put_128 rfl (lv_at hl 0 rfl) ?_
      refine lv_dup hx hb dX7_put_129 rfl ?_
      refine va_get (D := D) (ci := 7) (v := .int a_size) (C := RX7) (T := TX7) (N := 5) hx hb hw inW_X7 hown hK hP 0 rfl rfl 0 (by decide) (hw _ mw_2_91) (fun _ h9 => h9) rfl dX7_put_130 ?_
      refine lv_iconst (v := 1) hx hb dX7_put_133 (by decide) ?_
      refine lv_iadd hx hb dX7_put_134 ?_
      refine lv_topi (fun x2 ex2 => ?_)
      have h := h x2 ex2
      refine va_put (D := D) (ci := 7) (v := .int x2) (ty := .int) (C := RX7) (T := TX7) (N := 5) hx hb hw inW_X7 tyX7 tyX7_ok nmX7 hown hK hP hD hS 0 rfl rfl 0 (by decide) (hw _ mw_2_91) (fun _ h9 => h9) rfl (by decide +kernel) rfl rfl (Nat.le_of_ble_eq_true rfl) dX7_put_135 (fun H locs hP hD hS => ?_)
      refine lv_aload_n hx hb dX7_put_138 rfl (lv_at hl 0 rfl) ?_
      refine va_get (D := D) (ci := 7) (v := .ref a4) (C := RX7) (T := TX7) (N := 5) hx hb hw inW_X7 hown hK hP 0 rfl rfl 4 (by decide) (hw _ mw_2_98) (fun _ h9 => h9) rfl dX7_put_139 ?_
      refine lv_iload hx hb dX7_put_142 (lv_at hl 3 rfl) ?_
      refine lv_aload_n hx hb dX7_put_144 rfl (lv_at hl 0 rfl) ?_
      refine va_get (D := D) (ci := 7) (v := .int x2) (C := RX7) (T := TX7) (N := 5) hx hb hw inW_X7 hown hK hP 0 rfl rfl 0 (by decide) (hw _ mw_2_91) (fun _ h9 => h9) rfl dX7_put_145 ?_
      refine cIast hx hb hK hP hD hS 4 0 rfl rfl x4_.toNatClampNeg rfl h.1 dX7_put_148 (fun H locs hP hD hS => ?_)
      have h := h.2
      have hP : va_P D vwCl (List.flatten ([cSpread a0 a1 a2 a3 a4 C x2 (upd a_states a_size.toNatClampNeg p1) (vp_updL a_parts a_size.toNatClampNeg p2) (upd a_slotOf a_size.toNatClampNeg x4_) (upd a_table x4_.toNatClampNeg x2)])) H := hP
      have hD : va_D A (List.flatten ([cSpread a0 a1 a2 a3 a4 C x2 (upd a_states a_size.toNatClampNeg p1) (vp_updL a_parts a_size.toNatClampNeg p2) (upd a_slotOf a_size.toNatClampNeg x4_) (upd a_table x4_.toNatClampNeg x2)])) := hD
      rw [← hQ]
      exact cRetV (x2, (upd a_states a_size.toNatClampNeg p1), (vp_updL a_parts a_size.toNatClampNeg p2), (upd a_slotOf a_size.toNatClampNeg x4_), (upd a_table x4_.toNatClampNeg x2)) hx hb hr hlocks hS hP hD h dX7_put_149
  have N19 : ∀ (a_size : Int32) (a_states : Nat → Int32) (a_parts : Nat → Int64) (a_slotOf : Nat → Int32) (a_table : Nat → Int32) (n19 : Nat) (x4_ : Int32) (x5_ : Int32) (H : Heap) (locs : List Loc) (ls : Array Slot), P_X7_put_19 p1 p2 post (fun (x4_ : Int32) (a_size : Int32) (a_states : Nat → Int32) (a_parts : Nat → Int64) (a_slotOf : Nat → Int32) (a_table : Nat → Int32) => P_X7_put_87 p1 p2 post  x4_ a_size a_states a_parts a_slotOf a_table) a_size a_states a_parts a_slotOf a_table n19 x4_ x5_ → va_P D vwCl (List.flatten ([cSpread a0 a1 a2 a3 a4 C a_size a_states a_parts a_slotOf a_table])) H → va_D A (List.flatten ([cSpread a0 a1 a2 a3 a4 C a_size a_states a_parts a_slotOf a_table])) → va_S A s.heap H locs → lv_has ls 7 [(0, .ref a0), (1, .int p1), (2, .long p2), (4, .int x4_), (5, .int x5_)] → W p l e rmX7_put s m args below meth c H locs 0 0 Q (F0 m 19 ls []) := by
    intro a_size a_states a_parts a_slotOf a_table
    intro n19
    induction n19 with
    | zero => intro x4_ x5_ H locs ls h hP hD hS hl; exact False.elim h
    | succ n19 ih19 =>
      intro x4_ x5_ H locs ls h hP hD hS hl
      refine lv_iload hx hb dX7_put_19 (lv_at hl 4 rfl) ?_
      refine lv_sipush (v := 4096) hx hb dX7_put_21 (by decide) ?_
      refine lv_icmp_ge (tgt := 87) hx hb dX7_put_24 (by decide) (fun c3 => ?_) (fun c3 => ?_)
      · have h := h.1 c3
        exact N87 x4_ a_size a_states a_parts a_slotOf a_table _ _ _ h hP hD hS (lv_sub hl [0, 1, 2, 3] rfl)
      · have h := h.2 c3
        refine lv_aload_n hx hb dX7_put_27 rfl (lv_at hl 0 rfl) ?_
        refine va_get (D := D) (ci := 7) (v := .ref a4) (C := RX7) (T := TX7) (N := 5) hx hb hw inW_X7 hown hK hP 0 rfl rfl 4 (by decide) (hw _ mw_2_98) (fun _ h9 => h9) rfl dX7_put_28 ?_
        refine lv_iload hx hb dX7_put_31 (lv_at hl 3 rfl) ?_
        refine cIald hx hb hK hP 4 0 rfl rfl x4_.toNatClampNeg rfl h.1 dX7_put_33 ?_
        have h := h.2
        refine lv_if_eq (tgt := 87) hx hb dX7_put_34 (by decide) (fun c4 => ?_) (fun c4 => ?_)
        · have h := h.1 c4
          exact N87 x4_ a_size a_states a_parts a_slotOf a_table _ _ _ h hP hD hS (lv_sub hl [0, 1, 2, 3] rfl)
        · have h := h.2 c4
          refine lv_aload_n hx hb dX7_put_37 rfl (lv_at hl 0 rfl) ?_
          refine va_get (D := D) (ci := 7) (v := .ref a4) (C := RX7) (T := TX7) (N := 5) hx hb hw inW_X7 hown hK hP 0 rfl rfl 4 (by decide) (hw _ mw_2_98) (fun _ h9 => h9) rfl dX7_put_38 ?_
          refine lv_iload hx hb dX7_put_41 (lv_at hl 3 rfl) ?_
          refine cIald hx hb hK hP 4 0 rfl rfl x4_.toNatClampNeg rfl h.1 dX7_put_43 ?_
          have h := h.2
          refine lv_iconst (v := 1) hx hb dX7_put_44 (by decide) ?_
          refine lv_isub hx hb dX7_put_45 ?_
          refine lv_topi (fun x5 ex5 => ?_)
          have h := h x5 ex5
          refine lv_istore (lv' := [(6, .int x5), (0, .ref a0), (1, .int p1), (2, .long p2), (4, .int x4_), (5, .int x5_)]) hx hb dX7_put_46 hl (by decide) rfl (fun ls hl => ?_)
          refine lv_aload_n hx hb dX7_put_48 rfl (lv_at hl 1 rfl) ?_
          refine va_get (D := D) (ci := 7) (v := .ref a1) (C := RX7) (T := TX7) (N := 5) hx hb hw inW_X7 hown hK hP 0 rfl rfl 1 (by decide) (hw _ mw_2_93) (fun _ h9 => h9) rfl dX7_put_49 ?_
          refine lv_iload hx hb dX7_put_52 (lv_at hl 0 rfl) ?_
          refine cIald hx hb hK hP 1 0 rfl rfl x5.toNatClampNeg rfl h.1 dX7_put_54 ?_
          have h := h.2
          refine lv_iload_n hx hb dX7_put_55 rfl (lv_at hl 2 rfl) ?_
          refine lv_icmp_ne (tgt := 71) hx hb dX7_put_56 (by decide) (fun c6 => ?_) (fun c6 => ?_)
          · have h := h.1 c6
            refine lv_iload hx hb dX7_put_71 (lv_at hl 4 rfl) ?_
            refine lv_iconst (v := 1) hx hb dX7_put_73 (by decide) ?_
            refine lv_iadd hx hb dX7_put_74 ?_
            refine lv_sipush (v := 4095) hx hb dX7_put_75 (by decide) ?_
            refine lv_iand hx hb dX7_put_78 ?_
            refine lv_topi (fun x7 ex7 => ?_)
            have h := h x7 ex7
            refine lv_istore (lv' := [(4, .int x7), (6, .int x5), (0, .ref a0), (1, .int p1), (2, .long p2), (5, .int x5_)]) hx hb dX7_put_79 hl (by decide) rfl (fun ls hl => ?_)
            refine lv_iinc (v := (x5_ + 1)) (lv' := [(5, .int (x5_ + 1)), (4, .int x7), (6, .int x5), (0, .ref a0), (1, .int p1), (2, .long p2)]) hx hb dX7_put_81 hl (k := 5) rfl rfl (by decide) rfl (fun ls hl => ?_)
            refine lv_goto (tgt := 19) hx hb dX7_put_84 (by decide) ?_
            exact ih19 x7 (x5_ + 1) _ _ _ h hP hD hS (lv_sub hl [3, 4, 5, 1, 0] rfl)
          · have h := h.2 c6
            refine lv_aload_n hx hb dX7_put_59 rfl (lv_at hl 1 rfl) ?_
            refine va_get (D := D) (ci := 7) (v := .ref a2) (C := RX7) (T := TX7) (N := 5) hx hb hw inW_X7 hown hK hP 0 rfl rfl 2 (by decide) (hw _ mw_2_95) (fun _ h9 => h9) rfl dX7_put_60 ?_
            refine lv_iload hx hb dX7_put_63 (lv_at hl 0 rfl) ?_
            refine lv_dup2_11 hx hb dX7_put_65 rfl rfl ?_
            refine cLald hx hb hK hP 2 1 rfl rfl x5.toNatClampNeg rfl h.1 dX7_put_66 ?_
            have h := h.2
            refine lv_lload_n hx hb dX7_put_67 rfl (lv_at hl 3 rfl) ?_
            refine lv_ladd hx hb dX7_put_68 ?_
            refine cLast hx hb hK hP hD hS 2 1 rfl rfl x5.toNatClampNeg rfl h.1 dX7_put_69 (fun H locs hP hD hS => ?_)
            have h := h.2
            have hP : va_P D vwCl (List.flatten ([cSpread a0 a1 a2 a3 a4 C a_size a_states (vp_updL a_parts x5.toNatClampNeg ((a_parts x5.toNatClampNeg) + p2)) a_slotOf a_table])) H := hP
            have hD : va_D A (List.flatten ([cSpread a0 a1 a2 a3 a4 C a_size a_states (vp_updL a_parts x5.toNatClampNeg ((a_parts x5.toNatClampNeg) + p2)) a_slotOf a_table])) := hD
            rw [← hQ]
            exact cRetV (a_size, a_states, (vp_updL a_parts x5.toNatClampNeg ((a_parts x5.toNatClampNeg) + p2)), a_slotOf, a_table) hx hb hr hlocks hS hP hD h dX7_put_70
  refine lv_lload_n hx hb dX7_put_0 rfl (lv_at hl 2 rfl) ?_
  refine lv_lconst (v := 0) hx hb dX7_put_1 (by decide) ?_
  refine W.lcmp hx hb dX7_put_2 ?_
  refine lv_if_ne (tgt := 7) hx hb dX7_put_3 (by decide) (fun c8 => ?_) (fun c8 => ?_)
  · have c8 : ¬ p2 = 0 := fun q => c8 ((lg_cmp_eq _ _).mpr q)
    have h := h.1 c8
    refine lv_iload_n hx hb dX7_put_7 rfl (lv_at hl 1 rfl) ?_
    refine lv_ldc (v := (-1640531535)) hx hb hown (hw _ mw_4_38) dX7_put_8 ?_
    refine lv_imul hx hb dX7_put_10 ?_
    refine lv_bipush (v := 20) hx hb dX7_put_11 (by decide) ?_
    refine lv_iushr hx hb dX7_put_13 rfl ?_
    refine lv_topi (fun x9 ex9 => ?_)
    have h := h x9 ex9
    refine lv_istore (lv' := [(4, .int x9), (0, .ref a0), (1, .int p1), (2, .long p2)]) hx hb dX7_put_14 hl (by decide) rfl (fun ls hl => ?_)
    refine lv_iconst (v := 0) hx hb dX7_put_16 (by decide) ?_
    refine lv_istore (lv' := [(5, .int 0), (4, .int x9), (0, .ref a0), (1, .int p1), (2, .long p2)]) hx hb dX7_put_17 hl (by decide) rfl (fun ls hl => ?_)
    obtain ⟨n, h⟩ := h
    exact N19 a_size a_states a_parts a_slotOf a_table n x9 0 _ _ _ h hP hD hS (lv_sub hl [2, 3, 4, 1, 0] rfl)
  · have c8 : p2 = 0 := (lg_cmp_eq _ _).mp c8
    have h := h.2 c8
    rw [← hQ]
    exact cRetV (a_size, a_states, a_parts, a_slotOf, a_table) hx hb hr hlocks hS hP hD h dX7_put_6
abbrev vsJ6_bitCount_0f7a4 : List Cond := Cond.code yJ6_bitCount_0f7a4 cJ6_bitCount_0f7a4 1 (some .int) :: WS
abbrev rmJ6_bitCount_0f7a4 : Room := { frames := 0, cells := 0, slots := 0, locals := 0 }
set_option maxHeartbeats 4000000 in
set_option maxRecDepth 100000 in
theorem k_J6_bitCount_0f7a4 (l : Launch) (D : va_G) (C : Nat → ClassId) (sz : Nat)    (p1 : Int32) {post : Int32 → Prop} (h : P_J6_bitCount_0f7a4 p1 post) : Met l yJ6_bitCount_0f7a4 vsJ6_bitCount_0f7a4 rmJ6_bitCount_0f7a4 (cPre D C [.int p1] sz (([] : List va_W))) (cQi D (fun (r : Int32) (u : Unit) => post r ) (fun u => ([] : List va_W)) (va_A (List.flatten (([] : List va_W))) sz)) 0 0 (va_A (List.flatten (([] : List va_W))) sz) := by
  refine cStart (QA := fun A => cQi D (fun (r : Int32) (u : Unit) => post r ) (fun u => ([] : List va_W)) A) (cc := cJ6_bitCount_0f7a4) (maxL := 1) (ret := (some .int)) (by decide) (Nat.le_of_ble_eq_true rfl) ?_
  intro p e s m args below meth c A ls hx hb hr hml hown hw hlocks hname hK hN hA hP hD hS hl
  generalize hQ : MQ below _ args s 0 0 A = Q
  have hl : lv_has ls 1 [(0, .int p1)] := hl
  obtain ⟨H, hH⟩ : ∃ H, H = s.heap := ⟨_, rfl⟩
  obtain ⟨locs, hlo⟩ : ∃ z : List Loc, z = [] := ⟨_, rfl⟩
  have hP : va_P D vwCl (List.flatten (([] : List va_W))) H := by rw [hH]; exact hP
  have hS : va_S A s.heap H locs := by rw [hH, hlo]; exact hS
  rw [show W p l e rmJ6_bitCount_0f7a4 s m args below meth c s.heap [] 0 0 Q (F0 m 0 ls []) = W p l e rmJ6_bitCount_0f7a4 s m args below meth c H locs 0 0 Q (F0 m 0 ls []) from by rw [hH, hlo]]
  refine lv_iload_n hx hb dJ6_bitCount_0f7a4_0 rfl (lv_at hl 0 rfl) ?_
  refine lv_iload_n hx hb dJ6_bitCount_0f7a4_1 rfl (lv_at hl 0 rfl) ?_
  refine lv_iconst (v := 1) hx hb dJ6_bitCount_0f7a4_2 (by decide) ?_
  refine lv_iushr hx hb dJ6_bitCount_0f7a4_3 rfl ?_
  refine lv_ldcw (v := 1431655765) hx hb hown (hw _ mw_4_74) dJ6_bitCount_0f7a4_4 ?_
  refine lv_iand hx hb dJ6_bitCount_0f7a4_7 ?_
  refine lv_isub hx hb dJ6_bitCount_0f7a4_8 ?_
  refine lv_topi (fun x1 ex1 => ?_)
  have h := h x1 ex1
  refine lv_istore_n (lv' := [(0, .int x1)]) hx hb dJ6_bitCount_0f7a4_9 rfl hl (by decide) rfl (fun ls hl => ?_)
  refine lv_iload_n hx hb dJ6_bitCount_0f7a4_10 rfl (lv_at hl 0 rfl) ?_
  refine lv_ldcw (v := 858993459) hx hb hown (hw _ mw_4_75) dJ6_bitCount_0f7a4_11 ?_
  refine lv_iand hx hb dJ6_bitCount_0f7a4_14 ?_
  refine lv_iload_n hx hb dJ6_bitCount_0f7a4_15 rfl (lv_at hl 0 rfl) ?_
  refine lv_iconst (v := 2) hx hb dJ6_bitCount_0f7a4_16 (by decide) ?_
  refine lv_iushr hx hb dJ6_bitCount_0f7a4_17 rfl ?_
  refine lv_ldcw (v := 858993459) hx hb hown (hw _ mw_4_75) dJ6_bitCount_0f7a4_18 ?_
  refine lv_iand hx hb dJ6_bitCount_0f7a4_21 ?_
  refine lv_iadd hx hb dJ6_bitCount_0f7a4_22 ?_
  refine lv_topi (fun x2 ex2 => ?_)
  have h := h x2 ex2
  refine lv_istore_n (lv' := [(0, .int x2)]) hx hb dJ6_bitCount_0f7a4_23 rfl hl (by decide) rfl (fun ls hl => ?_)
  refine lv_iload_n hx hb dJ6_bitCount_0f7a4_24 rfl (lv_at hl 0 rfl) ?_
  refine lv_iload_n hx hb dJ6_bitCount_0f7a4_25 rfl (lv_at hl 0 rfl) ?_
  refine lv_iconst (v := 4) hx hb dJ6_bitCount_0f7a4_26 (by decide) ?_
  refine lv_iushr hx hb dJ6_bitCount_0f7a4_27 rfl ?_
  refine lv_iadd hx hb dJ6_bitCount_0f7a4_28 ?_
  refine lv_ldcw (v := 252645135) hx hb hown (hw _ mw_4_76) dJ6_bitCount_0f7a4_29 ?_
  refine lv_iand hx hb dJ6_bitCount_0f7a4_32 ?_
  refine lv_topi (fun x3 ex3 => ?_)
  have h := h x3 ex3
  refine lv_istore_n (lv' := [(0, .int x3)]) hx hb dJ6_bitCount_0f7a4_33 rfl hl (by decide) rfl (fun ls hl => ?_)
  refine lv_iload_n hx hb dJ6_bitCount_0f7a4_34 rfl (lv_at hl 0 rfl) ?_
  refine lv_iload_n hx hb dJ6_bitCount_0f7a4_35 rfl (lv_at hl 0 rfl) ?_
  refine lv_bipush (v := 8) hx hb dJ6_bitCount_0f7a4_36 (by decide) ?_
  refine lv_iushr hx hb dJ6_bitCount_0f7a4_38 rfl ?_
  refine lv_iadd hx hb dJ6_bitCount_0f7a4_39 ?_
  refine lv_topi (fun x4 ex4 => ?_)
  have h := h x4 ex4
  refine lv_istore_n (lv' := [(0, .int x4)]) hx hb dJ6_bitCount_0f7a4_40 rfl hl (by decide) rfl (fun ls hl => ?_)
  refine lv_iload_n hx hb dJ6_bitCount_0f7a4_41 rfl (lv_at hl 0 rfl) ?_
  refine lv_iload_n hx hb dJ6_bitCount_0f7a4_42 rfl (lv_at hl 0 rfl) ?_
  refine lv_bipush (v := 16) hx hb dJ6_bitCount_0f7a4_43 (by decide) ?_
  refine lv_iushr hx hb dJ6_bitCount_0f7a4_45 rfl ?_
  refine lv_iadd hx hb dJ6_bitCount_0f7a4_46 ?_
  refine lv_topi (fun x5 ex5 => ?_)
  have h := h x5 ex5
  refine lv_istore_n (lv' := [(0, .int x5)]) hx hb dJ6_bitCount_0f7a4_47 rfl hl (by decide) rfl (fun ls hl => ?_)
  refine lv_iload_n hx hb dJ6_bitCount_0f7a4_48 rfl (lv_at hl 0 rfl) ?_
  refine lv_bipush (v := 63) hx hb dJ6_bitCount_0f7a4_49 (by decide) ?_
  refine lv_iand hx hb dJ6_bitCount_0f7a4_51 ?_
  rw [← hQ]
  exact cRetI (v := (x5 &&& 63)) () hx hb hr hlocks hS hP hD h dJ6_bitCount_0f7a4_52
abbrev vsX0_optionOf : List Cond := Cond.code yX0_optionOf cX0_optionOf 2 (some .int) :: WS
abbrev rmX0_optionOf : Room := { frames := 0, cells := 0, slots := 0, locals := 0 }
set_option maxHeartbeats 4000000 in
set_option maxRecDepth 100000 in
theorem k_X0_optionOf (l : Launch) (D : va_G) (C : Nat → ClassId) (sz : Nat) (a0 : Nat) (a1 : Nat) (a2 : Nat) (a3 : Nat) (a4 : Nat) (a5 : Nat)  (a_count : Int32) (a_worth : Nat → Int32) (a_seems : Nat → Int32) (a_place : Nat → Int32) (a_lock : Nat → Int32) (a_marked : Nat → Int32) (p1 : Int32) {post : Int32 → Prop} (h : P_X0_optionOf a_lock a_marked p1 post) : Met l yX0_optionOf vsX0_optionOf rmX0_optionOf (cPre D C [.ref a0, .int p1] sz ([cBikes a0 a1 a2 a3 a4 a5 C a_count a_worth a_seems a_place a_lock a_marked])) (cQi D (fun (r : Int32) (u : Unit) => post r ) (fun u => [cBikes a0 a1 a2 a3 a4 a5 C a_count a_worth a_seems a_place a_lock a_marked]) (va_A (List.flatten ([cBikes a0 a1 a2 a3 a4 a5 C a_count a_worth a_seems a_place a_lock a_marked])) sz)) 0 0 (va_A (List.flatten ([cBikes a0 a1 a2 a3 a4 a5 C a_count a_worth a_seems a_place a_lock a_marked])) sz) := by
  refine cStart (QA := fun A => cQi D (fun (r : Int32) (u : Unit) => post r ) (fun u => [cBikes a0 a1 a2 a3 a4 a5 C a_count a_worth a_seems a_place a_lock a_marked]) A) (cc := cX0_optionOf) (maxL := 2) (ret := (some .int)) (by decide) (Nat.le_of_ble_eq_true rfl) ?_
  intro p e s m args below meth c A ls hx hb hr hml hown hw hlocks hname hK hN hA hP hD hS hl
  generalize hQ : MQ below _ args s 0 0 A = Q
  have hl : lv_has ls 2 [(0, .ref a0), (1, .int p1)] := hl
  obtain ⟨H, hH⟩ : ∃ H, H = s.heap := ⟨_, rfl⟩
  obtain ⟨locs, hlo⟩ : ∃ z : List Loc, z = [] := ⟨_, rfl⟩
  have hP : va_P D vwCl (List.flatten ([cBikes a0 a1 a2 a3 a4 a5 C a_count a_worth a_seems a_place a_lock a_marked])) H := by rw [hH]; exact hP
  have hS : va_S A s.heap H locs := by rw [hH, hlo]; exact hS
  rw [show W p l e rmX0_optionOf s m args below meth c s.heap [] 0 0 Q (F0 m 0 ls []) = W p l e rmX0_optionOf s m args below meth c H locs 0 0 Q (F0 m 0 ls []) from by rw [hH, hlo]]
  refine lv_iconst (v := 2) hx hb dX0_optionOf_0 (by decide) ?_
  refine lv_aload_n hx hb dX0_optionOf_1 rfl (lv_at hl 0 rfl) ?_
  refine va_get (D := D) (ci := 0) (v := .ref a4) (C := RX0) (T := TX0) (N := 6) hx hb hw inW_X0 hown hK hP 0 rfl rfl 4 (by decide) (hw _ mw_1_148) (fun _ h9 => h9) rfl dX0_optionOf_2 ?_
  refine lv_iload_n hx hb dX0_optionOf_5 rfl (lv_at hl 1 rfl) ?_
  refine cIald hx hb hK hP 4 0 rfl rfl p1.toNatClampNeg rfl h.1 dX0_optionOf_6 ?_
  have h := h.2
  refine lv_iconst (v := 1) hx hb dX0_optionOf_7 (by decide) ?_
  refine lv_iadd hx hb dX0_optionOf_8 ?_
  refine lv_imul hx hb dX0_optionOf_9 ?_
  refine lv_aload_n hx hb dX0_optionOf_10 rfl (lv_at hl 0 rfl) ?_
  refine va_get (D := D) (ci := 0) (v := .ref a5) (C := RX0) (T := TX0) (N := 6) hx hb hw inW_X0 hown hK hP 0 rfl rfl 5 (by decide) (hw _ mw_1_151) (fun _ h9 => h9) rfl dX0_optionOf_11 ?_
  refine lv_iload_n hx hb dX0_optionOf_14 rfl (lv_at hl 1 rfl) ?_
  refine cZald hx hb hK hP 5 3 rfl rfl p1.toNatClampNeg rfl h.1 dX0_optionOf_15 ?_
  have h := h.2
  refine lv_if_eq (tgt := 23) hx hb dX0_optionOf_16 (by decide) (fun c1 => ?_) (fun c1 => ?_)
  · have h := h.1 c1
    refine lv_iconst (v := 0) hx hb dX0_optionOf_23 (by decide) ?_
    refine lv_iadd hx hb dX0_optionOf_24 ?_
    rw [← hQ]
    exact cRetI (v := ((2 * ((a_lock p1.toNatClampNeg) + 1)) + 0)) () hx hb hr hlocks hS hP hD h dX0_optionOf_25
  · have h := h.2 c1
    refine lv_iconst (v := 1) hx hb dX0_optionOf_19 (by decide) ?_
    refine lv_goto (tgt := 24) hx hb dX0_optionOf_20 (by decide) ?_
    refine lv_iadd hx hb dX0_optionOf_24 ?_
    rw [← hQ]
    exact cRetI (v := ((2 * ((a_lock p1.toNatClampNeg) + 1)) + 1)) () hx hb hr hlocks hS hP hD h dX0_optionOf_25
abbrev vsX0_setOption : List Cond := Cond.code yX0_setOption cX0_setOption 3 none :: WS
abbrev rmX0_setOption : Room := { frames := 0, cells := 0, slots := 0, locals := 0 }
set_option maxHeartbeats 4000000 in
set_option maxRecDepth 100000 in
theorem k_X0_setOption (l : Launch) (D : va_G) (C : Nat → ClassId) (sz : Nat) (a0 : Nat) (a1 : Nat) (a2 : Nat) (a3 : Nat) (a4 : Nat) (a5 : Nat)  (a_count : Int32) (a_worth : Nat → Int32) (a_seems : Nat → Int32) (a_place : Nat → Int32) (a_lock : Nat → Int32) (a_marked : Nat → Int32) (p1 : Int32) (p2 : Int32) {post : (Nat → Int32) → (Nat → Int32) → Prop} (h : P_X0_setOption a_lock a_marked p1 p2 post) : Met l yX0_setOption vsX0_setOption rmX0_setOption (cPre D C [.ref a0, .int p1, .int p2] sz ([cBikes a0 a1 a2 a3 a4 a5 C a_count a_worth a_seems a_place a_lock a_marked])) (cQv D (fun (u : (Nat → Int32) × (Nat → Int32)) => post u.1 u.2) (fun u => [cBikes a0 a1 a2 a3 a4 a5 C a_count a_worth a_seems a_place u.1 u.2]) (va_A (List.flatten ([cBikes a0 a1 a2 a3 a4 a5 C a_count a_worth a_seems a_place a_lock a_marked])) sz)) 0 0 (va_A (List.flatten ([cBikes a0 a1 a2 a3 a4 a5 C a_count a_worth a_seems a_place a_lock a_marked])) sz) := by
  refine cStart (QA := fun A => cQv D (fun (u : (Nat → Int32) × (Nat → Int32)) => post u.1 u.2) (fun u => [cBikes a0 a1 a2 a3 a4 a5 C a_count a_worth a_seems a_place u.1 u.2]) A) (cc := cX0_setOption) (maxL := 3) (ret := none) (by decide) (Nat.le_of_ble_eq_true rfl) ?_
  intro p e s m args below meth c A ls hx hb hr hml hown hw hlocks hname hK hN hA hP hD hS hl
  generalize hQ : MQ below _ args s 0 0 A = Q
  have hl : lv_has ls 3 [(0, .ref a0), (1, .int p1), (2, .int p2)] := hl
  obtain ⟨H, hH⟩ : ∃ H, H = s.heap := ⟨_, rfl⟩
  obtain ⟨locs, hlo⟩ : ∃ z : List Loc, z = [] := ⟨_, rfl⟩
  have hP : va_P D vwCl (List.flatten ([cBikes a0 a1 a2 a3 a4 a5 C a_count a_worth a_seems a_place a_lock a_marked])) H := by rw [hH]; exact hP
  have hS : va_S A s.heap H locs := by rw [hH, hlo]; exact hS
  rw [show W p l e rmX0_setOption s m args below meth c s.heap [] 0 0 Q (F0 m 0 ls []) = W p l e rmX0_setOption s m args below meth c H locs 0 0 Q (F0 m 0 ls []) from by rw [hH, hlo]]
  refine lv_aload_n hx hb dX0_setOption_0 rfl (lv_at hl 0 rfl) ?_
  refine va_get (D := D) (ci := 0) (v := .ref a4) (C := RX0) (T := TX0) (N := 6) hx hb hw inW_X0 hown hK hP 0 rfl rfl 4 (by decide) (hw _ mw_1_148) (fun _ h9 => h9) rfl dX0_setOption_1 ?_
  refine lv_iload_n hx hb dX0_setOption_4 rfl (lv_at hl 1 rfl) ?_
  refine lv_iload_n hx hb dX0_setOption_5 rfl (lv_at hl 2 rfl) ?_
  refine lv_iconst (v := 2) hx hb dX0_setOption_6 (by decide) ?_
  refine lv_idiv hx hb dX0_setOption_7 (by decide) ?_
  refine lv_iconst (v := 1) hx hb dX0_setOption_8 (by decide) ?_
  refine lv_isub hx hb dX0_setOption_9 ?_
  refine cIast hx hb hK hP hD hS 4 0 rfl rfl p1.toNatClampNeg rfl h.1 dX0_setOption_10 (fun H locs hP hD hS => ?_)
  have h := h.2
  refine lv_aload_n hx hb dX0_setOption_11 rfl (lv_at hl 0 rfl) ?_
  refine va_get (D := D) (ci := 0) (v := .ref a5) (C := RX0) (T := TX0) (N := 6) hx hb hw inW_X0 hown hK hP 0 rfl rfl 5 (by decide) (hw _ mw_1_151) (fun _ h9 => h9) rfl dX0_setOption_12 ?_
  refine lv_iload_n hx hb dX0_setOption_15 rfl (lv_at hl 1 rfl) ?_
  refine lv_iload_n hx hb dX0_setOption_16 rfl (lv_at hl 2 rfl) ?_
  refine lv_iconst (v := 2) hx hb dX0_setOption_17 (by decide) ?_
  refine lv_irem hx hb dX0_setOption_18 (by decide) ?_
  refine lv_iconst (v := 1) hx hb dX0_setOption_19 (by decide) ?_
  refine lv_icmp_ne (tgt := 27) hx hb dX0_setOption_20 (by decide) (fun c1 => ?_) (fun c1 => ?_)
  · have h := h.1 c1
    refine lv_iconst (v := 0) hx hb dX0_setOption_27 (by decide) ?_
    refine cZast hx hb hK hP hD hS 5 3 rfl rfl p1.toNatClampNeg rfl h.1 (Or.inl rfl) dX0_setOption_28 (fun H locs hP hD hS => ?_)
    have h := h.2
    have hP : va_P D vwCl (List.flatten ([cBikes a0 a1 a2 a3 a4 a5 C a_count a_worth a_seems a_place (upd a_lock p1.toNatClampNeg ((p2 / 2) - 1)) (upd a_marked p1.toNatClampNeg 0)])) H := hP
    have hD : va_D A (List.flatten ([cBikes a0 a1 a2 a3 a4 a5 C a_count a_worth a_seems a_place (upd a_lock p1.toNatClampNeg ((p2 / 2) - 1)) (upd a_marked p1.toNatClampNeg 0)])) := hD
    rw [← hQ]
    exact cRetV ((upd a_lock p1.toNatClampNeg ((p2 / 2) - 1)), (upd a_marked p1.toNatClampNeg 0)) hx hb hr hlocks hS hP hD h dX0_setOption_29
  · have h := h.2 c1
    refine lv_iconst (v := 1) hx hb dX0_setOption_23 (by decide) ?_
    refine lv_goto (tgt := 28) hx hb dX0_setOption_24 (by decide) ?_
    refine cZast hx hb hK hP hD hS 5 3 rfl rfl p1.toNatClampNeg rfl h.1 (Or.inr rfl) dX0_setOption_28 (fun H locs hP hD hS => ?_)
    have h := h.2
    have hP : va_P D vwCl (List.flatten ([cBikes a0 a1 a2 a3 a4 a5 C a_count a_worth a_seems a_place (upd a_lock p1.toNatClampNeg ((p2 / 2) - 1)) (upd a_marked p1.toNatClampNeg 1)])) H := hP
    have hD : va_D A (List.flatten ([cBikes a0 a1 a2 a3 a4 a5 C a_count a_worth a_seems a_place (upd a_lock p1.toNatClampNeg ((p2 / 2) - 1)) (upd a_marked p1.toNatClampNeg 1)])) := hD
    rw [← hQ]
    exact cRetV ((upd a_lock p1.toNatClampNeg ((p2 / 2) - 1)), (upd a_marked p1.toNatClampNeg 1)) hx hb hr hlocks hS hP hD h dX0_setOption_29
abbrev vsX0_markOthers : List Cond := Cond.code yX0_markOthers cX0_markOthers 4 none :: WS
abbrev rmX0_markOthers : Room := { frames := 0, cells := 0, slots := 0, locals := 0 }
set_option maxHeartbeats 4000000 in
set_option maxRecDepth 100000 in
theorem k_X0_markOthers (l : Launch) (D : va_G) (C : Nat → ClassId) (sz : Nat) (a0 : Nat) (a1 : Nat) (a2 : Nat) (a3 : Nat) (a4 : Nat) (a5 : Nat)  (a_count : Int32) (a_worth : Nat → Int32) (a_seems : Nat → Int32) (a_place : Nat → Int32) (a_lock : Nat → Int32) (a_marked : Nat → Int32) (p1 : Int32) (p2 : Int32) {post : (Nat → Int32) → Prop} (h : P_X0_markOthers a_count a_marked p1 p2 post) : Met l yX0_markOthers vsX0_markOthers rmX0_markOthers (cPre D C [.ref a0, .int p1, .int p2] sz ([cBikes a0 a1 a2 a3 a4 a5 C a_count a_worth a_seems a_place a_lock a_marked])) (cQv D (fun (u : (Nat → Int32)) => post u) (fun u => [cBikes a0 a1 a2 a3 a4 a5 C a_count a_worth a_seems a_place a_lock u]) (va_A (List.flatten ([cBikes a0 a1 a2 a3 a4 a5 C a_count a_worth a_seems a_place a_lock a_marked])) sz)) 0 0 (va_A (List.flatten ([cBikes a0 a1 a2 a3 a4 a5 C a_count a_worth a_seems a_place a_lock a_marked])) sz) := by
  refine cStart (QA := fun A => cQv D (fun (u : (Nat → Int32)) => post u) (fun u => [cBikes a0 a1 a2 a3 a4 a5 C a_count a_worth a_seems a_place a_lock u]) A) (cc := cX0_markOthers) (maxL := 4) (ret := none) (by decide) (Nat.le_of_ble_eq_true rfl) ?_
  intro p e s m args below meth c A ls hx hb hr hml hown hw hlocks hname hK hN hA hP hD hS hl
  generalize hQ : MQ below _ args s 0 0 A = Q
  have hl : lv_has ls 4 [(0, .ref a0), (1, .int p1), (2, .int p2)] := hl
  obtain ⟨H, hH⟩ : ∃ H, H = s.heap := ⟨_, rfl⟩
  obtain ⟨locs, hlo⟩ : ∃ z : List Loc, z = [] := ⟨_, rfl⟩
  have hP : va_P D vwCl (List.flatten ([cBikes a0 a1 a2 a3 a4 a5 C a_count a_worth a_seems a_place a_lock a_marked])) H := by rw [hH]; exact hP
  have hS : va_S A s.heap H locs := by rw [hH, hlo]; exact hS
  rw [show W p l e rmX0_markOthers s m args below meth c s.heap [] 0 0 Q (F0 m 0 ls []) = W p l e rmX0_markOthers s m args below meth c H locs 0 0 Q (F0 m 0 ls []) from by rw [hH, hlo]]
  have N2 : ∀  (n2 : Nat) (x3_ : Int32) (a_marked : Nat → Int32) (H : Heap) (locs : List Loc) (ls : Array Slot), P_X0_markOthers_2 a_count p1 p2 post   n2 x3_ a_marked → va_P D vwCl (List.flatten ([cBikes a0 a1 a2 a3 a4 a5 C a_count a_worth a_seems a_place a_lock a_marked])) H → va_D A (List.flatten ([cBikes a0 a1 a2 a3 a4 a5 C a_count a_worth a_seems a_place a_lock a_marked])) → va_S A s.heap H locs → lv_has ls 4 [(0, .ref a0), (1, .int p1), (2, .int p2), (3, .int x3_)] → W p l e rmX0_markOthers s m args below meth c H locs 0 0 Q (F0 m 2 ls []) := by
    intro n2
    induction n2 with
    | zero => intro x3_ a_marked H locs ls h hP hD hS hl; exact False.elim h
    | succ n2 ih2 =>
      intro x3_ a_marked H locs ls h hP hD hS hl
      refine lv_iload_n hx hb dX0_markOthers_2 rfl (lv_at hl 3 rfl) ?_
      refine lv_aload_n hx hb dX0_markOthers_3 rfl (lv_at hl 0 rfl) ?_
      refine va_get (D := D) (ci := 0) (v := .int a_count) (C := RX0) (T := TX0) (N := 6) hx hb hw inW_X0 hown hK hP 0 rfl rfl 0 (by decide) (hw _ mw_1_133) (fun _ h9 => h9) rfl dX0_markOthers_4 ?_
      refine lv_icmp_ge (tgt := 36) hx hb dX0_markOthers_7 (by decide) (fun c1 => ?_) (fun c1 => ?_)
      · have h := h.1 c1
        rw [← hQ]
        exact cRetV (a_marked) hx hb hr hlocks hS hP hD h dX0_markOthers_36
      · have h := h.2 c1
        refine lv_aload_n hx hb dX0_markOthers_10 rfl (lv_at hl 0 rfl) ?_
        refine va_get (D := D) (ci := 0) (v := .ref a5) (C := RX0) (T := TX0) (N := 6) hx hb hw inW_X0 hown hK hP 0 rfl rfl 5 (by decide) (hw _ mw_1_151) (fun _ h9 => h9) rfl dX0_markOthers_11 ?_
        refine lv_iload_n hx hb dX0_markOthers_14 rfl (lv_at hl 3 rfl) ?_
        refine lv_iload_n hx hb dX0_markOthers_15 rfl (lv_at hl 2 rfl) ?_
        refine lv_if_eq (tgt := 28) hx hb dX0_markOthers_16 (by decide) (fun c2 => ?_) (fun c2 => ?_)
        · have h := h.1 c2
          refine lv_iconst (v := 0) hx hb dX0_markOthers_28 (by decide) ?_
          refine cZast hx hb hK hP hD hS 5 3 rfl rfl x3_.toNatClampNeg rfl h.1 (Or.inl rfl) dX0_markOthers_29 (fun H locs hP hD hS => ?_)
          have h := h.2
          refine lv_iinc (v := (x3_ + 1)) (lv' := [(3, .int (x3_ + 1)), (0, .ref a0), (1, .int p1), (2, .int p2)]) hx hb dX0_markOthers_30 hl (k := 3) rfl rfl (by decide) rfl (fun ls hl => ?_)
          refine lv_goto (tgt := 2) hx hb dX0_markOthers_33 (by decide) ?_
          have hP : va_P D vwCl (List.flatten ([cBikes a0 a1 a2 a3 a4 a5 C a_count a_worth a_seems a_place a_lock (upd a_marked x3_.toNatClampNeg 0)])) H := hP
          have hD : va_D A (List.flatten ([cBikes a0 a1 a2 a3 a4 a5 C a_count a_worth a_seems a_place a_lock (upd a_marked x3_.toNatClampNeg 0)])) := hD
          exact ih2 (x3_ + 1) (upd a_marked x3_.toNatClampNeg 0) _ _ _ h hP hD hS (lv_sub hl [1, 2, 3, 0] rfl)
        · have h := h.2 c2
          refine lv_iload_n hx hb dX0_markOthers_19 rfl (lv_at hl 3 rfl) ?_
          refine lv_iload_n hx hb dX0_markOthers_20 rfl (lv_at hl 1 rfl) ?_
          refine lv_icmp_eq (tgt := 28) hx hb dX0_markOthers_21 (by decide) (fun c3 => ?_) (fun c3 => ?_)
          · have h := h.1 c3
            refine lv_iconst (v := 0) hx hb dX0_markOthers_28 (by decide) ?_
            refine cZast hx hb hK hP hD hS 5 3 rfl rfl x3_.toNatClampNeg rfl h.1 (Or.inl rfl) dX0_markOthers_29 (fun H locs hP hD hS => ?_)
            have h := h.2
            refine lv_iinc (v := (x3_ + 1)) (lv' := [(3, .int (x3_ + 1)), (0, .ref a0), (1, .int p1), (2, .int p2)]) hx hb dX0_markOthers_30 hl (k := 3) rfl rfl (by decide) rfl (fun ls hl => ?_)
            refine lv_goto (tgt := 2) hx hb dX0_markOthers_33 (by decide) ?_
            have hP : va_P D vwCl (List.flatten ([cBikes a0 a1 a2 a3 a4 a5 C a_count a_worth a_seems a_place a_lock (upd a_marked x3_.toNatClampNeg 0)])) H := hP
            have hD : va_D A (List.flatten ([cBikes a0 a1 a2 a3 a4 a5 C a_count a_worth a_seems a_place a_lock (upd a_marked x3_.toNatClampNeg 0)])) := hD
            exact ih2 (x3_ + 1) (upd a_marked x3_.toNatClampNeg 0) _ _ _ h hP hD hS (lv_sub hl [1, 2, 3, 0] rfl)
          · have h := h.2 c3
            refine lv_iconst (v := 1) hx hb dX0_markOthers_24 (by decide) ?_
            refine lv_goto (tgt := 29) hx hb dX0_markOthers_25 (by decide) ?_
            refine cZast hx hb hK hP hD hS 5 3 rfl rfl x3_.toNatClampNeg rfl h.1 (Or.inr rfl) dX0_markOthers_29 (fun H locs hP hD hS => ?_)
            have h := h.2
            refine lv_iinc (v := (x3_ + 1)) (lv' := [(3, .int (x3_ + 1)), (0, .ref a0), (1, .int p1), (2, .int p2)]) hx hb dX0_markOthers_30 hl (k := 3) rfl rfl (by decide) rfl (fun ls hl => ?_)
            refine lv_goto (tgt := 2) hx hb dX0_markOthers_33 (by decide) ?_
            have hP : va_P D vwCl (List.flatten ([cBikes a0 a1 a2 a3 a4 a5 C a_count a_worth a_seems a_place a_lock (upd a_marked x3_.toNatClampNeg 1)])) H := hP
            have hD : va_D A (List.flatten ([cBikes a0 a1 a2 a3 a4 a5 C a_count a_worth a_seems a_place a_lock (upd a_marked x3_.toNatClampNeg 1)])) := hD
            exact ih2 (x3_ + 1) (upd a_marked x3_.toNatClampNeg 1) _ _ _ h hP hD hS (lv_sub hl [1, 2, 3, 0] rfl)
  refine lv_iconst (v := 0) hx hb dX0_markOthers_0 (by decide) ?_
  refine lv_istore_n (lv' := [(3, .int 0), (0, .ref a0), (1, .int p1), (2, .int p2)]) hx hb dX0_markOthers_1 rfl hl (by decide) rfl (fun ls hl => ?_)
  obtain ⟨n, h⟩ := h
  exact N2  n 0 a_marked _ _ _ h hP hD hS (lv_sub hl [1, 2, 3, 0] rfl)
