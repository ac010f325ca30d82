abbrev vsX12_next : List Cond := Cond.code yX12_next cX12_next 2 none :: WS
abbrev rmX12_next : Room := { frames := 1, cells := 0, slots := 0, locals := 23 }
set_option maxHeartbeats 4000000 in
set_option maxRecDepth 100000 in
theorem k_X12_next (l : Launch) (D : va_G) (C : Nat → ClassId) (sz : Nat) (aM : Nat → Nat)  (ms : Nat → Int32) (mw : Nat → Int64) (ma : Nat → Nat → Int32) (ml : Nat → Nat → Int64)  {post : (Nat → Int32) → (Nat → Int64) → Prop} (h : P_X12_next ms mw ma post) : Met l yX12_next vsX12_next rmX12_next (cPre D C [.ref (aM 0)] sz (wM aM C ms mw ma ml)) (cQv D (fun (u : (Nat → Int32) × (Nat → Int64)) => post u.1 u.2) (fun u => wM aM C u.1 u.2 ma ml) (va_A (List.flatten (wM aM C ms mw ma ml)) sz)) 0 0 (va_A (List.flatten (wM aM C ms mw ma ml)) sz) := by
  refine cStart (QA := fun A => cQv D (fun (u : (Nat → Int32) × (Nat → Int64)) => post u.1 u.2) (fun u => wM aM C u.1 u.2 ma ml) A) (cc := cX12_next) (maxL := 2) (ret := none) (by decide) (Nat.le_of_ble_eq_true rfl) ?_
  intro p e s m args below meth c A ls hx hb hr hml hown hw hlocks hname hK hN hA hP hD hS hl
  generalize hQ : MQ below _ args s 0 0 A = Q
  have hl : lv_has ls 2 [(0, .ref (aM 0))] := hl
  obtain ⟨H, hH⟩ : ∃ H, H = s.heap := ⟨_, rfl⟩
  obtain ⟨locs, hlo⟩ : ∃ z : List Loc, z = [] := ⟨_, rfl⟩
  have hP : va_P D vwCl (List.flatten (wM aM C ms mw ma ml)) H := by rw [hH]; exact hP
  have hS : va_S A s.heap H locs := by rw [hH, hlo]; exact hS
  rw [show W p l e rmX12_next s m args below meth c s.heap [] 0 0 Q (F0 m 0 ls []) = W p l e rmX12_next s m args below meth c H locs 0 0 Q (F0 m 0 ls []) from by rw [hH, hlo]]
  have N208 : ∀ (mw : Nat → Int64) (n208 : Nat) (ms : Nat → Int32) (H : Heap) (locs : List Loc) (ls : Array Slot), P_X12_next_208 ma post  mw n208 ms → va_P D vwCl (List.flatten (wM aM C ms mw ma ml)) H → va_D A (List.flatten (wM aM C ms mw ma ml)) → va_S A s.heap H locs → lv_has ls 2 [(0, .ref (aM 0))] → W p l e rmX12_next s m args below meth c H locs 0 0 Q (F0 m 208 ls []) := by
    intro mw
    intro n208
    induction n208 with
    | zero => intro ms H locs ls h hP hD hS hl; exact False.elim h
    | succ n208 ih208 =>
      intro ms H locs ls h hP hD hS hl
      have h : P_X12_next_208_b ma post  mw (P_X12_next_208 ma post  mw n208) ms := h
      unfold P_X12_next_208_b at h
      refine lv_aload_n hx hb dX12_next_208 rfl (lv_at hl 0 rfl) ?_
      refine lv_aload_n hx hb dX12_next_209 rfl (lv_at hl 0 rfl) ?_
      refine va_get (D := D) (ci := 12) (v := .int (ms 2)) (C := RX12) (T := TX12) (N := 51) hx hb hw inW_X12 hown hK hP 0 rfl rfl 7 (by decide) (hw _ mw_6_50) (fun _ h9 => h9) rfl dX12_next_210 ?_
      refine lv_bipush (v := 48) hx hb dX12_next_213 (by decide) ?_
      refine lv_bipush (v := 57) hx hb dX12_next_215 (by decide) ?_
      refine cGoI (wo := fun u => wM aM C ms mw ma ml) (cRunV (As := [.int (ms 2), .int 48, .int 57]) (rest := []) ⟨hx, hb, hml, hown, hw⟩ hK hN hP hD [0, 1, 2, 3, 4, 5, 6, 7, 8, 9, 10, 11, 12, 13, 14, 15, 16, 17, 18, 19, 20, 21, 22, 23, 24, 25, 26, 27, 28, 29, 30, 31, 32] rfl rfl (k_X12_isByte l D C _ aM  ms mw ma ml (ms 2) 48 57 h) (cwV 3 hw (goodV mw_7_11 mw_7_13 mw_s112 mw_1_13 mw_7_14) rfl rfl rfl (by decide +kernel) ⟨Nat.le_of_ble_eq_true rfl, Nat.le_of_ble_eq_true rfl⟩) rfl rfl rfl hl.1 rfl (Nat.le_of_ble_eq_true rfl) dX12_next_217 ⟨Nat.zero_le _, Nat.zero_le _⟩) hP hD hS hA [0, 1, 2, 3, 4, 5, 6, 7, 8, 9, 10, 11, 12, 13, 14, 15, 16, 17, 18, 19, 20, 21, 22, 23, 24, 25, 26, 27, 28, 29, 30, 31, 32] [] [0, 1, 2, 3, 4, 5, 6, 7, 8, 9, 10, 11, 12, 13, 14, 15, 16, 17, 18, 19, 20, 21, 22, 23, 24, 25, 26, 27, 28, 29, 30, 31, 32] rfl rfl rfl (by decide) rfl (fun _ => rfl) (fun r4 u H locs h hP hD hS => ?_)
      have hP : va_P D vwCl (List.flatten (wM aM C ms mw ma ml)) H := hP
      have hD : va_D A (List.flatten (wM aM C ms mw ma ml)) := hD
      refine lv_if_eq (tgt := 307) hx hb dX12_next_220 (by decide) (fun c5 => ?_) (fun c5 => ?_)
      · have h := h.1 c5
        rw [← hQ]
        exact cRetV (ms, mw) hx hb hr hlocks hS hP hD h dX12_next_307
      · have h := h.2 c5
        refine lv_aload_n hx hb dX12_next_223 rfl (lv_at hl 0 rfl) ?_
        refine lv_aload_n hx hb dX12_next_224 rfl (lv_at hl 0 rfl) ?_
        refine va_get (D := D) (ci := 12) (v := .int (ms 5)) (C := RX12) (T := TX12) (N := 51) hx hb hw inW_X12 hown hK hP 0 rfl rfl 10 (by decide) (hw _ mw_6_53) (fun _ h9 => h9) rfl dX12_next_225 ?_
        refine lv_ldc (v := 100000) hx hb hown (hw _ mw_7_18) dX12_next_228 ?_
        refine lv_icmp_le (tgt := 238) hx hb dX12_next_230 (by decide) (fun c6 => ?_) (fun c6 => ?_)
        · have h := h.1 c6
          refine lv_bipush (v := 10) hx hb dX12_next_238 (by decide) ?_
          refine lv_aload_n hx hb dX12_next_240 rfl (lv_at hl 0 rfl) ?_
          refine va_get (D := D) (ci := 12) (v := .int (ms 5)) (C := RX12) (T := TX12) (N := 51) hx hb hw inW_X12 hown hK hP 0 rfl rfl 10 (by decide) (hw _ mw_6_53) (fun _ h9 => h9) rfl dX12_next_241 ?_
          refine lv_imul hx hb dX12_next_244 ?_
          refine lv_aload_n hx hb dX12_next_245 rfl (lv_at hl 0 rfl) ?_
          refine va_get (D := D) (ci := 12) (v := .ref (aM 5)) (C := RX12) (T := TX12) (N := 51) hx hb hw inW_X12 hown hK hP 0 rfl rfl 5 (by decide) (hw _ mw_6_48) (fun _ h9 => h9) rfl dX12_next_246 ?_
          refine lv_aload_n hx hb dX12_next_249 rfl (lv_at hl 0 rfl) ?_
          refine va_get (D := D) (ci := 12) (v := .int (ms 2)) (C := RX12) (T := TX12) (N := 51) hx hb hw inW_X12 hown hK hP 0 rfl rfl 7 (by decide) (hw _ mw_6_50) (fun _ h9 => h9) rfl dX12_next_250 ?_
          refine cBald hx hb hK hP 5 2 rfl rfl ((ms 2).toNatClampNeg) rfl h.1 dX12_next_253 ?_
          have h := h.2
          refine lv_iadd hx hb dX12_next_254 ?_
          refine lv_bipush (v := 48) hx hb dX12_next_255 (by decide) ?_
          refine lv_isub hx hb dX12_next_257 ?_
          refine lv_topi (fun x7 ex7 => ?_)
          have h := h x7 ex7
          refine va_put (D := D) (ci := 12) (v := .int x7) (ty := .int) (C := RX12) (T := TX12) (N := 51) hx hb hw inW_X12 tyX12 tyX12_ok nmX12 hown hK hP hD hS 0 rfl rfl 10 (by decide) (hw _ mw_6_53) (fun _ h9 => h9) rfl (by decide +kernel) rfl rfl (Nat.le_of_ble_eq_true rfl) dX12_next_258 (fun H locs hP hD hS => ?_)
          refine lv_aload_n hx hb dX12_next_261 rfl (lv_at hl 0 rfl) ?_
          refine lv_dup hx hb dX12_next_262 rfl ?_
          refine va_get (D := D) (ci := 12) (v := .int (ms 2)) (C := RX12) (T := TX12) (N := 51) hx hb hw inW_X12 hown hK hP 0 rfl rfl 7 (by decide) (hw _ mw_6_50) (fun _ h9 => h9) rfl dX12_next_263 ?_
          refine lv_iconst (v := 1) hx hb dX12_next_266 (by decide) ?_
          refine lv_iadd hx hb dX12_next_267 ?_
          refine lv_topi (fun x8 ex8 => ?_)
          have h := h x8 ex8
          refine va_put (D := D) (ci := 12) (v := .int x8) (ty := .int) (C := RX12) (T := TX12) (N := 51) hx hb hw inW_X12 tyX12 tyX12_ok nmX12 hown hK hP hD hS 0 rfl rfl 7 (by decide) (hw _ mw_6_50) (fun _ h9 => h9) rfl (by decide +kernel) rfl rfl (Nat.le_of_ble_eq_true rfl) dX12_next_268 (fun H locs hP hD hS => ?_)
          refine lv_goto (tgt := 208) hx hb dX12_next_271 (by decide) ?_
          have hP : va_P D vwCl (List.flatten (wM aM C (va_up (va_up ms 2 x8) 5 x7) mw ma ml)) H := hP
          have hD : va_D A (List.flatten (wM aM C (va_up (va_up ms 2 x8) 5 x7) mw ma ml)) := hD
          exact ih208 (va_up (va_up ms 2 x8) 5 x7) _ _ _ h hP hD hS (lv_sub hl [0] rfl)
        · have h := h.2 c6
          refine lv_ldc (v := 1000000) hx hb hown (hw _ mw_7_19) dX12_next_233 ?_
          refine lv_goto (tgt := 258) hx hb dX12_next_235 (by decide) ?_
          refine va_put (D := D) (ci := 12) (v := .int 1000000) (ty := .int) (C := RX12) (T := TX12) (N := 51) hx hb hw inW_X12 tyX12 tyX12_ok nmX12 hown hK hP hD hS 0 rfl rfl 10 (by decide) (hw _ mw_6_53) (fun _ h9 => h9) rfl (by decide +kernel) rfl rfl (Nat.le_of_ble_eq_true rfl) dX12_next_258 (fun H locs hP hD hS => ?_)
          refine lv_aload_n hx hb dX12_next_261 rfl (lv_at hl 0 rfl) ?_
          refine lv_dup hx hb dX12_next_262 rfl ?_
          refine va_get (D := D) (ci := 12) (v := .int (ms 2)) (C := RX12) (T := TX12) (N := 51) hx hb hw inW_X12 hown hK hP 0 rfl rfl 7 (by decide) (hw _ mw_6_50) (fun _ h9 => h9) rfl dX12_next_263 ?_
          refine lv_iconst (v := 1) hx hb dX12_next_266 (by decide) ?_
          refine lv_iadd hx hb dX12_next_267 ?_
          refine lv_topi (fun x9 ex9 => ?_)
          have h := h x9 ex9
          refine va_put (D := D) (ci := 12) (v := .int x9) (ty := .int) (C := RX12) (T := TX12) (N := 51) hx hb hw inW_X12 tyX12 tyX12_ok nmX12 hown hK hP hD hS 0 rfl rfl 7 (by decide) (hw _ mw_6_50) (fun _ h9 => h9) rfl (by decide +kernel) rfl rfl (Nat.le_of_ble_eq_true rfl) dX12_next_268 (fun H locs hP hD hS => ?_)
          refine lv_goto (tgt := 208) hx hb dX12_next_271 (by decide) ?_
          have hP : va_P D vwCl (List.flatten (wM aM C (va_up (va_up ms 2 x9) 5 1000000) mw ma ml)) H := hP
          have hD : va_D A (List.flatten (wM aM C (va_up (va_up ms 2 x9) 5 1000000) mw ma ml)) := hD
          exact ih208 (va_up (va_up ms 2 x9) 5 1000000) _ _ _ h hP hD hS (lv_sub hl [0] rfl)
  have N102 : ∀  (n102 : Nat) (x1_ : Int32) (ms : Nat → Int32) (mw : Nat → Int64) (H : Heap) (locs : List Loc) (ls : Array Slot), P_X12_next_102 ma post   n102 x1_ ms mw → va_P D vwCl (List.flatten (wM aM C ms mw ma ml)) H → va_D A (List.flatten (wM aM C ms mw ma ml)) → va_S A s.heap H locs → lv_has ls 2 [(0, .ref (aM 0)), (1, .int x1_)] → W p l e rmX12_next s m args below meth c H locs 0 0 Q (F0 m 102 ls []) := by
    intro n102
    induction n102 with
    | zero => intro x1_ ms mw H locs ls h hP hD hS hl; exact False.elim h
    | succ n102 ih102 =>
      have N153 : ∀ (x1_ : Int32) (k0_ : Int64) (ms : Nat → Int32) (mw : Nat → Int64) (H : Heap) (locs : List Loc) (ls : Array Slot), P_X12_next_153 ma post (P_X12_next_102 ma post   n102) x1_ k0_ ms mw → va_P D vwCl (List.flatten (wM aM C ms mw ma ml)) H → va_D A (List.flatten (wM aM C ms mw ma ml)) → va_S A s.heap H locs → lv_has ls 2 [(0, .ref (aM 0)), (1, .int x1_)] → W p l e rmX12_next s m args below meth c H locs 0 0 Q (F0 m 153 ls [.long k0_, .ref (aM 0)]) := by
        intro x1_ k0_ ms mw H locs ls h hP hD hS hl
        refine va_put (D := D) (ci := 12) (v := .long k0_) (ty := .long) (C := RX12) (T := TX12) (N := 51) hx hb hw inW_X12 tyX12 tyX12_ok nmX12 hown hK hP hD hS 0 rfl rfl 11 (by decide) (hw _ mw_6_54) (fun _ h9 => h9) rfl (by decide +kernel) rfl rfl (Nat.le_of_ble_eq_true rfl) dX12_next_153 (fun H locs hP hD hS => ?_)
        refine lv_iload_n hx hb dX12_next_156 rfl (lv_at hl 1 rfl) ?_
        refine lv_bipush (v := 11) hx hb dX12_next_157 (by decide) ?_
        refine lv_icmp_le (tgt := 169) hx hb dX12_next_159 (by decide) (fun c1 => ?_) (fun c1 => ?_)
        · have h := h.1 c1
          refine lv_aload_n hx hb dX12_next_169 rfl (lv_at hl 0 rfl) ?_
          refine lv_dup hx hb dX12_next_170 rfl ?_
          refine va_get (D := D) (ci := 12) (v := .int (ms 2)) (C := RX12) (T := TX12) (N := 51) hx hb hw inW_X12 hown hK hP 0 rfl rfl 7 (by decide) (hw _ mw_6_50) (fun _ h9 => h9) rfl dX12_next_171 ?_
          refine lv_iconst (v := 1) hx hb dX12_next_174 (by decide) ?_
          refine lv_iadd hx hb dX12_next_175 ?_
          refine lv_topi (fun x2 ex2 => ?_)
          have h := h x2 ex2
          refine va_put (D := D) (ci := 12) (v := .int x2) (ty := .int) (C := RX12) (T := TX12) (N := 51) hx hb hw inW_X12 tyX12 tyX12_ok nmX12 hown hK hP hD hS 0 rfl rfl 7 (by decide) (hw _ mw_6_50) (fun _ h9 => h9) rfl (by decide +kernel) rfl rfl (Nat.le_of_ble_eq_true rfl) dX12_next_176 (fun H locs hP hD hS => ?_)
          refine lv_iinc (v := (x1_ + 1)) (lv' := [(1, .int (x1_ + 1)), (0, .ref (aM 0))]) hx hb dX12_next_179 hl (k := 1) rfl rfl (by decide) rfl (fun ls hl => ?_)
          refine lv_goto (tgt := 102) hx hb dX12_next_182 (by decide) ?_
          have hP : va_P D vwCl (List.flatten (wM aM C (va_up ms 2 x2) (va_up mw 0 k0_) ma ml)) H := hP
          have hD : va_D A (List.flatten (wM aM C (va_up ms 2 x2) (va_up mw 0 k0_) ma ml)) := hD
          exact ih102 (x1_ + 1) (va_up ms 2 x2) (va_up mw 0 k0_) _ _ _ h hP hD hS (lv_sub hl [1, 0] rfl)
        · have h := h.2 c1
          refine lv_aload_n hx hb dX12_next_162 rfl (lv_at hl 0 rfl) ?_
          refine lv_ldc2 (v := (-1)) hx hb hown (hw _ mw_7_15) dX12_next_163 ?_
          refine va_put (D := D) (ci := 12) (v := .long (-1)) (ty := .long) (C := RX12) (T := TX12) (N := 51) hx hb hw inW_X12 tyX12 tyX12_ok nmX12 hown hK hP hD hS 0 rfl rfl 11 (by decide) (hw _ mw_6_54) (fun _ h9 => h9) rfl (by decide +kernel) rfl rfl (Nat.le_of_ble_eq_true rfl) dX12_next_166 (fun H locs hP hD hS => ?_)
          refine lv_aload_n hx hb dX12_next_169 rfl (lv_at hl 0 rfl) ?_
          refine lv_dup hx hb dX12_next_170 rfl ?_
          refine va_get (D := D) (ci := 12) (v := .int (ms 2)) (C := RX12) (T := TX12) (N := 51) hx hb hw inW_X12 hown hK hP 0 rfl rfl 7 (by decide) (hw _ mw_6_50) (fun _ h9 => h9) rfl dX12_next_171 ?_
          refine lv_iconst (v := 1) hx hb dX12_next_174 (by decide) ?_
          refine lv_iadd hx hb dX12_next_175 ?_
          refine lv_topi (fun x3 ex3 => ?_)
          have h := h x3 ex3
          refine va_put (D := D) (ci := 12) (v := .int x3) (ty := .int) (C := RX12) (T := TX12) (N := 51) hx hb hw inW_X12 tyX12 tyX12_ok nmX12 hown hK hP hD hS 0 rfl rfl 7 (by decide) (hw _ mw_6_50) (fun _ h9 => h9) rfl (by decide +kernel) rfl rfl (Nat.le_of_ble_eq_true rfl) dX12_next_176 (fun H locs hP hD hS => ?_)
          refine lv_iinc (v := (x1_ + 1)) (lv' := [(1, .int (x1_ + 1)), (0, .ref (aM 0))]) hx hb dX12_next_179 hl (k := 1) rfl rfl (by decide) rfl (fun ls hl => ?_)
          refine lv_goto (tgt := 102) hx hb dX12_next_182 (by decide) ?_
          have hP : va_P D vwCl (List.flatten (wM aM C (va_up ms 2 x3) (va_up mw 0 (-1)) ma ml)) H := hP
          have hD : va_D A (List.flatten (wM aM C (va_up ms 2 x3) (va_up mw 0 (-1)) ma ml)) := hD
          exact ih102 (x1_ + 1) (va_up ms 2 x3) (va_up mw 0 (-1)) _ _ _ h hP hD hS (lv_sub hl [1, 0] rfl)
      intro x1_ ms mw H locs ls h hP hD hS hl
      have h : P_X12_next_102_b ma post   (P_X12_next_102 ma post   n102) x1_ ms mw := h
      unfold P_X12_next_102_b at h
      refine lv_aload_n hx hb dX12_next_102 rfl (lv_at hl 0 rfl) ?_
      refine lv_aload_n hx hb dX12_next_103 rfl (lv_at hl 0 rfl) ?_
      refine va_get (D := D) (ci := 12) (v := .int (ms 2)) (C := RX12) (T := TX12) (N := 51) hx hb hw inW_X12 hown hK hP 0 rfl rfl 7 (by decide) (hw _ mw_6_50) (fun _ h9 => h9) rfl dX12_next_104 ?_
      refine lv_bipush (v := 97) hx hb dX12_next_107 (by decide) ?_
      refine lv_bipush (v := 122) hx hb dX12_next_109 (by decide) ?_
      refine cGoI (wo := fun u => wM aM C ms mw ma ml) (cRunV (As := [.int (ms 2), .int 97, .int 122]) (rest := []) ⟨hx, hb, hml, hown, hw⟩ hK hN hP hD [0, 1, 2, 3, 4, 5, 6, 7, 8, 9, 10, 11, 12, 13, 14, 15, 16, 17, 18, 19, 20, 21, 22, 23, 24, 25, 26, 27, 28, 29, 30, 31, 32] rfl rfl (k_X12_isByte l D C _ aM  ms mw ma ml (ms 2) 97 122 h) (cwV 3 hw (goodV mw_7_11 mw_7_13 mw_s112 mw_1_13 mw_7_14) rfl rfl rfl (by decide +kernel) ⟨Nat.le_of_ble_eq_true rfl, Nat.le_of_ble_eq_true rfl⟩) rfl rfl rfl hl.1 rfl (Nat.le_of_ble_eq_true rfl) dX12_next_111 ⟨Nat.zero_le _, Nat.zero_le _⟩) hP hD hS hA [0, 1, 2, 3, 4, 5, 6, 7, 8, 9, 10, 11, 12, 13, 14, 15, 16, 17, 18, 19, 20, 21, 22, 23, 24, 25, 26, 27, 28, 29, 30, 31, 32] [] [0, 1, 2, 3, 4, 5, 6, 7, 8, 9, 10, 11, 12, 13, 14, 15, 16, 17, 18, 19, 20, 21, 22, 23, 24, 25, 26, 27, 28, 29, 30, 31, 32] rfl rfl rfl (by decide) rfl (fun _ => rfl) (fun r10 u H locs h hP hD hS => ?_)
      have hP : va_P D vwCl (List.flatten (wM aM C ms mw ma ml)) H := hP
      have hD : va_D A (List.flatten (wM aM C ms mw ma ml)) := hD
      refine lv_if_eq (tgt := 185) hx hb dX12_next_114 (by decide) (fun c11 => ?_) (fun c11 => ?_)
      · have h := h.1 c11
        refine lv_goto (tgt := 307) hx hb dX12_next_185 (by decide) ?_
        rw [← hQ]
        exact cRetV (ms, mw) hx hb hr hlocks hS hP hD h dX12_next_307
      · have h := h.2 c11
        refine lv_aload_n hx hb dX12_next_117 rfl (lv_at hl 0 rfl) ?_
        refine lv_iload_n hx hb dX12_next_118 rfl (lv_at hl 1 rfl) ?_
        refine lv_bipush (v := 11) hx hb dX12_next_119 (by decide) ?_
        refine lv_icmp_le (tgt := 130) hx hb dX12_next_121 (by decide) (fun c12 => ?_) (fun c12 => ?_)
        · have h := h.1 c12
          refine lv_ldc2 (v := 27) hx hb hown (hw _ mw_7_16) dX12_next_130 ?_
          refine lv_aload_n hx hb dX12_next_133 rfl (lv_at hl 0 rfl) ?_
          refine va_get (D := D) (ci := 12) (v := .long (mw 0)) (C := RX12) (T := TX12) (N := 51) hx hb hw inW_X12 hown hK hP 0 rfl rfl 11 (by decide) (hw _ mw_6_54) (fun _ h9 => h9) rfl dX12_next_134 ?_
          refine lv_lmul hx hb dX12_next_137 ?_
          refine lv_aload_n hx hb dX12_next_138 rfl (lv_at hl 0 rfl) ?_
          refine va_get (D := D) (ci := 12) (v := .ref (aM 5)) (C := RX12) (T := TX12) (N := 51) hx hb hw inW_X12 hown hK hP 0 rfl rfl 5 (by decide) (hw _ mw_6_48) (fun _ h9 => h9) rfl dX12_next_139 ?_
          refine lv_aload_n hx hb dX12_next_142 rfl (lv_at hl 0 rfl) ?_
          refine va_get (D := D) (ci := 12) (v := .int (ms 2)) (C := RX12) (T := TX12) (N := 51) hx hb hw inW_X12 hown hK hP 0 rfl rfl 7 (by decide) (hw _ mw_6_50) (fun _ h9 => h9) rfl dX12_next_143 ?_
          refine cBald hx hb hK hP 5 2 rfl rfl ((ms 2).toNatClampNeg) rfl h.1 dX12_next_146 ?_
          have h := h.2
          refine lv_i2l hx hb dX12_next_147 rfl ?_
          refine lv_ladd hx hb dX12_next_148 ?_
          refine lv_ldc2 (v := 96) hx hb hown (hw _ mw_7_17) dX12_next_149 ?_
          refine lv_lsub hx hb dX12_next_152 ?_
          exact N153 x1_ (((27 * (mw 0)) + (ma 2 ((ms 2).toNatClampNeg)).toInt64) - 96) ms mw _ _ _ h hP hD hS (lv_sub hl [0, 1] rfl)
        · have h := h.2 c12
          refine lv_ldc2 (v := (-1)) hx hb hown (hw _ mw_7_15) dX12_next_124 ?_
          refine lv_goto (tgt := 153) hx hb dX12_next_127 (by decide) ?_
          exact N153 x1_ (-1) ms mw _ _ _ h hP hD hS (lv_sub hl [0, 1] rfl)
  have N43 : ∀ (ms : Nat → Int32) (mw : Nat → Int64) (H : Heap) (locs : List Loc) (ls : Array Slot), P_X12_next_43 ma post  ms mw → va_P D vwCl (List.flatten (wM aM C ms mw ma ml)) H → va_D A (List.flatten (wM aM C ms mw ma ml)) → va_S A s.heap H locs → lv_has ls 2 [(0, .ref (aM 0))] → W p l e rmX12_next s m args below meth c H locs 0 0 Q (F0 m 43 ls []) := by
    intro ms mw H locs ls h hP hD hS hl
    refine lv_aload_n hx hb dX12_next_43 rfl (lv_at hl 0 rfl) ?_
    refine lv_aload_n hx hb dX12_next_44 rfl (lv_at hl 0 rfl) ?_
    refine va_get (D := D) (ci := 12) (v := .int (ms 2)) (C := RX12) (T := TX12) (N := 51) hx hb hw inW_X12 hown hK hP 0 rfl rfl 7 (by decide) (hw _ mw_6_50) (fun _ h9 => h9) rfl dX12_next_45 ?_
    refine lv_topi (fun x13 ex13 => ?_)
    have h := h x13 ex13
    refine va_put (D := D) (ci := 12) (v := .int x13) (ty := .int) (C := RX12) (T := TX12) (N := 51) hx hb hw inW_X12 tyX12 tyX12_ok nmX12 hown hK hP hD hS 0 rfl rfl 9 (by decide) (hw _ mw_6_52) (fun _ h9 => h9) rfl (by decide +kernel) rfl rfl (Nat.le_of_ble_eq_true rfl) dX12_next_48 (fun H locs hP hD hS => ?_)
    refine lv_aload_n hx hb dX12_next_51 rfl (lv_at hl 0 rfl) ?_
    refine lv_iconst (v := 0) hx hb dX12_next_52 (by decide) ?_
    refine va_put (D := D) (ci := 12) (v := .int 0) (ty := .int) (C := RX12) (T := TX12) (N := 51) hx hb hw inW_X12 tyX12 tyX12_ok nmX12 hown hK hP hD hS 0 rfl rfl 10 (by decide) (hw _ mw_6_53) (fun _ h9 => h9) rfl (by decide +kernel) rfl rfl (Nat.le_of_ble_eq_true rfl) dX12_next_53 (fun H locs hP hD hS => ?_)
    refine lv_aload_n hx hb dX12_next_56 rfl (lv_at hl 0 rfl) ?_
    refine lv_lconst (v := 0) hx hb dX12_next_57 (by decide) ?_
    refine va_put (D := D) (ci := 12) (v := .long 0) (ty := .long) (C := RX12) (T := TX12) (N := 51) hx hb hw inW_X12 tyX12 tyX12_ok nmX12 hown hK hP hD hS 0 rfl rfl 11 (by decide) (hw _ mw_6_54) (fun _ h9 => h9) rfl (by decide +kernel) rfl rfl (Nat.le_of_ble_eq_true rfl) dX12_next_58 (fun H locs hP hD hS => ?_)
    refine lv_aload_n hx hb dX12_next_61 rfl (lv_at hl 0 rfl) ?_
    refine va_get (D := D) (ci := 12) (v := .int (ms 2)) (C := RX12) (T := TX12) (N := 51) hx hb hw inW_X12 hown hK hP 0 rfl rfl 7 (by decide) (hw _ mw_6_50) (fun _ h9 => h9) rfl dX12_next_62 ?_
    refine lv_aload_n hx hb dX12_next_65 rfl (lv_at hl 0 rfl) ?_
    refine va_get (D := D) (ci := 12) (v := .int (ms 1)) (C := RX12) (T := TX12) (N := 51) hx hb hw inW_X12 hown hK hP 0 rfl rfl 6 (by decide) (hw _ mw_6_49) (fun _ h9 => h9) rfl dX12_next_66 ?_
    refine lv_icmp_ne (tgt := 80) hx hb dX12_next_69 (by decide) (fun c14 => ?_) (fun c14 => ?_)
    · have h := h.1 c14
      refine lv_aload_n hx hb dX12_next_80 rfl (lv_at hl 0 rfl) ?_
      refine lv_aload_n hx hb dX12_next_81 rfl (lv_at hl 0 rfl) ?_
      refine va_get (D := D) (ci := 12) (v := .int (ms 2)) (C := RX12) (T := TX12) (N := 51) hx hb hw inW_X12 hown hK hP 0 rfl rfl 7 (by decide) (hw _ mw_6_50) (fun _ h9 => h9) rfl dX12_next_82 ?_
      refine lv_bipush (v := 97) hx hb dX12_next_85 (by decide) ?_
      refine lv_bipush (v := 122) hx hb dX12_next_87 (by decide) ?_
      have hP : va_P D vwCl (List.flatten (wM aM C (va_up (va_up ms 4 x13) 5 0) (va_up mw 0 0) ma ml)) H := hP
      have hD : va_D A (List.flatten (wM aM C (va_up (va_up ms 4 x13) 5 0) (va_up mw 0 0) ma ml)) := hD
      refine cGoI (wo := fun u => wM aM C (va_up (va_up ms 4 x13) 5 0) (va_up mw 0 0) ma ml) (cRunV (As := [.int (ms 2), .int 97, .int 122]) (rest := []) ⟨hx, hb, hml, hown, hw⟩ hK hN hP hD [0, 1, 2, 3, 4, 5, 6, 7, 8, 9, 10, 11, 12, 13, 14, 15, 16, 17, 18, 19, 20, 21, 22, 23, 24, 25, 26, 27, 28, 29, 30, 31, 32] rfl rfl (k_X12_isByte l D C _ aM  (va_up (va_up ms 4 x13) 5 0) (va_up mw 0 0) ma ml (ms 2) 97 122 h) (cwV 3 hw (goodV mw_7_11 mw_7_13 mw_s112 mw_1_13 mw_7_14) rfl rfl rfl (by decide +kernel) ⟨Nat.le_of_ble_eq_true rfl, Nat.le_of_ble_eq_true rfl⟩) rfl rfl rfl hl.1 rfl (Nat.le_of_ble_eq_true rfl) dX12_next_89 ⟨Nat.zero_le _, Nat.zero_le _⟩) hP hD hS hA [0, 1, 2, 3, 4, 5, 6, 7, 8, 9, 10, 11, 12, 13, 14, 15, 16, 17, 18, 19, 20, 21, 22, 23, 24, 25, 26, 27, 28, 29, 30, 31, 32] [] [0, 1, 2, 3, 4, 5, 6, 7, 8, 9, 10, 11, 12, 13, 14, 15, 16, 17, 18, 19, 20, 21, 22, 23, 24, 25, 26, 27, 28, 29, 30, 31, 32] rfl rfl rfl (by decide) rfl (fun _ => rfl) (fun r15 u H locs h hP hD hS => ?_)
      have hP : va_P D vwCl (List.flatten (wM aM C (va_up (va_up ms 4 x13) 5 0) (va_up mw 0 0) ma ml)) H := hP
      have hD : va_D A (List.flatten (wM aM C (va_up (va_up ms 4 x13) 5 0) (va_up mw 0 0) ma ml)) := hD
      refine lv_if_eq (tgt := 188) hx hb dX12_next_92 (by decide) (fun c16 => ?_) (fun c16 => ?_)
      · have h := h.1 c16
        refine lv_aload_n hx hb dX12_next_188 rfl (lv_at hl 0 rfl) ?_
        refine lv_aload_n hx hb dX12_next_189 rfl (lv_at hl 0 rfl) ?_
        refine va_get (D := D) (ci := 12) (v := .int (ms 2)) (C := RX12) (T := TX12) (N := 51) hx hb hw inW_X12 hown hK hP 0 rfl rfl 7 (by decide) (hw _ mw_6_50) (fun _ h9 => h9) rfl dX12_next_190 ?_
        refine lv_bipush (v := 48) hx hb dX12_next_193 (by decide) ?_
        refine lv_bipush (v := 57) hx hb dX12_next_195 (by decide) ?_
        refine cGoI (wo := fun u => wM aM C (va_up (va_up ms 4 x13) 5 0) (va_up mw 0 0) ma ml) (cRunV (As := [.int (ms 2), .int 48, .int 57]) (rest := []) ⟨hx, hb, hml, hown, hw⟩ hK hN hP hD [0, 1, 2, 3, 4, 5, 6, 7, 8, 9, 10, 11, 12, 13, 14, 15, 16, 17, 18, 19, 20, 21, 22, 23, 24, 25, 26, 27, 28, 29, 30, 31, 32] rfl rfl (k_X12_isByte l D C _ aM  (va_up (va_up ms 4 x13) 5 0) (va_up mw 0 0) ma ml (ms 2) 48 57 h) (cwV 3 hw (goodV mw_7_11 mw_7_13 mw_s112 mw_1_13 mw_7_14) rfl rfl rfl (by decide +kernel) ⟨Nat.le_of_ble_eq_true rfl, Nat.le_of_ble_eq_true rfl⟩) rfl rfl rfl hl.1 rfl (Nat.le_of_ble_eq_true rfl) dX12_next_197 ⟨Nat.zero_le _, Nat.zero_le _⟩) hP hD hS hA [0, 1, 2, 3, 4, 5, 6, 7, 8, 9, 10, 11, 12, 13, 14, 15, 16, 17, 18, 19, 20, 21, 22, 23, 24, 25, 26, 27, 28, 29, 30, 31, 32] [] [0, 1, 2, 3, 4, 5, 6, 7, 8, 9, 10, 11, 12, 13, 14, 15, 16, 17, 18, 19, 20, 21, 22, 23, 24, 25, 26, 27, 28, 29, 30, 31, 32] rfl rfl rfl (by decide) rfl (fun _ => rfl) (fun r17 u H locs h hP hD hS => ?_)
        have hP : va_P D vwCl (List.flatten (wM aM C (va_up (va_up ms 4 x13) 5 0) (va_up mw 0 0) ma ml)) H := hP
        have hD : va_D A (List.flatten (wM aM C (va_up (va_up ms 4 x13) 5 0) (va_up mw 0 0) ma ml)) := hD
        refine lv_if_eq (tgt := 274) hx hb dX12_next_200 (by decide) (fun c18 => ?_) (fun c18 => ?_)
        · have h := h.1 c18
          refine lv_aload_n hx hb dX12_next_274 rfl (lv_at hl 0 rfl) ?_
          refine lv_aload_n hx hb dX12_next_275 rfl (lv_at hl 0 rfl) ?_
          refine va_get (D := D) (ci := 12) (v := .ref (aM 5)) (C := RX12) (T := TX12) (N := 51) hx hb hw inW_X12 hown hK hP 0 rfl rfl 5 (by decide) (hw _ mw_6_48) (fun _ h9 => h9) rfl dX12_next_276 ?_
          refine lv_aload_n hx hb dX12_next_279 rfl (lv_at hl 0 rfl) ?_
          refine va_get (D := D) (ci := 12) (v := .int (ms 2)) (C := RX12) (T := TX12) (N := 51) hx hb hw inW_X12 hown hK hP 0 rfl rfl 7 (by decide) (hw _ mw_6_50) (fun _ h9 => h9) rfl dX12_next_280 ?_
          refine cBald hx hb hK hP 5 2 rfl rfl ((ms 2).toNatClampNeg) rfl h.1 dX12_next_283 ?_
          have h := h.2
          refine lv_bipush (v := 59) hx hb dX12_next_284 (by decide) ?_
          refine lv_icmp_ne (tgt := 293) hx hb dX12_next_286 (by decide) (fun c19 => ?_) (fun c19 => ?_)
          · have h := h.1 c19
            refine lv_iconst (v := 4) hx hb dX12_next_293 (by decide) ?_
            refine va_put (D := D) (ci := 12) (v := .int 4) (ty := .int) (C := RX12) (T := TX12) (N := 51) hx hb hw inW_X12 tyX12 tyX12_ok nmX12 hown hK hP hD hS 0 rfl rfl 8 (by decide) (hw _ mw_6_51) (fun _ h9 => h9) rfl (by decide +kernel) rfl rfl (Nat.le_of_ble_eq_true rfl) dX12_next_294 (fun H locs hP hD hS => ?_)
            refine lv_aload_n hx hb dX12_next_297 rfl (lv_at hl 0 rfl) ?_
            refine lv_dup hx hb dX12_next_298 rfl ?_
            refine va_get (D := D) (ci := 12) (v := .int (ms 2)) (C := RX12) (T := TX12) (N := 51) hx hb hw inW_X12 hown hK hP 0 rfl rfl 7 (by decide) (hw _ mw_6_50) (fun _ h9 => h9) rfl dX12_next_299 ?_
            refine lv_iconst (v := 1) hx hb dX12_next_302 (by decide) ?_
            refine lv_iadd hx hb dX12_next_303 ?_
            refine lv_topi (fun x20 ex20 => ?_)
            have h := h x20 ex20
            refine va_put (D := D) (ci := 12) (v := .int x20) (ty := .int) (C := RX12) (T := TX12) (N := 51) hx hb hw inW_X12 tyX12 tyX12_ok nmX12 hown hK hP hD hS 0 rfl rfl 7 (by decide) (hw _ mw_6_50) (fun _ h9 => h9) rfl (by decide +kernel) rfl rfl (Nat.le_of_ble_eq_true rfl) dX12_next_304 (fun H locs hP hD hS => ?_)
            have hP : va_P D vwCl (List.flatten (wM aM C (va_up (va_up (va_up (va_up ms 2 x20) 3 4) 4 x13) 5 0) (va_up mw 0 0) ma ml)) H := hP
            have hD : va_D A (List.flatten (wM aM C (va_up (va_up (va_up (va_up ms 2 x20) 3 4) 4 x13) 5 0) (va_up mw 0 0) ma ml)) := hD
            rw [← hQ]
            exact cRetV ((va_up (va_up (va_up (va_up ms 2 x20) 3 4) 4 x13) 5 0), (va_up mw 0 0)) hx hb hr hlocks hS hP hD h dX12_next_307
          · have h := h.2 c19
            refine lv_iconst (v := 3) hx hb dX12_next_289 (by decide) ?_
            refine lv_goto (tgt := 294) hx hb dX12_next_290 (by decide) ?_
            refine va_put (D := D) (ci := 12) (v := .int 3) (ty := .int) (C := RX12) (T := TX12) (N := 51) hx hb hw inW_X12 tyX12 tyX12_ok nmX12 hown hK hP hD hS 0 rfl rfl 8 (by decide) (hw _ mw_6_51) (fun _ h9 => h9) rfl (by decide +kernel) rfl rfl (Nat.le_of_ble_eq_true rfl) dX12_next_294 (fun H locs hP hD hS => ?_)
            refine lv_aload_n hx hb dX12_next_297 rfl (lv_at hl 0 rfl) ?_
            refine lv_dup hx hb dX12_next_298 rfl ?_
            refine va_get (D := D) (ci := 12) (v := .int (ms 2)) (C := RX12) (T := TX12) (N := 51) hx hb hw inW_X12 hown hK hP 0 rfl rfl 7 (by decide) (hw _ mw_6_50) (fun _ h9 => h9) rfl dX12_next_299 ?_
            refine lv_iconst (v := 1) hx hb dX12_next_302 (by decide) ?_
            refine lv_iadd hx hb dX12_next_303 ?_
            refine lv_topi (fun x21 ex21 => ?_)
            have h := h x21 ex21
            refine va_put (D := D) (ci := 12) (v := .int x21) (ty := .int) (C := RX12) (T := TX12) (N := 51) hx hb hw inW_X12 tyX12 tyX12_ok nmX12 hown hK hP hD hS 0 rfl rfl 7 (by decide) (hw _ mw_6_50) (fun _ h9 => h9) rfl (by decide +kernel) rfl rfl (Nat.le_of_ble_eq_true rfl) dX12_next_304 (fun H locs hP hD hS => ?_)
            have hP : va_P D vwCl (List.flatten (wM aM C (va_up (va_up (va_up (va_up ms 2 x21) 3 3) 4 x13) 5 0) (va_up mw 0 0) ma ml)) H := hP
            have hD : va_D A (List.flatten (wM aM C (va_up (va_up (va_up (va_up ms 2 x21) 3 3) 4 x13) 5 0) (va_up mw 0 0) ma ml)) := hD
            rw [← hQ]
            exact cRetV ((va_up (va_up (va_up (va_up ms 2 x21) 3 3) 4 x13) 5 0), (va_up mw 0 0)) hx hb hr hlocks hS hP hD h dX12_next_307
        · have h := h.2 c18
          refine lv_aload_n hx hb dX12_next_203 rfl (lv_at hl 0 rfl) ?_
          refine lv_iconst (v := 2) hx hb dX12_next_204 (by decide) ?_
          refine va_put (D := D) (ci := 12) (v := .int 2) (ty := .int) (C := RX12) (T := TX12) (N := 51) hx hb hw inW_X12 tyX12 tyX12_ok nmX12 hown hK hP hD hS 0 rfl rfl 8 (by decide) (hw _ mw_6_51) (fun _ h9 => h9) rfl (by decide +kernel) rfl rfl (Nat.le_of_ble_eq_true rfl) dX12_next_205 (fun H locs hP hD hS => ?_)
          have hP : va_P D vwCl (List.flatten (wM aM C (va_up (va_up (va_up ms 3 2) 4 x13) 5 0) (va_up mw 0 0) ma ml)) H := hP
          have hD : va_D A (List.flatten (wM aM C (va_up (va_up (va_up ms 3 2) 4 x13) 5 0) (va_up mw 0 0) ma ml)) := hD
          obtain ⟨n, h⟩ := h
          exact N208 (va_up mw 0 0) n (va_up (va_up (va_up ms 3 2) 4 x13) 5 0) _ _ _ h hP hD hS (lv_sub hl [0] rfl)
      · have h := h.2 c16
        refine lv_aload_n hx hb dX12_next_95 rfl (lv_at hl 0 rfl) ?_
        refine lv_iconst (v := 1) hx hb dX12_next_96 (by decide) ?_
        refine va_put (D := D) (ci := 12) (v := .int 1) (ty := .int) (C := RX12) (T := TX12) (N := 51) hx hb hw inW_X12 tyX12 tyX12_ok nmX12 hown hK hP hD hS 0 rfl rfl 8 (by decide) (hw _ mw_6_51) (fun _ h9 => h9) rfl (by decide +kernel) rfl rfl (Nat.le_of_ble_eq_true rfl) dX12_next_97 (fun H locs hP hD hS => ?_)
        refine lv_iconst (v := 0) hx hb dX12_next_100 (by decide) ?_
        refine lv_istore_n (lv' := [(1, .int 0), (0, .ref (aM 0))]) hx hb dX12_next_101 rfl hl (by decide) rfl (fun ls hl => ?_)
        have hP : va_P D vwCl (List.flatten (wM aM C (va_up (va_up (va_up ms 3 1) 4 x13) 5 0) (va_up mw 0 0) ma ml)) H := hP
        have hD : va_D A (List.flatten (wM aM C (va_up (va_up (va_up ms 3 1) 4 x13) 5 0) (va_up mw 0 0) ma ml)) := hD
        obtain ⟨n, h⟩ := h
        exact N102  n 0 (va_up (va_up (va_up ms 3 1) 4 x13) 5 0) (va_up mw 0 0) _ _ _ h hP hD hS (lv_sub hl [1, 0] rfl)
    · have h := h.2 c14
      refine lv_aload_n hx hb dX12_next_72 rfl (lv_at hl 0 rfl) ?_
      refine lv_iconst (v := 0) hx hb dX12_next_73 (by decide) ?_
      refine va_put (D := D) (ci := 12) (v := .int 0) (ty := .int) (C := RX12) (T := TX12) (N := 51) hx hb hw inW_X12 tyX12 tyX12_ok nmX12 hown hK hP hD hS 0 rfl rfl 8 (by decide) (hw _ mw_6_51) (fun _ h9 => h9) rfl (by decide +kernel) rfl rfl (Nat.le_of_ble_eq_true rfl) dX12_next_74 (fun H locs hP hD hS => ?_)
      refine lv_goto (tgt := 307) hx hb dX12_next_77 (by decide) ?_
      have hP : va_P D vwCl (List.flatten (wM aM C (va_up (va_up (va_up ms 3 0) 4 x13) 5 0) (va_up mw 0 0) ma ml)) H := hP
      have hD : va_D A (List.flatten (wM aM C (va_up (va_up (va_up ms 3 0) 4 x13) 5 0) (va_up mw 0 0) ma ml)) := hD
      rw [← hQ]
      exact cRetV ((va_up (va_up (va_up ms 3 0) 4 x13) 5 0), (va_up mw 0 0)) hx hb hr hlocks hS hP hD h dX12_next_307
  have N0 : ∀ (mw : Nat → Int64) (n0 : Nat) (ms : Nat → Int32) (H : Heap) (locs : List Loc) (ls : Array Slot), P_X12_next_0 ma post (fun (ms : Nat → Int32) (mw : Nat → Int64) => P_X12_next_43 ma post  ms mw) mw n0 ms → va_P D vwCl (List.flatten (wM aM C ms mw ma ml)) H → va_D A (List.flatten (wM aM C ms mw ma ml)) → va_S A s.heap H locs → lv_has ls 2 [(0, .ref (aM 0))] → W p l e rmX12_next s m args below meth c H locs 0 0 Q (F0 m 0 ls []) := by
    intro mw
    intro n0
    induction n0 with
    | zero => intro ms H locs ls h hP hD hS hl; exact False.elim h
    | succ n0 ih0 =>
      intro ms H locs ls h hP hD hS hl
      have h : P_X12_next_0_b ma post (fun (ms : Nat → Int32) (mw : Nat → Int64) => P_X12_next_43 ma post  ms mw) mw (P_X12_next_0 ma post (fun (ms : Nat → Int32) (mw : Nat → Int64) => P_X12_next_43 ma post  ms mw) mw n0) ms := h
      unfold P_X12_next_0_b at h
      refine lv_aload_n hx hb dX12_next_0 rfl (lv_at hl 0 rfl) ?_
      refine lv_aload_n hx hb dX12_next_1 rfl (lv_at hl 0 rfl) ?_
      refine va_get (D := D) (ci := 12) (v := .int (ms 2)) (C := RX12) (T := TX12) (N := 51) hx hb hw inW_X12 hown hK hP 0 rfl rfl 7 (by decide) (hw _ mw_6_50) (fun _ h9 => h9) rfl dX12_next_2 ?_
      refine lv_bipush (v := 32) hx hb dX12_next_5 (by decide) ?_
      refine lv_bipush (v := 32) hx hb dX12_next_7 (by decide) ?_
      refine cGoI (wo := fun u => wM aM C ms mw ma ml) (cRunV (As := [.int (ms 2), .int 32, .int 32]) (rest := []) ⟨hx, hb, hml, hown, hw⟩ hK hN hP hD [0, 1, 2, 3, 4, 5, 6, 7, 8, 9, 10, 11, 12, 13, 14, 15, 16, 17, 18, 19, 20, 21, 22, 23, 24, 25, 26, 27, 28, 29, 30, 31, 32] rfl rfl (k_X12_isByte l D C _ aM  ms mw ma ml (ms 2) 32 32 h) (cwV 3 hw (goodV mw_7_11 mw_7_13 mw_s112 mw_1_13 mw_7_14) rfl rfl rfl (by decide +kernel) ⟨Nat.le_of_ble_eq_true rfl, Nat.le_of_ble_eq_true rfl⟩) rfl rfl rfl hl.1 rfl (Nat.le_of_ble_eq_true rfl) dX12_next_9 ⟨Nat.zero_le _, Nat.zero_le _⟩) hP hD hS hA [0, 1, 2, 3, 4, 5, 6, 7, 8, 9, 10, 11, 12, 13, 14, 15, 16, 17, 18, 19, 20, 21, 22, 23, 24, 25, 26, 27, 28, 29, 30, 31, 32] [] [0, 1, 2, 3, 4, 5, 6, 7, 8, 9, 10, 11, 12, 13, 14, 15, 16, 17, 18, 19, 20, 21, 22, 23, 24, 25, 26, 27, 28, 29, 30, 31, 32] rfl rfl rfl (by decide) rfl (fun _ => rfl) (fun r22 u H locs h hP hD hS => ?_)
      have hP : va_P D vwCl (List.flatten (wM aM C ms mw ma ml)) H := hP
      have hD : va_D A (List.flatten (wM aM C ms mw ma ml)) := hD
      refine lv_if_ne (tgt := 30) hx hb dX12_next_12 (by decide) (fun c23 => ?_) (fun c23 => ?_)
      · have h := h.1 c23
        refine lv_aload_n hx hb dX12_next_30 rfl (lv_at hl 0 rfl) ?_
        refine lv_dup hx hb dX12_next_31 rfl ?_
        refine va_get (D := D) (ci := 12) (v := .int (ms 2)) (C := RX12) (T := TX12) (N := 51) hx hb hw inW_X12 hown hK hP 0 rfl rfl 7 (by decide) (hw _ mw_6_50) (fun _ h9 => h9) rfl dX12_next_32 ?_
        refine lv_iconst (v := 1) hx hb dX12_next_35 (by decide) ?_
        refine lv_iadd hx hb dX12_next_36 ?_
        refine lv_topi (fun x24 ex24 => ?_)
        have h := h x24 ex24
        refine va_put (D := D) (ci := 12) (v := .int x24) (ty := .int) (C := RX12) (T := TX12) (N := 51) hx hb hw inW_X12 tyX12 tyX12_ok nmX12 hown hK hP hD hS 0 rfl rfl 7 (by decide) (hw _ mw_6_50) (fun _ h9 => h9) rfl (by decide +kernel) rfl rfl (Nat.le_of_ble_eq_true rfl) dX12_next_37 (fun H locs hP hD hS => ?_)
        refine lv_goto (tgt := 0) hx hb dX12_next_40 (by decide) ?_
        have hP : va_P D vwCl (List.flatten (wM aM C (va_up ms 2 x24) mw ma ml)) H := hP
        have hD : va_D A (List.flatten (wM aM C (va_up ms 2 x24) mw ma ml)) := hD
        exact ih0 (va_up ms 2 x24) _ _ _ h hP hD hS (lv_sub hl [0] rfl)
      · have h := h.2 c23
        refine lv_aload_n hx hb dX12_next_15 rfl (lv_at hl 0 rfl) ?_
        refine lv_aload_n hx hb dX12_next_16 rfl (lv_at hl 0 rfl) ?_
        refine va_get (D := D) (ci := 12) (v := .int (ms 2)) (C := RX12) (T := TX12) (N := 51) hx hb hw inW_X12 hown hK hP 0 rfl rfl 7 (by decide) (hw _ mw_6_50) (fun _ h9 => h9) rfl dX12_next_17 ?_
        refine lv_bipush (v := 10) hx hb dX12_next_20 (by decide) ?_
        refine lv_bipush (v := 10) hx hb dX12_next_22 (by decide) ?_
        refine cGoI (wo := fun u => wM aM C ms mw ma ml) (cRunV (As := [.int (ms 2), .int 10, .int 10]) (rest := []) ⟨hx, hb, hml, hown, hw⟩ hK hN hP hD [0, 1, 2, 3, 4, 5, 6, 7, 8, 9, 10, 11, 12, 13, 14, 15, 16, 17, 18, 19, 20, 21, 22, 23, 24, 25, 26, 27, 28, 29, 30, 31, 32] rfl rfl (k_X12_isByte l D C _ aM  ms mw ma ml (ms 2) 10 10 h) (cwV 3 hw (goodV mw_7_11 mw_7_13 mw_s112 mw_1_13 mw_7_14) rfl rfl rfl (by decide +kernel) ⟨Nat.le_of_ble_eq_true rfl, Nat.le_of_ble_eq_true rfl⟩) rfl rfl rfl hl.1 rfl (Nat.le_of_ble_eq_true rfl) dX12_next_24 ⟨Nat.zero_le _, Nat.zero_le _⟩) hP hD hS hA [0, 1, 2, 3, 4, 5, 6, 7, 8, 9, 10, 11, 12, 13, 14, 15, 16, 17, 18, 19, 20, 21, 22, 23, 24, 25, 26, 27, 28, 29, 30, 31, 32] [] [0, 1, 2, 3, 4, 5, 6, 7, 8, 9, 10, 11, 12, 13, 14, 15, 16, 17, 18, 19, 20, 21, 22, 23, 24, 25, 26, 27, 28, 29, 30, 31, 32] rfl rfl rfl (by decide) rfl (fun _ => rfl) (fun r25 u H locs h hP hD hS => ?_)
        have hP : va_P D vwCl (List.flatten (wM aM C ms mw ma ml)) H := hP
        have hD : va_D A (List.flatten (wM aM C ms mw ma ml)) := hD
        refine lv_if_eq (tgt := 43) hx hb dX12_next_27 (by decide) (fun c26 => ?_) (fun c26 => ?_)
        · have h := h.1 c26
          exact N43 ms mw _ _ _ h hP hD hS (lv_sub hl [0] rfl)
        · have h := h.2 c26
          refine lv_aload_n hx hb dX12_next_30 rfl (lv_at hl 0 rfl) ?_
          refine lv_dup hx hb dX12_next_31 rfl ?_
          refine va_get (D := D) (ci := 12) (v := .int (ms 2)) (C := RX12) (T := TX12) (N := 51) hx hb hw inW_X12 hown hK hP 0 rfl rfl 7 (by decide) (hw _ mw_6_50) (fun _ h9 => h9) rfl dX12_next_32 ?_
          refine lv_iconst (v := 1) hx hb dX12_next_35 (by decide) ?_
          refine lv_iadd hx hb dX12_next_36 ?_
          refine lv_topi (fun x27 ex27 => ?_)
          have h := h x27 ex27
          refine va_put (D := D) (ci := 12) (v := .int x27) (ty := .int) (C := RX12) (T := TX12) (N := 51) hx hb hw inW_X12 tyX12 tyX12_ok nmX12 hown hK hP hD hS 0 rfl rfl 7 (by decide) (hw _ mw_6_50) (fun _ h9 => h9) rfl (by decide +kernel) rfl rfl (Nat.le_of_ble_eq_true rfl) dX12_next_37 (fun H locs hP hD hS => ?_)
          refine lv_goto (tgt := 0) hx hb dX12_next_40 (by decide) ?_
          have hP : va_P D vwCl (List.flatten (wM aM C (va_up ms 2 x27) mw ma ml)) H := hP
          have hD : va_D A (List.flatten (wM aM C (va_up ms 2 x27) mw ma ml)) := hD
          exact ih0 (va_up ms 2 x27) _ _ _ h hP hD hS (lv_sub hl [0] rfl)
  obtain ⟨n, h⟩ := h
  exact N0 mw n ms _ _ _ h hP hD hS (lv_sub hl [0] rfl)
abbrev vsX12_isGood : List Cond := Cond.code yX12_isGood cX12_isGood 1 (some .boolean) :: WS
abbrev rmX12_isGood : Room := { frames := 0, cells := 0, slots := 0, locals := 0 }
set_option maxHeartbeats 4000000 in
set_option maxRecDepth 100000 in
theorem k_X12_isGood (l : Launch) (D : va_G) (C : Nat → ClassId) (sz : Nat) (aM : Nat → Nat)  (ms : Nat → Int32) (mw : Nat → Int64) (ma : Nat → Nat → Int32) (ml : Nat → Nat → Int64)  {post : Int32 → Prop} (h : P_X12_isGood ms post) : Met l yX12_isGood vsX12_isGood rmX12_isGood (cPre D C [.ref (aM 0)] sz (wM aM C ms mw ma ml)) (cQi D (fun (r : Int32) (u : Unit) => post r ) (fun u => wM aM C ms mw ma ml) (va_A (List.flatten (wM aM C ms mw ma ml)) sz)) 0 0 (va_A (List.flatten (wM aM C ms mw ma ml)) sz) := by
  refine cStart (QA := fun A => cQi D (fun (r : Int32) (u : Unit) => post r ) (fun u => wM aM C ms mw ma ml) A) (cc := cX12_isGood) (maxL := 1) (ret := (some .boolean)) (by decide) (Nat.le_of_ble_eq_true rfl) ?_
  intro p e s m args below meth c A ls hx hb hr hml hown hw hlocks hname hK hN hA hP hD hS hl
  generalize hQ : MQ below _ args s 0 0 A = Q
  have hl : lv_has ls 1 [(0, .ref (aM 0))] := hl
  obtain ⟨H, hH⟩ : ∃ H, H = s.heap := ⟨_, rfl⟩
  obtain ⟨locs, hlo⟩ : ∃ z : List Loc, z = [] := ⟨_, rfl⟩
  have hP : va_P D vwCl (List.flatten (wM aM C ms mw ma ml)) H := by rw [hH]; exact hP
  have hS : va_S A s.heap H locs := by rw [hH, hlo]; exact hS
  rw [show W p l e rmX12_isGood s m args below meth c s.heap [] 0 0 Q (F0 m 0 ls []) = W p l e rmX12_isGood s m args below meth c H locs 0 0 Q (F0 m 0 ls []) from by rw [hH, hlo]]
  refine lv_aload_n hx hb dX12_isGood_0 rfl (lv_at hl 0 rfl) ?_
  refine va_get (D := D) (ci := 12) (v := .int (ms 6)) (C := RX12) (T := TX12) (N := 51) hx hb hw inW_X12 hown hK hP 0 rfl rfl 12 (by decide) (hw _ mw_6_55) (fun _ h9 => h9) rfl dX12_isGood_1 ?_
  refine lv_if_ne (tgt := 11) hx hb dX12_isGood_4 (by decide) (fun c1 => ?_) (fun c1 => ?_)
  · have h := h.1 c1
    refine lv_iconst (v := 0) hx hb dX12_isGood_11 (by decide) ?_
    rw [← hQ]
    exact cRetZ (v := 0) () hx hb hr hlocks hS hP hD (Or.inl rfl) h dX12_isGood_12
  · have h := h.2 c1
    refine lv_iconst (v := 1) hx hb dX12_isGood_7 (by decide) ?_
    refine lv_goto (tgt := 12) hx hb dX12_isGood_8 (by decide) ?_
    rw [← hQ]
    exact cRetZ (v := 1) () hx hb hr hlocks hS hP hD (Or.inr rfl) h dX12_isGood_12
abbrev vsX12_fails : List Cond := Cond.code yX12_fails cX12_fails 2 none :: WS
abbrev rmX12_fails : Room := { frames := 0, cells := 0, slots := 0, locals := 0 }
set_option maxHeartbeats 4000000 in
set_option maxRecDepth 100000 in
theorem k_X12_fails (l : Launch) (D : va_G) (C : Nat → ClassId) (sz : Nat) (aM : Nat → Nat)  (ms : Nat → Int32) (mw : Nat → Int64) (ma : Nat → Nat → Int32) (ml : Nat → Nat → Int64) (p1 : Int32) {post : (Nat → Int32) → Prop} (h : P_X12_fails ms p1 post) : Met l yX12_fails vsX12_fails rmX12_fails (cPre D C [.ref (aM 0), .int p1] sz (wM aM C ms mw ma ml)) (cQv D (fun (u : (Nat → Int32)) => post u) (fun u => wM aM C u mw ma ml) (va_A (List.flatten (wM aM C ms mw ma ml)) sz)) 0 0 (va_A (List.flatten (wM aM C ms mw ma ml)) sz) := by
  refine cStart (QA := fun A => cQv D (fun (u : (Nat → Int32)) => post u) (fun u => wM aM C u mw ma ml) A) (cc := cX12_fails) (maxL := 2) (ret := none) (by decide) (Nat.le_of_ble_eq_true rfl) ?_
  intro p e s m args below meth c A ls hx hb hr hml hown hw hlocks hname hK hN hA hP hD hS hl
  generalize hQ : MQ below _ args s 0 0 A = Q
  have hl : lv_has ls 2 [(0, .ref (aM 0)), (1, .int p1)] := hl
  obtain ⟨H, hH⟩ : ∃ H, H = s.heap := ⟨_, rfl⟩
  obtain ⟨locs, hlo⟩ : ∃ z : List Loc, z = [] := ⟨_, rfl⟩
  have hP : va_P D vwCl (List.flatten (wM aM C ms mw ma ml)) H := by rw [hH]; exact hP
  have hS : va_S A s.heap H locs := by rw [hH, hlo]; exact hS
  rw [show W p l e rmX12_fails s m args below meth c s.heap [] 0 0 Q (F0 m 0 ls []) = W p l e rmX12_fails s m args below meth c H locs 0 0 Q (F0 m 0 ls []) from by rw [hH, hlo]]
  refine lv_aload_n hx hb dX12_fails_0 rfl (lv_at hl 0 rfl) ?_
  refine va_get (D := D) (ci := 12) (v := .int (ms 6)) (C := RX12) (T := TX12) (N := 51) hx hb hw inW_X12 hown hK hP 0 rfl rfl 12 (by decide) (hw _ mw_6_55) (fun _ h9 => h9) rfl dX12_fails_1 ?_
  refine lv_if_eq (tgt := 8) hx hb dX12_fails_4 (by decide) (fun c1 => ?_) (fun c1 => ?_)
  · have h := h.1 c1
    refine lv_aload_n hx hb dX12_fails_8 rfl (lv_at hl 0 rfl) ?_
    refine lv_iload_n hx hb dX12_fails_9 rfl (lv_at hl 1 rfl) ?_
    refine va_put (D := D) (ci := 12) (v := .int p1) (ty := .int) (C := RX12) (T := TX12) (N := 51) hx hb hw inW_X12 tyX12 tyX12_ok nmX12 hown hK hP hD hS 0 rfl rfl 12 (by decide) (hw _ mw_6_55) (fun _ h9 => h9) rfl (by decide +kernel) rfl rfl (Nat.le_of_ble_eq_true rfl) dX12_fails_10 (fun H locs hP hD hS => ?_)
    refine lv_aload_n hx hb dX12_fails_13 rfl (lv_at hl 0 rfl) ?_
    refine lv_aload_n hx hb dX12_fails_14 rfl (lv_at hl 0 rfl) ?_
    refine va_get (D := D) (ci := 12) (v := .int (ms 4)) (C := RX12) (T := TX12) (N := 51) hx hb hw inW_X12 hown hK hP 0 rfl rfl 9 (by decide) (hw _ mw_6_52) (fun _ h9 => h9) rfl dX12_fails_15 ?_
    refine lv_topi (fun x2 ex2 => ?_)
    have h := h x2 ex2
    refine va_put (D := D) (ci := 12) (v := .int x2) (ty := .int) (C := RX12) (T := TX12) (N := 51) hx hb hw inW_X12 tyX12 tyX12_ok nmX12 hown hK hP hD hS 0 rfl rfl 13 (by decide) (hw _ mw_6_56) (fun _ h9 => h9) rfl (by decide +kernel) rfl rfl (Nat.le_of_ble_eq_true rfl) dX12_fails_18 (fun H locs hP hD hS => ?_)
    have hP : va_P D vwCl (List.flatten (wM aM C (va_up (va_up ms 6 p1) 7 x2) mw ma ml)) H := hP
    have hD : va_D A (List.flatten (wM aM C (va_up (va_up ms 6 p1) 7 x2) mw ma ml)) := hD
    rw [← hQ]
    exact cRetV ((va_up (va_up ms 6 p1) 7 x2)) hx hb hr hlocks hS hP hD h dX12_fails_21
  · have h := h.2 c1
    rw [← hQ]
    exact cRetV (ms) hx hb hr hlocks hS hP hD h dX12_fails_7
abbrev vsX12_is : List Cond := Cond.code yX12_is cX12_is 3 (some .boolean) :: WS
abbrev rmX12_is : Room := { frames := 0, cells := 0, slots := 0, locals := 0 }
set_option maxHeartbeats 4000000 in
set_option maxRecDepth 100000 in
theorem k_X12_is (l : Launch) (D : va_G) (C : Nat → ClassId) (sz : Nat) (aM : Nat → Nat)  (ms : Nat → Int32) (mw : Nat → Int64) (ma : Nat → Nat → Int32) (ml : Nat → Nat → Int64) (p1 : Int64) {post : Int32 → Prop} (h : P_X12_is ms mw p1 post) : Met l yX12_is vsX12_is rmX12_is (cPre D C [.ref (aM 0), .long p1] sz (wM aM C ms mw ma ml)) (cQi D (fun (r : Int32) (u : Unit) => post r ) (fun u => wM aM C ms mw ma ml) (va_A (List.flatten (wM aM C ms mw ma ml)) sz)) 0 0 (va_A (List.flatten (wM aM C ms mw ma ml)) sz) := by
  refine cStart (QA := fun A => cQi D (fun (r : Int32) (u : Unit) => post r ) (fun u => wM aM C ms mw ma ml) A) (cc := cX12_is) (maxL := 3) (ret := (some .boolean)) (by decide) (Nat.le_of_ble_eq_true rfl) ?_
  intro p e s m args below meth c A ls hx hb hr hml hown hw hlocks hname hK hN hA hP hD hS hl
  generalize hQ : MQ below _ args s 0 0 A = Q
  have hl : lv_has ls 3 [(0, .ref (aM 0)), (1, .long p1)] := hl
  obtain ⟨H, hH⟩ : ∃ H, H = s.heap := ⟨_, rfl⟩
  obtain ⟨locs, hlo⟩ : ∃ z : List Loc, z = [] := ⟨_, rfl⟩
  have hP : va_P D vwCl (List.flatten (wM aM C ms mw ma ml)) H := by rw [hH]; exact hP
  have hS : va_S A s.heap H locs := by rw [hH, hlo]; exact hS
  rw [show W p l e rmX12_is s m args below meth c s.heap [] 0 0 Q (F0 m 0 ls []) = W p l e rmX12_is s m args below meth c H locs 0 0 Q (F0 m 0 ls []) from by rw [hH, hlo]]
  refine lv_aload_n hx hb dX12_is_0 rfl (lv_at hl 0 rfl) ?_
  refine va_get (D := D) (ci := 12) (v := .int (ms 6)) (C := RX12) (T := TX12) (N := 51) hx hb hw inW_X12 hown hK hP 0 rfl rfl 12 (by decide) (hw _ mw_6_55) (fun _ h9 => h9) rfl dX12_is_1 ?_
  refine lv_if_ne (tgt := 28) hx hb dX12_is_4 (by decide) (fun c1 => ?_) (fun c1 => ?_)
  · have h := h.1 c1
    refine lv_iconst (v := 0) hx hb dX12_is_28 (by decide) ?_
    rw [← hQ]
    exact cRetZ (v := 0) () hx hb hr hlocks hS hP hD (Or.inl rfl) h dX12_is_29
  · have h := h.2 c1
    refine lv_aload_n hx hb dX12_is_7 rfl (lv_at hl 0 rfl) ?_
    refine va_get (D := D) (ci := 12) (v := .int (ms 3)) (C := RX12) (T := TX12) (N := 51) hx hb hw inW_X12 hown hK hP 0 rfl rfl 8 (by decide) (hw _ mw_6_51) (fun _ h9 => h9) rfl dX12_is_8 ?_
    refine lv_iconst (v := 1) hx hb dX12_is_11 (by decide) ?_
    refine lv_icmp_ne (tgt := 28) hx hb dX12_is_12 (by decide) (fun c2 => ?_) (fun c2 => ?_)
    · have h := h.1 c2
      refine lv_iconst (v := 0) hx hb dX12_is_28 (by decide) ?_
      rw [← hQ]
      exact cRetZ (v := 0) () hx hb hr hlocks hS hP hD (Or.inl rfl) h dX12_is_29
    · have h := h.2 c2
      refine lv_aload_n hx hb dX12_is_15 rfl (lv_at hl 0 rfl) ?_
      refine va_get (D := D) (ci := 12) (v := .long (mw 0)) (C := RX12) (T := TX12) (N := 51) hx hb hw inW_X12 hown hK hP 0 rfl rfl 11 (by decide) (hw _ mw_6_54) (fun _ h9 => h9) rfl dX12_is_16 ?_
      refine lv_lload_n hx hb dX12_is_19 rfl (lv_at hl 1 rfl) ?_
      refine W.lcmp hx hb dX12_is_20 ?_
      refine lv_if_ne (tgt := 28) hx hb dX12_is_21 (by decide) (fun c3 => ?_) (fun c3 => ?_)
      · have c3 : ¬ (mw 0) = p1 := fun q => c3 ((lg_cmp_eq _ _).mpr q)
        have h := h.1 c3
        refine lv_iconst (v := 0) hx hb dX12_is_28 (by decide) ?_
        rw [← hQ]
        exact cRetZ (v := 0) () hx hb hr hlocks hS hP hD (Or.inl rfl) h dX12_is_29
      · have c3 : (mw 0) = p1 := (lg_cmp_eq _ _).mp c3
        have h := h.2 c3
        refine lv_iconst (v := 1) hx hb dX12_is_24 (by decide) ?_
        refine lv_goto (tgt := 29) hx hb dX12_is_25 (by decide) ?_
        rw [← hQ]
        exact cRetZ (v := 1) () hx hb hr hlocks hS hP hD (Or.inr rfl) h dX12_is_29
abbrev vsX12_takes : List Cond := Cond.code yX12_takes cX12_takes 3 (some .boolean) :: WS
abbrev rmX12_takes : Room := { frames := 2, cells := 0, slots := 0, locals := 44 }
set_option maxHeartbeats 4000000 in
set_option maxRecDepth 100000 in
theorem k_X12_takes (l : Launch) (D : va_G) (C : Nat → ClassId) (sz : Nat) (aM : Nat → Nat)  (ms : Nat → Int32) (mw : Nat → Int64) (ma : Nat → Nat → Int32) (ml : Nat → Nat → Int64) (p1 : Int64) {post : Int32 → (Nat → Int32) → (Nat → Int64) → Prop} (h : P_X12_takes ms mw ma p1 post) : Met l yX12_takes vsX12_takes rmX12_takes (cPre D C [.ref (aM 0), .long p1] sz (wM aM C ms mw ma ml)) (cQi D (fun (r : Int32) (u : (Nat → Int32) × (Nat → Int64)) => post r u.1 u.2) (fun u => wM aM C u.1 u.2 ma ml) (va_A (List.flatten (wM aM C ms mw ma ml)) sz)) 0 0 (va_A (List.flatten (wM aM C ms mw ma ml)) sz) := by
  refine cStart (QA := fun A => cQi D (fun (r : Int32) (u : (Nat → Int32) × (Nat → Int64)) => post r u.1 u.2) (fun u => wM aM C u.1 u.2 ma ml) A) (cc := cX12_takes) (maxL := 3) (ret := (some .boolean)) (by decide) (Nat.le_of_ble_eq_true rfl) ?_
  intro p e s m args below meth c A ls hx hb hr hml hown hw hlocks hname hK hN hA hP hD hS hl
  generalize hQ : MQ below _ args s 0 0 A = Q
  have hl : lv_has ls 3 [(0, .ref (aM 0)), (1, .long p1)] := hl
  obtain ⟨H, hH⟩ : ∃ H, H = s.heap := ⟨_, rfl⟩
  obtain ⟨locs, hlo⟩ : ∃ z : List Loc, z = [] := ⟨_, rfl⟩
  have hP : va_P D vwCl (List.flatten (wM aM C ms mw ma ml)) H := by rw [hH]; exact hP
  have hS : va_S A s.heap H locs := by rw [hH, hlo]; exact hS
  rw [show W p l e rmX12_takes s m args below meth c s.heap [] 0 0 Q (F0 m 0 ls []) = W p l e rmX12_takes s m args below meth c H locs 0 0 Q (F0 m 0 ls []) from by rw [hH, hlo]]
  refine lv_aload_n hx hb dX12_takes_0 rfl (lv_at hl 0 rfl) ?_
  refine lv_lload_n hx hb dX12_takes_1 rfl (lv_at hl 1 rfl) ?_
  refine cGoI (wo := fun u => wM aM C ms mw ma ml) (cRunV (As := [.long p1]) (rest := []) ⟨hx, hb, hml, hown, hw⟩ hK hN hP hD [0, 1, 2, 3, 4, 5, 6, 7, 8, 9, 10, 11, 12, 13, 14, 15, 16, 17, 18, 19, 20, 21, 22, 23, 24, 25, 26, 27, 28, 29, 30, 31, 32] rfl rfl (k_X12_is l D C _ aM  ms mw ma ml p1 h) (cwV 1 hw (goodV mw_7_37 mw_7_39 mw_s117 mw_1_13 mw_7_40) rfl rfl rfl (by decide +kernel) ⟨Nat.le_of_ble_eq_true rfl, Nat.le_of_ble_eq_true rfl⟩) rfl rfl rfl hl.1 rfl (Nat.le_of_ble_eq_true rfl) dX12_takes_2 ⟨Nat.zero_le _, Nat.zero_le _⟩) hP hD hS hA [0, 1, 2, 3, 4, 5, 6, 7, 8, 9, 10, 11, 12, 13, 14, 15, 16, 17, 18, 19, 20, 21, 22, 23, 24, 25, 26, 27, 28, 29, 30, 31, 32] [] [0, 1, 2, 3, 4, 5, 6, 7, 8, 9, 10, 11, 12, 13, 14, 15, 16, 17, 18, 19, 20, 21, 22, 23, 24, 25, 26, 27, 28, 29, 30, 31, 32] rfl rfl rfl (by decide) rfl (fun _ => rfl) (fun r1 u H locs h hP hD hS => ?_)
  have hP : va_P D vwCl (List.flatten (wM aM C ms mw ma ml)) H := hP
  have hD : va_D A (List.flatten (wM aM C ms mw ma ml)) := hD
  refine lv_if_ne (tgt := 10) hx hb dX12_takes_5 (by decide) (fun c2 => ?_) (fun c2 => ?_)
  · have h := h.1 c2
    refine lv_aload_n hx hb dX12_takes_10 rfl (lv_at hl 0 rfl) ?_
    refine cGoV (wo := fun u => wM aM C u.1 u.2 ma ml) (cRunV (As := []) (rest := []) ⟨hx, hb, hml, hown, hw⟩ hK hN hP hD [0, 1, 2, 3, 4, 5, 6, 7, 8, 9, 10, 11, 12, 13, 14, 15, 16, 17, 18, 19, 20, 21, 22, 23, 24, 25, 26, 27, 28, 29, 30, 31, 32] rfl rfl (k_X12_next l D C _ aM  ms mw ma ml  h) (cwV 0 hw (goodV mw_7_7 mw_7_9 mw_s111 mw_1_13 mw_7_10) rfl rfl rfl (by decide +kernel) ⟨Nat.le_of_ble_eq_true rfl, Nat.le_of_ble_eq_true rfl⟩) rfl rfl rfl hl.1 rfl (Nat.le_of_ble_eq_true rfl) dX12_takes_11 ⟨Nat.zero_le _, Nat.zero_le _⟩) hP hD hS hA [0, 1, 2, 3, 4, 5, 6, 7, 8, 9, 10, 11, 12, 13, 14, 15, 16, 17, 18, 19, 20, 21, 22, 23, 24, 25, 26, 27, 28, 29, 30, 31, 32] [] [0, 1, 2, 3, 4, 5, 6, 7, 8, 9, 10, 11, 12, 13, 14, 15, 16, 17, 18, 19, 20, 21, 22, 23, 24, 25, 26, 27, 28, 29, 30, 31, 32] rfl rfl rfl (by decide) rfl (fun _ => rfl) (fun u H locs h hP hD hS => ?_)
    obtain ⟨ms_3, mw_4⟩ := u
    have hP : va_P D vwCl (List.flatten (wM aM C ms_3 mw_4 ma ml)) H := hP
    have hD : va_D A (List.flatten (wM aM C ms_3 mw_4 ma ml)) := hD
    refine lv_iconst (v := 1) hx hb dX12_takes_14 (by decide) ?_
    rw [← hQ]
    exact cRetZ (v := 1) (ms_3, mw_4) hx hb hr hlocks hS hP hD (Or.inr rfl) h dX12_takes_15
  · have h := h.2 c2
    refine lv_iconst (v := 0) hx hb dX12_takes_8 (by decide) ?_
    rw [← hQ]
    exact cRetZ (v := 0) (ms, mw) hx hb hr hlocks hS hP hD (Or.inl rfl) h dX12_takes_9
