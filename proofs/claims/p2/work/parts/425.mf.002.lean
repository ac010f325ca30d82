abbrev vsX12_state : List Cond := Cond.code yX12_state cX12_state 2 (some .int) :: WS
abbrev rmX12_state : Room := { frames := 0, cells := 0, slots := 0, locals := 0 }
set_option maxHeartbeats 4000000 in
set_option maxRecDepth 100000 in
theorem k_X12_state (l : Launch) (D : va_G) (C : Nat → ClassId) (sz : Nat)    (p1 : Int32) (p2 : Int32) {post : Int32 → Prop} (h : P_X12_state p1 p2 post) : Met l yX12_state vsX12_state rmX12_state (cPre D C [.int p1, .int p2] sz (([] : List va_W))) (cQi D (fun (r : Int32) (u : Unit) => post r ) (fun u => ([] : List va_W)) (va_A (List.flatten (([] : List va_W))) sz)) 0 0 (va_A (List.flatten (([] : List va_W))) sz) := by
  refine cStart (QA := fun A => cQi D (fun (r : Int32) (u : Unit) => post r ) (fun u => ([] : List va_W)) A) (cc := cX12_state) (maxL := 2) (ret := (some .int)) (by decide) (Nat.le_of_ble_eq_true rfl) ?_
  intro p e s m args below meth c A ls hx hb hr hml hown hw hlocks hname hK hN hA hP hD hS hl
  generalize hQ : MQ below _ args s 0 0 A = Q
  have hl : lv_has ls 2 [(0, .int p1), (1, .int p2)] := hl
  obtain ⟨H, hH⟩ : ∃ H, H = s.heap := ⟨_, rfl⟩
  obtain ⟨locs, hlo⟩ : ∃ z : List Loc, z = [] := ⟨_, rfl⟩
  have hP : va_P D vwCl (List.flatten (([] : List va_W))) H := by rw [hH]; exact hP
  have hS : va_S A s.heap H locs := by rw [hH, hlo]; exact hS
  rw [show W p l e rmX12_state s m args below meth c s.heap [] 0 0 Q (F0 m 0 ls []) = W p l e rmX12_state s m args below meth c H locs 0 0 Q (F0 m 0 ls []) from by rw [hH, hlo]]
  refine lv_bipush (v := 64) hx hb dX12_state_0 (by decide) ?_
  refine lv_iload_n hx hb dX12_state_2 rfl (lv_at hl 0 rfl) ?_
  refine lv_imul hx hb dX12_state_3 ?_
  refine lv_iload_n hx hb dX12_state_4 rfl (lv_at hl 1 rfl) ?_
  refine lv_iadd hx hb dX12_state_5 ?_
  rw [← hQ]
  exact cRetI (v := ((64 * p1) + p2)) () hx hb hr hlocks hS hP hD h dX12_state_6
abbrev vsX12_thiefGoes : List Cond := Cond.code yX12_thiefGoes cX12_thiefGoes 12 none :: WS
abbrev rmX12_thiefGoes : Room := { frames := 1, cells := 0, slots := 0, locals := 26 }
set_option maxHeartbeats 4000000 in
set_option maxRecDepth 100000 in
theorem k_X12_thiefGoes (l : Launch) (D : va_G) (C : Nat → ClassId) (sz : Nat) (aM : Nat → Nat)  (ms : Nat → Int32) (mw : Nat → Int64) (ma : Nat → Nat → Int32) (ml : Nat → Nat → Int64) (p1 : Int32) (p2 : Int32) {post : (Nat → Nat → Int64) → Prop} (h : P_X12_thiefGoes ms ma ml p1 p2 post) : Met l yX12_thiefGoes vsX12_thiefGoes rmX12_thiefGoes (cPre D C [.ref (aM 0), .int p1, .int p2] sz (wM aM C ms mw ma ml)) (cQv D (fun (u : (Nat → Nat → Int64)) => post u) (fun u => wM aM C ms mw ma u) (va_A (List.flatten (wM aM C ms mw ma ml)) sz)) 0 0 (va_A (List.flatten (wM aM C ms mw ma ml)) sz) := by
  refine cStart (QA := fun A => cQv D (fun (u : (Nat → Nat → Int64)) => post u) (fun u => wM aM C ms mw ma u) A) (cc := cX12_thiefGoes) (maxL := 12) (ret := none) (by decide) (Nat.le_of_ble_eq_true rfl) ?_
  intro p e s m args below meth c A ls hx hb hr hml hown hw hlocks hname hK hN hA hP hD hS hl
  generalize hQ : MQ below _ args s 0 0 A = Q
  have hl : lv_has ls 12 [(0, .ref (aM 0)), (1, .int p1), (2, .int p2)] := hl
  obtain ⟨H, hH⟩ : ∃ H, H = s.heap := ⟨_, rfl⟩
  obtain ⟨locs, hlo⟩ : ∃ z : List Loc, z = [] := ⟨_, rfl⟩
  have hP : va_P D vwCl (List.flatten (wM aM C ms mw ma ml)) H := by rw [hH]; exact hP
  have hS : va_S A s.heap H locs := by rw [hH, hlo]; exact hS
  rw [show W p l e rmX12_thiefGoes s m args below meth c s.heap [] 0 0 Q (F0 m 0 ls []) = W p l e rmX12_thiefGoes s m args below meth c H locs 0 0 Q (F0 m 0 ls []) from by rw [hH, hlo]]
  have N107 : ∀ (x3_ : Int32) (x4_ : Int32) (n107 : Nat) (x5_ : Int32) (ml : Nat → Nat → Int64) (H : Heap) (locs : List Loc) (ls : Array Slot), P_X12_thiefGoes_107 ms ma p1 p2 post  x3_ x4_ n107 x5_ ml → va_P D vwCl (List.flatten (wM aM C ms mw ma ml)) H → va_D A (List.flatten (wM aM C ms mw ma ml)) → va_S A s.heap H locs → lv_has ls 12 [(0, .ref (aM 0)), (1, .int p1), (2, .int p2), (3, .int x3_), (4, .int x4_), (5, .int x5_)] → W p l e rmX12_thiefGoes s m args below meth c H locs 0 0 Q (F0 m 107 ls []) := by
    intro x3_ x4_
    intro n107
    induction n107 with
    | zero => intro x5_ ml H locs ls h hP hD hS hl; exact False.elim h
    | succ n107 ih107 =>
      have N134 : ∀ (x5_ : Int32) (x6_ : Int32) (n134 : Nat) (x7_ : Int32) (ml : Nat → Nat → Int64) (H : Heap) (locs : List Loc) (ls : Array Slot), P_X12_thiefGoes_134 ms ma p1 p2 x3_ x4_ post (P_X12_thiefGoes_107 ms ma p1 p2 post  x3_ x4_ n107) x5_ x6_ n134 x7_ ml → va_P D vwCl (List.flatten (wM aM C ms mw ma ml)) H → va_D A (List.flatten (wM aM C ms mw ma ml)) → va_S A s.heap H locs → lv_has ls 12 [(0, .ref (aM 0)), (1, .int p1), (2, .int p2), (3, .int x3_), (4, .int x4_), (5, .int x5_), (6, .int x6_), (7, .int x7_)] → W p l e rmX12_thiefGoes s m args below meth c H locs 0 0 Q (F0 m 134 ls []) := by
        intro x5_ x6_
        intro n134
        induction n134 with
        | zero => intro x7_ ml H locs ls h hP hD hS hl; exact False.elim h
        | succ n134 ih134 =>
          have N189 : ∀ (x7_ : Int32) (x8_ : Int64) (k0_ : Int64) (ml : Nat → Nat → Int64) (H : Heap) (locs : List Loc) (ls : Array Slot), P_X12_thiefGoes_189 ms ma p1 p2 x3_ x4_ x5_ x6_ post (P_X12_thiefGoes_134 ms ma p1 p2 x3_ x4_ post (P_X12_thiefGoes_107 ms ma p1 p2 post  x3_ x4_ n107) x5_ x6_ n134) x7_ x8_ k0_ ml → va_P D vwCl (List.flatten (wM aM C ms mw ma ml)) H → va_D A (List.flatten (wM aM C ms mw ma ml)) → va_S A s.heap H locs → lv_has ls 12 [(0, .ref (aM 0)), (1, .int p1), (2, .int p2), (3, .int x3_), (4, .int x4_), (5, .int x5_), (6, .int x6_), (7, .int x7_), (8, .long x8_)] → W p l e rmX12_thiefGoes s m args below meth c H locs 0 0 Q (F0 m 189 ls [.long k0_]) := by
            intro x7_ x8_ k0_ ml H locs ls h hP hD hS hl
            unfold P_X12_thiefGoes_189 at h
            refine lv_lstore (lv' := [(10, .long k0_), (0, .ref (aM 0)), (1, .int p1), (2, .int p2), (3, .int x3_), (4, .int x4_), (5, .int x5_), (6, .int x6_), (7, .int x7_), (8, .long x8_)]) hx hb dX12_thiefGoes_189 hl (by decide) rfl (fun ls hl => ?_)
            refine lv_aload_n hx hb dX12_thiefGoes_191 rfl (lv_at hl 1 rfl) ?_
            refine va_get (D := D) (ci := 12) (v := .ref (aM 29)) (C := RX12) (T := TX12) (N := 51) hx hb hw inW_X12 hown hK hP 0 rfl rfl 44 (by decide) (hw _ mw_6_87) (fun _ h9 => h9) rfl dX12_thiefGoes_192 ?_
            refine lv_iload hx hb dX12_thiefGoes_195 (lv_at hl 6 rfl) ?_
            refine lv_iload hx hb dX12_thiefGoes_197 (lv_at hl 8 rfl) ?_
            refine cGoI (wo := fun u => wM aM C ms mw ma ml) (cRunS (As := [.int x5_, .int x7_]) (rest := [.ref (aM 29)]) ⟨hx, hb, hml, hown, hw⟩ hK hN hP hD [] rfl rfl (k_X12_state l D C _    x5_ x7_ h) (va_cwS 2 hw (goodS mw_8_228 mw_8_229 mw_1_13 mw_8_230) rfl rfl rfl (by decide +kernel) ⟨Nat.le_of_ble_eq_true rfl, Nat.le_of_ble_eq_true rfl⟩) rfl hl.1 rfl (Nat.le_of_ble_eq_true rfl) dX12_thiefGoes_199 ⟨Nat.zero_le _, Nat.zero_le _⟩) hP hD hS hA [] [0, 1, 2, 3, 4, 5, 6, 7, 8, 9, 10, 11, 12, 13, 14, 15, 16, 17, 18, 19, 20, 21, 22, 23, 24, 25, 26, 27, 28, 29, 30, 31, 32] [0, 1, 2, 3, 4, 5, 6, 7, 8, 9, 10, 11, 12, 13, 14, 15, 16, 17, 18, 19, 20, 21, 22, 23, 24, 25, 26, 27, 28, 29, 30, 31, 32] rfl rfl rfl (by decide) rfl (fun _ => rfl) (fun r1 u H locs h hP hD hS => ?_)
            have hP : va_P D vwCl (List.flatten (wM aM C ms mw ma ml)) H := hP
            have hD : va_D A (List.flatten (wM aM C ms mw ma ml)) := hD
            refine lv_dup2_11 hx hb dX12_thiefGoes_202 rfl rfl ?_
            try dsimp only at h
            obtain ⟨kk_2, hkk_2⟩ : ∃ z : Nat, r1.toNatClampNeg = z := ⟨_, rfl⟩
            rw [hkk_2] at h
            refine cLald hx hb hK hP 29 1 rfl rfl kk_2 hkk_2 h.1 dX12_thiefGoes_203 ?_
            have h := h.2
            refine lv_lload hx hb dX12_thiefGoes_204 (lv_at hl 9 rfl) ?_
            refine lv_lsub hx hb dX12_thiefGoes_206 ?_
            try dsimp only at h
            refine cLast hx hb hK hP hD hS 29 1 rfl rfl kk_2 hkk_2 h.1 dX12_thiefGoes_207 (fun H locs hP hD hS => ?_)
            have h := h.2
            refine lv_aload_n hx hb dX12_thiefGoes_208 rfl (lv_at hl 1 rfl) ?_
            refine va_get (D := D) (ci := 12) (v := .ref (aM 29)) (C := RX12) (T := TX12) (N := 51) hx hb hw inW_X12 hown hK hP 0 rfl rfl 44 (by decide) (hw _ mw_6_87) (fun _ h9 => h9) rfl dX12_thiefGoes_209 ?_
            refine lv_iload hx hb dX12_thiefGoes_212 (lv_at hl 6 rfl) ?_
            refine lv_iconst (v := 1) hx hb dX12_thiefGoes_214 (by decide) ?_
            refine lv_iload hx hb dX12_thiefGoes_215 (lv_at hl 7 rfl) ?_
            refine lv_ishl hx hb dX12_thiefGoes_217 ?_
            refine lv_ior hx hb dX12_thiefGoes_218 ?_
            refine lv_iload hx hb dX12_thiefGoes_219 (lv_at hl 8 rfl) ?_
            refine lv_iconst (v := 1) hx hb dX12_thiefGoes_221 (by decide) ?_
            refine lv_iload_n hx hb dX12_thiefGoes_222 rfl (lv_at hl 2 rfl) ?_
            refine lv_ishl hx hb dX12_thiefGoes_223 ?_
            refine lv_ior hx hb dX12_thiefGoes_224 ?_
            have hP : va_P D vwCl (List.flatten (wM aM C ms mw ma (va_up ml 7 (vp_updL (ml 7) kk_2 ((ml 7 kk_2) - x8_))))) H := hP
            have hD : va_D A (List.flatten (wM aM C ms mw ma (va_up ml 7 (vp_updL (ml 7) kk_2 ((ml 7 kk_2) - x8_))))) := hD
            refine cGoI (wo := fun u => wM aM C ms mw ma (va_up ml 7 (vp_updL (ml 7) kk_2 ((ml 7 kk_2) - x8_)))) (cRunS (As := [.int (x5_ ||| ((1 : Int32) <<< (x6_ &&& 31))), .int (x7_ ||| ((1 : Int32) <<< (p1 &&& 31)))]) (rest := [.ref (aM 29)]) ⟨hx, hb, hml, hown, hw⟩ hK hN hP hD [] rfl rfl (k_X12_state l D C _    (x5_ ||| ((1 : Int32) <<< (x6_ &&& 31))) (x7_ ||| ((1 : Int32) <<< (p1 &&& 31))) h) (va_cwS 2 hw (goodS mw_8_228 mw_8_229 mw_1_13 mw_8_230) rfl rfl rfl (by decide +kernel) ⟨Nat.le_of_ble_eq_true rfl, Nat.le_of_ble_eq_true rfl⟩) rfl hl.1 rfl (Nat.le_of_ble_eq_true rfl) dX12_thiefGoes_225 ⟨Nat.zero_le _, Nat.zero_le _⟩) hP hD hS hA [] [0, 1, 2, 3, 4, 5, 6, 7, 8, 9, 10, 11, 12, 13, 14, 15, 16, 17, 18, 19, 20, 21, 22, 23, 24, 25, 26, 27, 28, 29, 30, 31, 32] [0, 1, 2, 3, 4, 5, 6, 7, 8, 9, 10, 11, 12, 13, 14, 15, 16, 17, 18, 19, 20, 21, 22, 23, 24, 25, 26, 27, 28, 29, 30, 31, 32] rfl rfl rfl (by decide) rfl (fun _ => rfl) (fun r3 u H locs h hP hD hS => ?_)
            have hP : va_P D vwCl (List.flatten (wM aM C ms mw ma (va_up ml 7 (vp_updL (ml 7) kk_2 ((ml 7 kk_2) - x8_))))) H := hP
            have hD : va_D A (List.flatten (wM aM C ms mw ma (va_up ml 7 (vp_updL (ml 7) kk_2 ((ml 7 kk_2) - x8_))))) := hD
            refine lv_dup2_11 hx hb dX12_thiefGoes_228 rfl rfl ?_
            try dsimp only at h
            obtain ⟨kk_4, hkk_4⟩ : ∃ z : Nat, r3.toNatClampNeg = z := ⟨_, rfl⟩
            rw [hkk_4] at h
            refine cLald hx hb hK hP 29 1 rfl rfl kk_4 hkk_4 h.1 dX12_thiefGoes_229 ?_
            have h := h.2
            refine lv_lload hx hb dX12_thiefGoes_230 (lv_at hl 0 rfl) ?_
            refine lv_ladd hx hb dX12_thiefGoes_232 ?_
            try dsimp only at h
            refine cLast hx hb hK hP hD hS 29 1 rfl rfl kk_4 hkk_4 h.1 dX12_thiefGoes_233 (fun H locs hP hD hS => ?_)
            have h := h.2
            refine lv_aload_n hx hb dX12_thiefGoes_234 rfl (lv_at hl 1 rfl) ?_
            refine va_get (D := D) (ci := 12) (v := .ref (aM 29)) (C := RX12) (T := TX12) (N := 51) hx hb hw inW_X12 hown hK hP 0 rfl rfl 44 (by decide) (hw _ mw_6_87) (fun _ h9 => h9) rfl dX12_thiefGoes_235 ?_
            refine lv_iload hx hb dX12_thiefGoes_238 (lv_at hl 6 rfl) ?_
            refine lv_iconst (v := 1) hx hb dX12_thiefGoes_240 (by decide) ?_
            refine lv_iload hx hb dX12_thiefGoes_241 (lv_at hl 7 rfl) ?_
            refine lv_ishl hx hb dX12_thiefGoes_243 ?_
            refine lv_ior hx hb dX12_thiefGoes_244 ?_
            refine lv_iload hx hb dX12_thiefGoes_245 (lv_at hl 8 rfl) ?_
            have hP : va_P D vwCl (List.flatten (wM aM C ms mw ma (va_up ml 7 (vp_updL (vp_updL (ml 7) kk_2 ((ml 7 kk_2) - x8_)) kk_4 (((vp_updL (ml 7) kk_2 ((ml 7 kk_2) - x8_)) kk_4) + k0_))))) H := hP
            have hD : va_D A (List.flatten (wM aM C ms mw ma (va_up ml 7 (vp_updL (vp_updL (ml 7) kk_2 ((ml 7 kk_2) - x8_)) kk_4 (((vp_updL (ml 7) kk_2 ((ml 7 kk_2) - x8_)) kk_4) + k0_))))) := hD
            refine cGoI (wo := fun u => wM aM C ms mw ma (va_up ml 7 (vp_updL (vp_updL (ml 7) kk_2 ((ml 7 kk_2) - x8_)) kk_4 (((vp_updL (ml 7) kk_2 ((ml 7 kk_2) - x8_)) kk_4) + k0_)))) (cRunS (As := [.int (x5_ ||| ((1 : Int32) <<< (x6_ &&& 31))), .int x7_]) (rest := [.ref (aM 29)]) ⟨hx, hb, hml, hown, hw⟩ hK hN hP hD [] rfl rfl (k_X12_state l D C _    (x5_ ||| ((1 : Int32) <<< (x6_ &&& 31))) x7_ h) (va_cwS 2 hw (goodS mw_8_228 mw_8_229 mw_1_13 mw_8_230) rfl rfl rfl (by decide +kernel) ⟨Nat.le_of_ble_eq_true rfl, Nat.le_of_ble_eq_true rfl⟩) rfl hl.1 rfl (Nat.le_of_ble_eq_true rfl) dX12_thiefGoes_247 ⟨Nat.zero_le _, Nat.zero_le _⟩) hP hD hS hA [] [0, 1, 2, 3, 4, 5, 6, 7, 8, 9, 10, 11, 12, 13, 14, 15, 16, 17, 18, 19, 20, 21, 22, 23, 24, 25, 26, 27, 28, 29, 30, 31, 32] [0, 1, 2, 3, 4, 5, 6, 7, 8, 9, 10, 11, 12, 13, 14, 15, 16, 17, 18, 19, 20, 21, 22, 23, 24, 25, 26, 27, 28, 29, 30, 31, 32] rfl rfl rfl (by decide) rfl (fun _ => rfl) (fun r5 u H locs h hP hD hS => ?_)
            have hP : va_P D vwCl (List.flatten (wM aM C ms mw ma (va_up ml 7 (vp_updL (vp_updL (ml 7) kk_2 ((ml 7 kk_2) - x8_)) kk_4 (((vp_updL (ml 7) kk_2 ((ml 7 kk_2) - x8_)) kk_4) + k0_))))) H := hP
            have hD : va_D A (List.flatten (wM aM C ms mw ma (va_up ml 7 (vp_updL (vp_updL (ml 7) kk_2 ((ml 7 kk_2) - x8_)) kk_4 (((vp_updL (ml 7) kk_2 ((ml 7 kk_2) - x8_)) kk_4) + k0_))))) := hD
            refine lv_dup2_11 hx hb dX12_thiefGoes_250 rfl rfl ?_
            try dsimp only at h
            obtain ⟨kk_6, hkk_6⟩ : ∃ z : Nat, r5.toNatClampNeg = z := ⟨_, rfl⟩
            rw [hkk_6] at h
            refine cLald hx hb hK hP 29 1 rfl rfl kk_6 hkk_6 h.1 dX12_thiefGoes_251 ?_
            have h := h.2
            refine lv_lload hx hb dX12_thiefGoes_252 (lv_at hl 9 rfl) ?_
            refine lv_lload hx hb dX12_thiefGoes_254 (lv_at hl 0 rfl) ?_
            refine lv_lsub hx hb dX12_thiefGoes_256 ?_
            refine lv_ladd hx hb dX12_thiefGoes_257 ?_
            try dsimp only at h
            refine cLast hx hb hK hP hD hS 29 1 rfl rfl kk_6 hkk_6 h.1 dX12_thiefGoes_258 (fun H locs hP hD hS => ?_)
            have h := h.2
            refine lv_iinc (v := (x7_ + 1)) (lv' := [(7, .int (x7_ + 1)), (10, .long k0_), (0, .ref (aM 0)), (1, .int p1), (2, .int p2), (3, .int x3_), (4, .int x4_), (5, .int x5_), (6, .int x6_), (8, .long x8_)]) hx hb dX12_thiefGoes_259 hl (k := 8) rfl rfl (by decide) rfl (fun ls hl => ?_)
            refine lv_goto (tgt := 134) hx hb dX12_thiefGoes_262 (by decide) ?_
            have hP : va_P D vwCl (List.flatten (wM aM C ms mw ma (va_up ml 7 (vp_updL (vp_updL (vp_updL (ml 7) kk_2 ((ml 7 kk_2) - x8_)) kk_4 (((vp_updL (ml 7) kk_2 ((ml 7 kk_2) - x8_)) kk_4) + k0_)) kk_6 (((vp_updL (vp_updL (ml 7) kk_2 ((ml 7 kk_2) - x8_)) kk_4 (((vp_updL (ml 7) kk_2 ((ml 7 kk_2) - x8_)) kk_4) + k0_)) kk_6) + (x8_ - k0_)))))) H := hP
            have hD : va_D A (List.flatten (wM aM C ms mw ma (va_up ml 7 (vp_updL (vp_updL (vp_updL (ml 7) kk_2 ((ml 7 kk_2) - x8_)) kk_4 (((vp_updL (ml 7) kk_2 ((ml 7 kk_2) - x8_)) kk_4) + k0_)) kk_6 (((vp_updL (vp_updL (ml 7) kk_2 ((ml 7 kk_2) - x8_)) kk_4 (((vp_updL (ml 7) kk_2 ((ml 7 kk_2) - x8_)) kk_4) + k0_)) kk_6) + (x8_ - k0_)))))) := hD
            exact ih134 (x7_ + 1) (va_up ml 7 (vp_updL (vp_updL (vp_updL (ml 7) kk_2 ((ml 7 kk_2) - x8_)) kk_4 (((vp_updL (ml 7) kk_2 ((ml 7 kk_2) - x8_)) kk_4) + k0_)) kk_6 (((vp_updL (vp_updL (ml 7) kk_2 ((ml 7 kk_2) - x8_)) kk_4 (((vp_updL (ml 7) kk_2 ((ml 7 kk_2) - x8_)) kk_4) + k0_)) kk_6) + (x8_ - k0_)))) _ _ _ h hP hD hS (lv_sub hl [2, 3, 4, 5, 6, 7, 8, 0] rfl)
          intro x7_ ml H locs ls h hP hD hS hl
          have h : P_X12_thiefGoes_134_b ms ma p1 p2 x3_ x4_ post (P_X12_thiefGoes_107 ms ma p1 p2 post  x3_ x4_ n107) x5_ x6_ (P_X12_thiefGoes_134 ms ma p1 p2 x3_ x4_ post (P_X12_thiefGoes_107 ms ma p1 p2 post  x3_ x4_ n107) x5_ x6_ n134) x7_ ml := h
          unfold P_X12_thiefGoes_134_b at h
          refine lv_iload hx hb dX12_thiefGoes_134 (lv_at hl 7 rfl) ?_
          refine lv_iload hx hb dX12_thiefGoes_136 (lv_at hl 4 rfl) ?_
          refine lv_icmp_ge (tgt := 265) hx hb dX12_thiefGoes_138 (by decide) (fun c7 => ?_) (fun c7 => ?_)
          · have h := h.1 c7
            refine lv_iinc (v := (x5_ + 1)) (lv' := [(5, .int (x5_ + 1)), (0, .ref (aM 0)), (1, .int p1), (2, .int p2), (3, .int x3_), (4, .int x4_), (6, .int x6_), (7, .int x7_)]) hx hb dX12_thiefGoes_265 hl (k := 5) rfl rfl (by decide) rfl (fun ls hl => ?_)
            refine lv_goto (tgt := 107) hx hb dX12_thiefGoes_268 (by decide) ?_
            exact ih107 (x5_ + 1) ml _ _ _ h hP hD hS (lv_sub hl [1, 2, 3, 4, 5, 0] rfl)
          · have h := h.2 c7
            refine lv_aload_n hx hb dX12_thiefGoes_141 rfl (lv_at hl 0 rfl) ?_
            refine va_get (D := D) (ci := 12) (v := .ref (aM 30)) (C := RX12) (T := TX12) (N := 51) hx hb hw inW_X12 hown hK hP 0 rfl rfl 45 (by decide) (hw _ mw_6_88) (fun _ h9 => h9) rfl dX12_thiefGoes_142 ?_
            refine lv_iload hx hb dX12_thiefGoes_145 (lv_at hl 5 rfl) ?_
            refine lv_iload hx hb dX12_thiefGoes_147 (lv_at hl 7 rfl) ?_
            refine cGoI (wo := fun u => wM aM C ms mw ma ml) (cRunS (As := [.int x5_, .int x7_]) (rest := [.ref (aM 30)]) ⟨hx, hb, hml, hown, hw⟩ hK hN hP hD [] rfl rfl (k_X12_state l D C _    x5_ x7_ h) (va_cwS 2 hw (goodS mw_8_228 mw_8_229 mw_1_13 mw_8_230) rfl rfl rfl (by decide +kernel) ⟨Nat.le_of_ble_eq_true rfl, Nat.le_of_ble_eq_true rfl⟩) rfl hl.1 rfl (Nat.le_of_ble_eq_true rfl) dX12_thiefGoes_149 ⟨Nat.zero_le _, Nat.zero_le _⟩) hP hD hS hA [] [0, 1, 2, 3, 4, 5, 6, 7, 8, 9, 10, 11, 12, 13, 14, 15, 16, 17, 18, 19, 20, 21, 22, 23, 24, 25, 26, 27, 28, 29, 30, 31, 32] [0, 1, 2, 3, 4, 5, 6, 7, 8, 9, 10, 11, 12, 13, 14, 15, 16, 17, 18, 19, 20, 21, 22, 23, 24, 25, 26, 27, 28, 29, 30, 31, 32] rfl rfl rfl (by decide) rfl (fun _ => rfl) (fun r8 u H locs h hP hD hS => ?_)
            have hP : va_P D vwCl (List.flatten (wM aM C ms mw ma ml)) H := hP
            have hD : va_D A (List.flatten (wM aM C ms mw ma ml)) := hD
            try dsimp only at h
            obtain ⟨kk_9, hkk_9⟩ : ∃ z : Nat, r8.toNatClampNeg = z := ⟨_, rfl⟩
            rw [hkk_9] at h
            refine cLald hx hb hK hP 30 1 rfl rfl kk_9 hkk_9 h.1 dX12_thiefGoes_152 ?_
            have h := h.2
            refine lv_topl (fun x10 ex10 => ?_)
            have h := h x10 ex10
            refine lv_lstore (lv' := [(8, .long x10), (0, .ref (aM 0)), (1, .int p1), (2, .int p2), (3, .int x3_), (4, .int x4_), (5, .int x5_), (6, .int x6_), (7, .int x7_)]) hx hb dX12_thiefGoes_153 hl (by decide) rfl (fun ls hl => ?_)
            refine lv_lload hx hb dX12_thiefGoes_155 (lv_at hl 0 rfl) ?_
            refine lv_lconst (v := 0) hx hb dX12_thiefGoes_157 (by decide) ?_
            refine W.lcmp hx hb dX12_thiefGoes_158 ?_
            refine lv_if_ne (tgt := 165) hx hb dX12_thiefGoes_159 (by decide) (fun c11 => ?_) (fun c11 => ?_)
            · have c11 : ¬ x10 = 0 := fun q => c11 ((lg_cmp_eq _ _).mpr q)
              have h := h.1 c11
              refine lv_iload hx hb dX12_thiefGoes_165 (lv_at hl 7 rfl) ?_
              refine lv_aload_n hx hb dX12_thiefGoes_167 rfl (lv_at hl 1 rfl) ?_
              refine va_get (D := D) (ci := 12) (v := .ref (aM 13)) (C := RX12) (T := TX12) (N := 51) hx hb hw inW_X12 hown hK hP 0 rfl rfl 23 (by decide) (hw _ mw_6_66) (fun _ h9 => h9) rfl dX12_thiefGoes_168 ?_
              refine lv_iconst (v := 0) hx hb dX12_thiefGoes_171 (by decide) ?_
              refine cIald hx hb hK hP 13 0 rfl rfl 0 (by decide +kernel) (cIn (by decide +kernel)) dX12_thiefGoes_172 ?_
              refine lv_icmp_ne (tgt := 188) hx hb dX12_thiefGoes_173 (by decide) (fun c12 => ?_) (fun c12 => ?_)
              · have h := h.1 c12
                refine lv_lconst (v := 0) hx hb dX12_thiefGoes_188 (by decide) ?_
                exact N189 x7_ x10 0 ml _ _ _ h hP hD hS (lv_sub hl [1, 2, 3, 4, 5, 6, 7, 8, 0] rfl)
              · have h := h.2 c12
                refine lv_lload hx hb dX12_thiefGoes_176 (lv_at hl 0 rfl) ?_
                refine lv_iload_n hx hb dX12_thiefGoes_178 rfl (lv_at hl 3 rfl) ?_
                refine lv_i2l hx hb dX12_thiefGoes_179 rfl ?_
                refine lv_lmul hx hb dX12_thiefGoes_180 ?_
                refine lv_ldc2 (v := 100) hx hb hown (hw _ mw_7_163) dX12_thiefGoes_181 ?_
                refine lv_ldiv hx hb dX12_thiefGoes_184 (by decide) ?_
                refine lv_goto (tgt := 189) hx hb dX12_thiefGoes_185 (by decide) ?_
                exact N189 x7_ x10 ((x10 * p2.toInt64) / 100) ml _ _ _ h hP hD hS (lv_sub hl [1, 2, 3, 4, 5, 6, 7, 8, 0] rfl)
            · have c11 : x10 = 0 := (lg_cmp_eq _ _).mp c11
              have h := h.2 c11
              refine lv_goto (tgt := 259) hx hb dX12_thiefGoes_162 (by decide) ?_
              refine lv_iinc (v := (x7_ + 1)) (lv' := [(7, .int (x7_ + 1)), (8, .long x10), (0, .ref (aM 0)), (1, .int p1), (2, .int p2), (3, .int x3_), (4, .int x4_), (5, .int x5_), (6, .int x6_)]) hx hb dX12_thiefGoes_259 hl (k := 8) rfl rfl (by decide) rfl (fun ls hl => ?_)
              refine lv_goto (tgt := 134) hx hb dX12_thiefGoes_262 (by decide) ?_
              exact ih134 (x7_ + 1) ml _ _ _ h hP hD hS (lv_sub hl [2, 3, 4, 5, 6, 7, 8, 0] rfl)
      intro x5_ ml H locs ls h hP hD hS hl
      have h : P_X12_thiefGoes_107_b ms ma p1 p2 post  x3_ x4_ (P_X12_thiefGoes_107 ms ma p1 p2 post  x3_ x4_ n107) x5_ ml := h
      unfold P_X12_thiefGoes_107_b at h
      refine lv_iload hx hb dX12_thiefGoes_107 (lv_at hl 5 rfl) ?_
      refine lv_iload_n hx hb dX12_thiefGoes_109 rfl (lv_at hl 3 rfl) ?_
      refine lv_icmp_ge (tgt := 271) hx hb dX12_thiefGoes_110 (by decide) (fun c21 => ?_) (fun c21 => ?_)
      · have h := h.1 c21
        rw [← hQ]
        exact cRetV (ml) hx hb hr hlocks hS hP hD h dX12_thiefGoes_271
      · have h := h.2 c21
        refine lv_aload_n hx hb dX12_thiefGoes_113 rfl (lv_at hl 0 rfl) ?_
        refine lv_iload_n hx hb dX12_thiefGoes_114 rfl (lv_at hl 1 rfl) ?_
        refine lv_iload hx hb dX12_thiefGoes_115 (lv_at hl 5 rfl) ?_
        refine cGoI (wo := fun u => wM aM C ms mw ma ml) (cRunV (As := [.int p1, .int x5_]) (rest := []) ⟨hx, hb, hml, hown, hw⟩ hK hN hP hD [0, 1, 2, 3, 4, 5, 6, 7, 8, 9, 10, 11, 12, 13, 14, 15, 16, 17, 18, 19, 20, 21, 22, 23, 24, 25, 26, 27, 28, 29, 30, 31, 32] rfl rfl (k_X12_takesOf l D C _ aM  ms mw ma ml p1 x5_ h) (cwV 2 hw (goodV mw_7_184 mw_7_186 mw_s139 mw_1_13 mw_7_187) rfl rfl rfl (by decide +kernel) ⟨Nat.le_of_ble_eq_true rfl, Nat.le_of_ble_eq_true rfl⟩) rfl rfl rfl hl.1 rfl (Nat.le_of_ble_eq_true rfl) dX12_thiefGoes_117 ⟨Nat.zero_le _, Nat.zero_le _⟩) hP hD hS hA [0, 1, 2, 3, 4, 5, 6, 7, 8, 9, 10, 11, 12, 13, 14, 15, 16, 17, 18, 19, 20, 21, 22, 23, 24, 25, 26, 27, 28, 29, 30, 31, 32] [] [0, 1, 2, 3, 4, 5, 6, 7, 8, 9, 10, 11, 12, 13, 14, 15, 16, 17, 18, 19, 20, 21, 22, 23, 24, 25, 26, 27, 28, 29, 30, 31, 32] rfl rfl rfl (by decide) rfl (fun _ => rfl) (fun r22 u H locs h hP hD hS => ?_)
        have hP : va_P D vwCl (List.flatten (wM aM C ms mw ma ml)) H := hP
        have hD : va_D A (List.flatten (wM aM C ms mw ma ml)) := hD
        refine lv_istore (lv' := [(6, .int r22), (0, .ref (aM 0)), (1, .int p1), (2, .int p2), (3, .int x3_), (4, .int x4_), (5, .int x5_)]) hx hb dX12_thiefGoes_120 hl (by decide) rfl (fun ls hl => ?_)
        refine lv_iload hx hb dX12_thiefGoes_122 (lv_at hl 0 rfl) ?_
        refine lv_iconst (v := (-1)) hx hb dX12_thiefGoes_124 (by decide) ?_
        refine lv_icmp_ne (tgt := 131) hx hb dX12_thiefGoes_125 (by decide) (fun c23 => ?_) (fun c23 => ?_)
        · have h := h.1 c23
          refine lv_iconst (v := 0) hx hb dX12_thiefGoes_131 (by decide) ?_
          refine lv_istore (lv' := [(7, .int 0), (6, .int r22), (0, .ref (aM 0)), (1, .int p1), (2, .int p2), (3, .int x3_), (4, .int x4_), (5, .int x5_)]) hx hb dX12_thiefGoes_132 hl (by decide) rfl (fun ls hl => ?_)
          obtain ⟨n, h⟩ := h
          exact N134 x5_ r22 n 0 ml _ _ _ h hP hD hS (lv_sub hl [2, 3, 4, 5, 6, 7, 1, 0] rfl)
        · have h := h.2 c23
          refine lv_goto (tgt := 265) hx hb dX12_thiefGoes_128 (by decide) ?_
          refine lv_iinc (v := (x5_ + 1)) (lv' := [(5, .int (x5_ + 1)), (6, .int r22), (0, .ref (aM 0)), (1, .int p1), (2, .int p2), (3, .int x3_), (4, .int x4_)]) hx hb dX12_thiefGoes_265 hl (k := 6) rfl rfl (by decide) rfl (fun ls hl => ?_)
          refine lv_goto (tgt := 107) hx hb dX12_thiefGoes_268 (by decide) ?_
          exact ih107 (x5_ + 1) ml _ _ _ h hP hD hS (lv_sub hl [2, 3, 4, 5, 6, 0] rfl)
  have N22 : ∀ (x3_ : Int32) (x4_ : Int32) (n22 : Nat) (x5_ : Int32) (ml : Nat → Nat → Int64) (H : Heap) (locs : List Loc) (ls : Array Slot), P_X12_thiefGoes_22 ms ma p1 p2 post (fun (x3_ : Int32) (x4_ : Int32) (x5_ : Int32) (ml : Nat → Nat → Int64) => ∃ n : Nat, P_X12_thiefGoes_107 ms ma p1 p2 post  x3_ x4_ n x5_ ml) x3_ x4_ n22 x5_ ml → va_P D vwCl (List.flatten (wM aM C ms mw ma ml)) H → va_D A (List.flatten (wM aM C ms mw ma ml)) → va_S A s.heap H locs → lv_has ls 12 [(0, .ref (aM 0)), (1, .int p1), (2, .int p2), (3, .int x3_), (4, .int x4_), (5, .int x5_)] → W p l e rmX12_thiefGoes s m args below meth c H locs 0 0 Q (F0 m 22 ls []) := by
    intro x3_ x4_
    intro n22
    induction n22 with
    | zero => intro x5_ ml H locs ls h hP hD hS hl; exact False.elim h
    | succ n22 ih22 =>
      have N31 : ∀ (x5_ : Int32) (n31 : Nat) (x6_ : Int32) (ml : Nat → Nat → Int64) (H : Heap) (locs : List Loc) (ls : Array Slot), P_X12_thiefGoes_31 ms ma p1 p2 x3_ x4_ post (P_X12_thiefGoes_22 ms ma p1 p2 post (fun (x3_ : Int32) (x4_ : Int32) (x5_ : Int32) (ml : Nat → Nat → Int64) => ∃ n : Nat, P_X12_thiefGoes_107 ms ma p1 p2 post  x3_ x4_ n x5_ ml) x3_ x4_ n22) x5_ n31 x6_ ml → va_P D vwCl (List.flatten (wM aM C ms mw ma ml)) H → va_D A (List.flatten (wM aM C ms mw ma ml)) → va_S A s.heap H locs → lv_has ls 12 [(0, .ref (aM 0)), (1, .int p1), (2, .int p2), (3, .int x3_), (4, .int x4_), (5, .int x5_), (6, .int x6_)] → W p l e rmX12_thiefGoes s m args below meth c H locs 0 0 Q (F0 m 31 ls []) := by
        intro x5_
        intro n31
        induction n31 with
        | zero => intro x6_ ml H locs ls h hP hD hS hl; exact False.elim h
        | succ n31 ih31 =>
          intro x6_ ml H locs ls h hP hD hS hl
          have h : P_X12_thiefGoes_31_b ms ma p1 p2 x3_ x4_ post (P_X12_thiefGoes_22 ms ma p1 p2 post (fun (x3_ : Int32) (x4_ : Int32) (x5_ : Int32) (ml : Nat → Nat → Int64) => ∃ n : Nat, P_X12_thiefGoes_107 ms ma p1 p2 post  x3_ x4_ n x5_ ml) x3_ x4_ n22) x5_ (P_X12_thiefGoes_31 ms ma p1 p2 x3_ x4_ post (P_X12_thiefGoes_22 ms ma p1 p2 post (fun (x3_ : Int32) (x4_ : Int32) (x5_ : Int32) (ml : Nat → Nat → Int64) => ∃ n : Nat, P_X12_thiefGoes_107 ms ma p1 p2 post  x3_ x4_ n x5_ ml) x3_ x4_ n22) x5_ n31) x6_ ml := h
          unfold P_X12_thiefGoes_31_b at h
          refine lv_iload hx hb dX12_thiefGoes_31 (lv_at hl 6 rfl) ?_
          refine lv_iload hx hb dX12_thiefGoes_33 (lv_at hl 4 rfl) ?_
          refine lv_icmp_ge (tgt := 98) hx hb dX12_thiefGoes_35 (by decide) (fun c13 => ?_) (fun c13 => ?_)
          · have h := h.1 c13
            refine lv_iinc (v := (x5_ + 1)) (lv' := [(5, .int (x5_ + 1)), (0, .ref (aM 0)), (1, .int p1), (2, .int p2), (3, .int x3_), (4, .int x4_), (6, .int x6_)]) hx hb dX12_thiefGoes_98 hl (k := 5) rfl rfl (by decide) rfl (fun ls hl => ?_)
            refine lv_goto (tgt := 22) hx hb dX12_thiefGoes_101 (by decide) ?_
            exact ih22 (x5_ + 1) ml _ _ _ h hP hD hS (lv_sub hl [1, 2, 3, 4, 5, 0] rfl)
          · have h := h.2 c13
            refine lv_aload_n hx hb dX12_thiefGoes_38 rfl (lv_at hl 0 rfl) ?_
            refine va_get (D := D) (ci := 12) (v := .ref (aM 30)) (C := RX12) (T := TX12) (N := 51) hx hb hw inW_X12 hown hK hP 0 rfl rfl 45 (by decide) (hw _ mw_6_88) (fun _ h9 => h9) rfl dX12_thiefGoes_39 ?_
            refine lv_iload hx hb dX12_thiefGoes_42 (lv_at hl 5 rfl) ?_
            refine lv_iload hx hb dX12_thiefGoes_44 (lv_at hl 6 rfl) ?_
            refine cGoI (wo := fun u => wM aM C ms mw ma ml) (cRunS (As := [.int x5_, .int x6_]) (rest := [.ref (aM 30)]) ⟨hx, hb, hml, hown, hw⟩ hK hN hP hD [] rfl rfl (k_X12_state l D C _    x5_ x6_ h) (va_cwS 2 hw (goodS mw_8_228 mw_8_229 mw_1_13 mw_8_230) rfl rfl rfl (by decide +kernel) ⟨Nat.le_of_ble_eq_true rfl, Nat.le_of_ble_eq_true rfl⟩) rfl hl.1 rfl (Nat.le_of_ble_eq_true rfl) dX12_thiefGoes_46 ⟨Nat.zero_le _, Nat.zero_le _⟩) hP hD hS hA [] [0, 1, 2, 3, 4, 5, 6, 7, 8, 9, 10, 11, 12, 13, 14, 15, 16, 17, 18, 19, 20, 21, 22, 23, 24, 25, 26, 27, 28, 29, 30, 31, 32] [0, 1, 2, 3, 4, 5, 6, 7, 8, 9, 10, 11, 12, 13, 14, 15, 16, 17, 18, 19, 20, 21, 22, 23, 24, 25, 26, 27, 28, 29, 30, 31, 32] rfl rfl rfl (by decide) rfl (fun _ => rfl) (fun r14 u H locs h hP hD hS => ?_)
            have hP : va_P D vwCl (List.flatten (wM aM C ms mw ma ml)) H := hP
            have hD : va_D A (List.flatten (wM aM C ms mw ma ml)) := hD
            refine lv_iload hx hb dX12_thiefGoes_49 (lv_at hl 6 rfl) ?_
            refine lv_iload_n hx hb dX12_thiefGoes_51 rfl (lv_at hl 1 rfl) ?_
            refine lv_ishr hx hb dX12_thiefGoes_52 ?_
            refine lv_iconst (v := 1) hx hb dX12_thiefGoes_53 (by decide) ?_
            refine lv_iand hx hb dX12_thiefGoes_54 ?_
            refine lv_iconst (v := 1) hx hb dX12_thiefGoes_55 (by decide) ?_
            refine lv_icmp_ne (tgt := 63) hx hb dX12_thiefGoes_56 (by decide) (fun c15 => ?_) (fun c15 => ?_)
            · have h := h.1 c15
              refine lv_aload_n hx hb dX12_thiefGoes_63 rfl (lv_at hl 0 rfl) ?_
              refine va_get (D := D) (ci := 12) (v := .ref (aM 29)) (C := RX12) (T := TX12) (N := 51) hx hb hw inW_X12 hown hK hP 0 rfl rfl 44 (by decide) (hw _ mw_6_87) (fun _ h9 => h9) rfl dX12_thiefGoes_64 ?_
              refine lv_iload hx hb dX12_thiefGoes_67 (lv_at hl 5 rfl) ?_
              refine lv_iload hx hb dX12_thiefGoes_69 (lv_at hl 6 rfl) ?_
              refine cGoI (wo := fun u => wM aM C ms mw ma ml) (cRunS (As := [.int x5_, .int x6_]) (rest := [.ref (aM 29), .int r14, .ref (aM 30)]) ⟨hx, hb, hml, hown, hw⟩ hK hN hP hD [] rfl rfl (k_X12_state l D C _    x5_ x6_ h) (va_cwS 2 hw (goodS mw_8_228 mw_8_229 mw_1_13 mw_8_230) rfl rfl rfl (by decide +kernel) ⟨Nat.le_of_ble_eq_true rfl, Nat.le_of_ble_eq_true rfl⟩) rfl hl.1 rfl (Nat.le_of_ble_eq_true rfl) dX12_thiefGoes_71 ⟨Nat.zero_le _, Nat.zero_le _⟩) hP hD hS hA [] [0, 1, 2, 3, 4, 5, 6, 7, 8, 9, 10, 11, 12, 13, 14, 15, 16, 17, 18, 19, 20, 21, 22, 23, 24, 25, 26, 27, 28, 29, 30, 31, 32] [0, 1, 2, 3, 4, 5, 6, 7, 8, 9, 10, 11, 12, 13, 14, 15, 16, 17, 18, 19, 20, 21, 22, 23, 24, 25, 26, 27, 28, 29, 30, 31, 32] rfl rfl rfl (by decide) rfl (fun _ => rfl) (fun r16 u H locs h hP hD hS => ?_)
              have hP : va_P D vwCl (List.flatten (wM aM C ms mw ma ml)) H := hP
              have hD : va_D A (List.flatten (wM aM C ms mw ma ml)) := hD
              try dsimp only at h
              obtain ⟨kk_17, hkk_17⟩ : ∃ z : Nat, r16.toNatClampNeg = z := ⟨_, rfl⟩
              rw [hkk_17] at h
              refine cLald hx hb hK hP 29 1 rfl rfl kk_17 hkk_17 h.1 dX12_thiefGoes_74 ?_
              have h := h.2
              refine lv_aload_n hx hb dX12_thiefGoes_75 rfl (lv_at hl 0 rfl) ?_
              refine va_get (D := D) (ci := 12) (v := .ref (aM 16)) (C := RX12) (T := TX12) (N := 51) hx hb hw inW_X12 hown hK hP 0 rfl rfl 26 (by decide) (hw _ mw_6_69) (fun _ h9 => h9) rfl dX12_thiefGoes_76 ?_
              refine lv_iconst (v := 5) hx hb dX12_thiefGoes_79 (by decide) ?_
              refine lv_iload_n hx hb dX12_thiefGoes_80 rfl (lv_at hl 1 rfl) ?_
              refine lv_imul hx hb dX12_thiefGoes_81 ?_
              refine lv_iconst (v := 1) hx hb dX12_thiefGoes_82 (by decide) ?_
              refine lv_iadd hx hb dX12_thiefGoes_83 ?_
              try dsimp only at h
              obtain ⟨kk_18, hkk_18⟩ : ∃ z : Nat, ((5 * p1) + 1).toNatClampNeg = z := ⟨_, rfl⟩
              rw [hkk_18] at h
              refine cIald hx hb hK hP 16 0 rfl rfl kk_18 hkk_18 h.1 dX12_thiefGoes_84 ?_
              have h := h.2
              refine lv_i2l hx hb dX12_thiefGoes_85 rfl ?_
              refine lv_lmul hx hb dX12_thiefGoes_86 ?_
              refine lv_ldc2 (v := 100) hx hb hown (hw _ mw_7_163) dX12_thiefGoes_87 ?_
              refine lv_ldiv hx hb dX12_thiefGoes_90 (by decide) ?_
              try dsimp only at h
              obtain ⟨kk_19, hkk_19⟩ : ∃ z : Nat, r14.toNatClampNeg = z := ⟨_, rfl⟩
              rw [hkk_19] at h
              refine cLast hx hb hK hP hD hS 30 1 rfl rfl kk_19 hkk_19 h.1 dX12_thiefGoes_91 (fun H locs hP hD hS => ?_)
              have h := h.2
              refine lv_iinc (v := (x6_ + 1)) (lv' := [(6, .int (x6_ + 1)), (0, .ref (aM 0)), (1, .int p1), (2, .int p2), (3, .int x3_), (4, .int x4_), (5, .int x5_)]) hx hb dX12_thiefGoes_92 hl (k := 6) rfl rfl (by decide) rfl (fun ls hl => ?_)
              refine lv_goto (tgt := 31) hx hb dX12_thiefGoes_95 (by decide) ?_
              have hP : va_P D vwCl (List.flatten (wM aM C ms mw ma (va_up ml 8 (vp_updL (ml 8) kk_19 (((ml 7 kk_17) * (ma 13 kk_18).toInt64) / 100))))) H := hP
              have hD : va_D A (List.flatten (wM aM C ms mw ma (va_up ml 8 (vp_updL (ml 8) kk_19 (((ml 7 kk_17) * (ma 13 kk_18).toInt64) / 100))))) := hD
              exact ih31 (x6_ + 1) (va_up ml 8 (vp_updL (ml 8) kk_19 (((ml 7 kk_17) * (ma 13 kk_18).toInt64) / 100))) _ _ _ h hP hD hS (lv_sub hl [1, 2, 3, 4, 5, 6, 0] rfl)
            · have h := h.2 c15
              refine lv_lconst (v := 0) hx hb dX12_thiefGoes_59 (by decide) ?_
              refine lv_goto (tgt := 91) hx hb dX12_thiefGoes_60 (by decide) ?_
              try dsimp only at h
              obtain ⟨kk_20, hkk_20⟩ : ∃ z : Nat, r14.toNatClampNeg = z := ⟨_, rfl⟩
              rw [hkk_20] at h
              refine cLast hx hb hK hP hD hS 30 1 rfl rfl kk_20 hkk_20 h.1 dX12_thiefGoes_91 (fun H locs hP hD hS => ?_)
              have h := h.2
              refine lv_iinc (v := (x6_ + 1)) (lv' := [(6, .int (x6_ + 1)), (0, .ref (aM 0)), (1, .int p1), (2, .int p2), (3, .int x3_), (4, .int x4_), (5, .int x5_)]) hx hb dX12_thiefGoes_92 hl (k := 6) rfl rfl (by decide) rfl (fun ls hl => ?_)
              refine lv_goto (tgt := 31) hx hb dX12_thiefGoes_95 (by decide) ?_
              have hP : va_P D vwCl (List.flatten (wM aM C ms mw ma (va_up ml 8 (vp_updL (ml 8) kk_20 0)))) H := hP
              have hD : va_D A (List.flatten (wM aM C ms mw ma (va_up ml 8 (vp_updL (ml 8) kk_20 0)))) := hD
              exact ih31 (x6_ + 1) (va_up ml 8 (vp_updL (ml 8) kk_20 0)) _ _ _ h hP hD hS (lv_sub hl [1, 2, 3, 4, 5, 6, 0] rfl)
      intro x5_ ml H locs ls h hP hD hS hl
      have h : P_X12_thiefGoes_22_b ms ma p1 p2 post (fun (x3_ : Int32) (x4_ : Int32) (x5_ : Int32) (ml : Nat → Nat → Int64) => ∃ n : Nat, P_X12_thiefGoes_107 ms ma p1 p2 post  x3_ x4_ n x5_ ml) x3_ x4_ (P_X12_thiefGoes_22 ms ma p1 p2 post (fun (x3_ : Int32) (x4_ : Int32) (x5_ : Int32) (ml : Nat → Nat → Int64) => ∃ n : Nat, P_X12_thiefGoes_107 ms ma p1 p2 post  x3_ x4_ n x5_ ml) x3_ x4_ n22) x5_ ml := h
      unfold P_X12_thiefGoes_22_b at h
      refine lv_iload hx hb dX12_thiefGoes_22 (lv_at hl 5 rfl) ?_
      refine lv_iload_n hx hb dX12_thiefGoes_24 rfl (lv_at hl 3 rfl) ?_
      refine lv_icmp_ge (tgt := 104) hx hb dX12_thiefGoes_25 (by decide) (fun c24 => ?_) (fun c24 => ?_)
      · have h := h.1 c24
        refine lv_iconst (v := 0) hx hb dX12_thiefGoes_104 (by decide) ?_
        refine lv_istore (lv' := [(5, .int 0), (0, .ref (aM 0)), (1, .int p1), (2, .int p2), (3, .int x3_), (4, .int x4_)]) hx hb dX12_thiefGoes_105 hl (by decide) rfl (fun ls hl => ?_)
        obtain ⟨n, h⟩ := h
        exact N107 x3_ x4_ n 0 ml _ _ _ h hP hD hS (lv_sub hl [1, 2, 3, 4, 5, 0] rfl)
      · have h := h.2 c24
        refine lv_iconst (v := 0) hx hb dX12_thiefGoes_28 (by decide) ?_
        refine lv_istore (lv' := [(6, .int 0), (0, .ref (aM 0)), (1, .int p1), (2, .int p2), (3, .int x3_), (4, .int x4_), (5, .int x5_)]) hx hb dX12_thiefGoes_29 hl (by decide) rfl (fun ls hl => ?_)
        obtain ⟨n, h⟩ := h
        exact N31 x5_ n 0 ml _ _ _ h hP hD hS (lv_sub hl [1, 2, 3, 4, 5, 6, 0] rfl)
  unfold P_X12_thiefGoes at h
  refine lv_iconst (v := 2) hx hb dX12_thiefGoes_0 (by decide) ?_
  refine lv_aload_n hx hb dX12_thiefGoes_1 rfl (lv_at hl 0 rfl) ?_
  refine va_get (D := D) (ci := 12) (v := .ref (aM 13)) (C := RX12) (T := TX12) (N := 51) hx hb hw inW_X12 hown hK hP 0 rfl rfl 23 (by decide) (hw _ mw_6_66) (fun _ h9 => h9) rfl dX12_thiefGoes_2 ?_
  refine lv_iconst (v := 0) hx hb dX12_thiefGoes_5 (by decide) ?_
  refine cIald hx hb hK hP 13 0 rfl rfl 0 (by decide +kernel) (cIn (by decide +kernel)) dX12_thiefGoes_6 ?_
  refine lv_ishl hx hb dX12_thiefGoes_7 ?_
  refine lv_topi (fun x25 ex25 => ?_)
  have h := h x25 ex25
  refine lv_istore_n (lv' := [(3, .int x25), (0, .ref (aM 0)), (1, .int p1), (2, .int p2)]) hx hb dX12_thiefGoes_8 rfl hl (by decide) rfl (fun ls hl => ?_)
  refine lv_iconst (v := 1) hx hb dX12_thiefGoes_9 (by decide) ?_
  refine lv_aload_n hx hb dX12_thiefGoes_10 rfl (lv_at hl 1 rfl) ?_
  refine va_get (D := D) (ci := 12) (v := .ref (aM 15)) (C := RX12) (T := TX12) (N := 51) hx hb hw inW_X12 hown hK hP 0 rfl rfl 25 (by decide) (hw _ mw_6_68) (fun _ h9 => h9) rfl dX12_thiefGoes_11 ?_
  refine lv_iconst (v := 0) hx hb dX12_thiefGoes_14 (by decide) ?_
  refine cIald hx hb hK hP 15 0 rfl rfl 0 (by decide +kernel) (cIn (by decide +kernel)) dX12_thiefGoes_15 ?_
  refine lv_ishl hx hb dX12_thiefGoes_16 ?_
  refine lv_topi (fun x26 ex26 => ?_)
  have h := h x26 ex26
  refine lv_istore (lv' := [(4, .int x26), (3, .int x25), (0, .ref (aM 0)), (1, .int p1), (2, .int p2)]) hx hb dX12_thiefGoes_17 hl (by decide) rfl (fun ls hl => ?_)
  refine lv_iconst (v := 0) hx hb dX12_thiefGoes_19 (by decide) ?_
  refine lv_istore (lv' := [(5, .int 0), (4, .int x26), (3, .int x25), (0, .ref (aM 0)), (1, .int p1), (2, .int p2)]) hx hb dX12_thiefGoes_20 hl (by decide) rfl (fun ls hl => ?_)
  obtain ⟨n, h⟩ := h
  exact N22 x25 x26 n 0 ml _ _ _ h hP hD hS (lv_sub hl [3, 4, 5, 2, 1, 0] rfl)
abbrev vsX12_baits : List Cond := Cond.code yX12_baits cX12_baits 10 none :: WS
abbrev rmX12_baits : Room := { frames := 4, cells := 0, slots := 0, locals := 95 }
set_option maxHeartbeats 4000000 in
set_option maxRecDepth 100000 in
theorem k_X12_baits (l : Launch) (D : va_G) (C : Nat → ClassId) (sz : Nat) (aM : Nat → Nat)  (ms : Nat → Int32) (mw : Nat → Int64) (ma : Nat → Nat → Int32) (ml : Nat → Nat → Int64) (p1 : Int32) (p2 : Int32) (p3 : Int32) {post : (Nat → Int32) → (Nat → Int64) → (Nat → Nat → Int32) → (Nat → Nat → Int64) → Prop} (h : P_X12_baits ms mw ma ml p1 p2 p3 post) : Met l yX12_baits vsX12_baits rmX12_baits (cPre D C [.ref (aM 0), .int p1, .int p2, .int p3] sz (wM aM C ms mw ma ml)) (cQv D (fun (u : (Nat → Int32) × (Nat → Int64) × (Nat → Nat → Int32) × (Nat → Nat → Int64)) => post u.1 u.2.1 u.2.2.1 u.2.2.2) (fun u => wM aM C u.1 u.2.1 u.2.2.1 u.2.2.2) (va_A (List.flatten (wM aM C ms mw ma ml)) sz)) 0 0 (va_A (List.flatten (wM aM C ms mw ma ml)) sz) := by
  refine cStart (QA := fun A => cQv D (fun (u : (Nat → Int32) × (Nat → Int64) × (Nat → Nat → Int32) × (Nat → Nat → Int64)) => post u.1 u.2.1 u.2.2.1 u.2.2.2) (fun u => wM aM C u.1 u.2.1 u.2.2.1 u.2.2.2) A) (cc := cX12_baits) (maxL := 10) (ret := none) (by decide) (Nat.le_of_ble_eq_true rfl) ?_
  intro p e s m args below meth c A ls hx hb hr hml hown hw hlocks hname hK hN hA hP hD hS hl
  generalize hQ : MQ below _ args s 0 0 A = Q
  have hl : lv_has ls 10 [(0, .ref (aM 0)), (1, .int p1), (2, .int p2), (3, .int p3)] := hl
  obtain ⟨H, hH⟩ : ∃ H, H = s.heap := ⟨_, rfl⟩
  obtain ⟨locs, hlo⟩ : ∃ z : List Loc, z = [] := ⟨_, rfl⟩
  have hP : va_P D vwCl (List.flatten (wM aM C ms mw ma ml)) H := by rw [hH]; exact hP
  have hS : va_S A s.heap H locs := by rw [hH, hlo]; exact hS
  rw [show W p l e rmX12_baits s m args below meth c s.heap [] 0 0 Q (F0 m 0 ls []) = W p l e rmX12_baits s m args below meth c H locs 0 0 Q (F0 m 0 ls []) from by rw [hH, hlo]]
  have N68 : ∀ (x4_ : Int32) (x5_ : Int32) (ms : Nat → Int32) (ma : Nat → Nat → Int32) (n68 : Nat) (x6_ : Int32) (mw : Nat → Int64) (ml : Nat → Nat → Int64) (H : Heap) (locs : List Loc) (ls : Array Slot), P_X12_baits_68 p1 p2 p3 post  x4_ x5_ ms ma n68 x6_ mw ml → va_P D vwCl (List.flatten (wM aM C ms mw ma ml)) H → va_D A (List.flatten (wM aM C ms mw ma ml)) → va_S A s.heap H locs → lv_has ls 10 [(0, .ref (aM 0)), (3, .int p3), (4, .int x4_), (5, .int x5_), (6, .int x6_)] → W p l e rmX12_baits s m args below meth c H locs 0 0 Q (F0 m 68 ls []) := by
    intro x4_ x5_ ms ma
    intro n68
    induction n68 with
    | zero => intro x6_ mw ml H locs ls h hP hD hS hl; exact False.elim h
    | succ n68 ih68 =>
      have N193 : ∀ (x6_ : Int32) (n193 : Nat) (x7_ : Int32) (mw : Nat → Int64) (ml : Nat → Nat → Int64) (H : Heap) (locs : List Loc) (ls : Array Slot), P_X12_baits_193 p1 p2 p3 x4_ x5_ ms ma post (P_X12_baits_68 p1 p2 p3 post  x4_ x5_ ms ma n68) x6_ n193 x7_ mw ml → va_P D vwCl (List.flatten (wM aM C ms mw ma ml)) H → va_D A (List.flatten (wM aM C ms mw ma ml)) → va_S A s.heap H locs → lv_has ls 10 [(0, .ref (aM 0)), (3, .int p3), (4, .int x4_), (5, .int x5_), (6, .int x6_), (7, .int x7_)] → W p l e rmX12_baits s m args below meth c H locs 0 0 Q (F0 m 193 ls []) := by
        intro x6_
        intro n193
        induction n193 with
        | zero => intro x7_ mw ml H locs ls h hP hD hS hl; exact False.elim h
        | succ n193 ih193 =>
          have N257 : ∀ (x7_ : Int32) (x8_ : Int32) (n257 : Nat) (x9_ : Int32) (mw : Nat → Int64) (ml : Nat → Nat → Int64) (H : Heap) (locs : List Loc) (ls : Array Slot), P_X12_baits_257 p1 p2 p3 x4_ x5_ ms ma x6_ post (P_X12_baits_193 p1 p2 p3 x4_ x5_ ms ma post (P_X12_baits_68 p1 p2 p3 post  x4_ x5_ ms ma n68) x6_ n193) x7_ x8_ n257 x9_ mw ml → va_P D vwCl (List.flatten (wM aM C ms mw ma ml)) H → va_D A (List.flatten (wM aM C ms mw ma ml)) → va_S A s.heap H locs → lv_has ls 10 [(0, .ref (aM 0)), (3, .int p3), (4, .int x4_), (5, .int x5_), (6, .int x6_), (7, .int x7_), (8, .int x8_), (9, .int x9_)] → W p l e rmX12_baits s m args below meth c H locs 0 0 Q (F0 m 257 ls []) := by
            intro x7_ x8_
            intro n257
            induction n257 with
            | zero => intro x9_ mw ml H locs ls h hP hD hS hl; exact False.elim h
            | succ n257 ih257 =>
              intro x9_ mw ml H locs ls h hP hD hS hl
              refine lv_iload hx hb dX12_baits_257 (lv_at hl 7 rfl) ?_
              refine lv_iload hx hb dX12_baits_259 (lv_at hl 3 rfl) ?_
              refine lv_icmp_ge (tgt := 317) hx hb dX12_baits_261 (by decide) (fun c1 => ?_) (fun c1 => ?_)
              · have h := h.1 c1
                refine lv_iinc (v := (x7_ + 1)) (lv' := [(7, .int (x7_ + 1)), (0, .ref (aM 0)), (3, .int p3), (4, .int x4_), (5, .int x5_), (6, .int x6_), (8, .int x8_), (9, .int x9_)]) hx hb dX12_baits_317 hl (k := 5) rfl rfl (by decide) rfl (fun ls hl => ?_)
                refine lv_goto (tgt := 193) hx hb dX12_baits_320 (by decide) ?_
                exact ih193 (x7_ + 1) mw ml _ _ _ h hP hD hS (lv_sub hl [1, 2, 3, 4, 5, 0] rfl)
              · have h := h.2 c1
                refine lv_aload_n hx hb dX12_baits_264 rfl (lv_at hl 0 rfl) ?_
                refine va_get (D := D) (ci := 12) (v := .ref (aM 31)) (C := RX12) (T := TX12) (N := 51) hx hb hw inW_X12 hown hK hP 0 rfl rfl 46 (by decide) (hw _ mw_6_89) (fun _ h9 => h9) rfl dX12_baits_265 ?_
                refine lv_iload hx hb dX12_baits_268 (lv_at hl 7 rfl) ?_
                refine lv_dup2_11 hx hb dX12_baits_270 rfl rfl ?_
                refine cLald hx hb hK hP 31 1 rfl rfl x9_.toNatClampNeg rfl h.1 dX12_baits_271 ?_
                have h := h.2
                refine lv_aload_n hx hb dX12_baits_272 rfl (lv_at hl 0 rfl) ?_
                refine va_get (D := D) (ci := 12) (v := .ref (aM 29)) (C := RX12) (T := TX12) (N := 51) hx hb hw inW_X12 hown hK hP 0 rfl rfl 44 (by decide) (hw _ mw_6_87) (fun _ h9 => h9) rfl dX12_baits_273 ?_
                refine lv_iload hx hb dX12_baits_276 (lv_at hl 5 rfl) ?_
                refine lv_iload hx hb dX12_baits_278 (lv_at hl 7 rfl) ?_
                refine cGoI (wo := fun u => wM aM C ms mw ma ml) (cRunS (As := [.int x7_, .int x9_]) (rest := [.ref (aM 29), .long (ml 9 x9_.toNatClampNeg), .int x9_, .ref (aM 31)]) ⟨hx, hb, hml, hown, hw⟩ hK hN hP hD [] rfl rfl (k_X12_state l D C _    x7_ x9_ h) (va_cwS 2 hw (goodS mw_8_228 mw_8_229 mw_1_13 mw_8_230) rfl rfl rfl (by decide +kernel) ⟨Nat.le_of_ble_eq_true rfl, Nat.le_of_ble_eq_true rfl⟩) rfl hl.1 rfl (Nat.le_of_ble_eq_true rfl) dX12_baits_280 ⟨Nat.zero_le _, Nat.zero_le _⟩) hP hD hS hA [] [0, 1, 2, 3, 4, 5, 6, 7, 8, 9, 10, 11, 12, 13, 14, 15, 16, 17, 18, 19, 20, 21, 22, 23, 24, 25, 26, 27, 28, 29, 30, 31, 32] [0, 1, 2, 3, 4, 5, 6, 7, 8, 9, 10, 11, 12, 13, 14, 15, 16, 17, 18, 19, 20, 21, 22, 23, 24, 25, 26, 27, 28, 29, 30, 31, 32] rfl rfl rfl (by decide) rfl (fun _ => rfl) (fun r2 u H locs h hP hD hS => ?_)
                have hP : va_P D vwCl (List.flatten (wM aM C ms mw ma ml)) H := hP
                have hD : va_D A (List.flatten (wM aM C ms mw ma ml)) := hD
                refine cLald hx hb hK hP 29 1 rfl rfl r2.toNatClampNeg rfl h.1 dX12_baits_283 ?_
                have h := h.2
                refine lv_ladd hx hb dX12_baits_284 ?_
                refine cLast hx hb hK hP hD hS 31 1 rfl rfl x9_.toNatClampNeg rfl h.1 dX12_baits_285 (fun H locs hP hD hS => ?_)
                have h := h.2
                refine lv_aload_n hx hb dX12_baits_286 rfl (lv_at hl 0 rfl) ?_
                refine lv_dup hx hb dX12_baits_287 rfl ?_
                refine va_get (D := D) (ci := 12) (v := .long (mw 2)) (C := RX12) (T := TX12) (N := 51) hx hb hw inW_X12 hown hK hP 0 rfl rfl 47 (by decide) (hw _ mw_6_90) (fun _ h9 => h9) rfl dX12_baits_288 ?_
                refine lv_aload_n hx hb dX12_baits_291 rfl (lv_at hl 0 rfl) ?_
                refine va_get (D := D) (ci := 12) (v := .ref (aM 29)) (C := RX12) (T := TX12) (N := 51) hx hb hw inW_X12 hown hK hP 0 rfl rfl 44 (by decide) (hw _ mw_6_87) (fun _ h9 => h9) rfl dX12_baits_292 ?_
                refine lv_iload hx hb dX12_baits_295 (lv_at hl 5 rfl) ?_
                refine lv_iload hx hb dX12_baits_297 (lv_at hl 7 rfl) ?_
                have hP : va_P D vwCl (List.flatten (wM aM C ms mw ma (va_up ml 9 (vp_updL (ml 9) x9_.toNatClampNeg ((ml 9 x9_.toNatClampNeg) + (ml 7 r2.toNatClampNeg)))))) H := hP
                have hD : va_D A (List.flatten (wM aM C ms mw ma (va_up ml 9 (vp_updL (ml 9) x9_.toNatClampNeg ((ml 9 x9_.toNatClampNeg) + (ml 7 r2.toNatClampNeg)))))) := hD
                refine cGoI (wo := fun u => wM aM C ms mw ma (va_up ml 9 (vp_updL (ml 9) x9_.toNatClampNeg ((ml 9 x9_.toNatClampNeg) + (ml 7 r2.toNatClampNeg))))) (cRunS (As := [.int x7_, .int x9_]) (rest := [.ref (aM 29), .long (mw 2), .ref (aM 0)]) ⟨hx, hb, hml, hown, hw⟩ hK hN hP hD [] rfl rfl (k_X12_state l D C _    x7_ x9_ h) (va_cwS 2 hw (goodS mw_8_228 mw_8_229 mw_1_13 mw_8_230) rfl rfl rfl (by decide +kernel) ⟨Nat.le_of_ble_eq_true rfl, Nat.le_of_ble_eq_true rfl⟩) rfl hl.1 rfl (Nat.le_of_ble_eq_true rfl) dX12_baits_299 ⟨Nat.zero_le _, Nat.zero_le _⟩) hP hD hS hA [] [0, 1, 2, 3, 4, 5, 6, 7, 8, 9, 10, 11, 12, 13, 14, 15, 16, 17, 18, 19, 20, 21, 22, 23, 24, 25, 26, 27, 28, 29, 30, 31, 32] [0, 1, 2, 3, 4, 5, 6, 7, 8, 9, 10, 11, 12, 13, 14, 15, 16, 17, 18, 19, 20, 21, 22, 23, 24, 25, 26, 27, 28, 29, 30, 31, 32] rfl rfl rfl (by decide) rfl (fun _ => rfl) (fun r3 u H locs h hP hD hS => ?_)
                have hP : va_P D vwCl (List.flatten (wM aM C ms mw ma (va_up ml 9 (vp_updL (ml 9) x9_.toNatClampNeg ((ml 9 x9_.toNatClampNeg) + (ml 7 r2.toNatClampNeg)))))) H := hP
                have hD : va_D A (List.flatten (wM aM C ms mw ma (va_up ml 9 (vp_updL (ml 9) x9_.toNatClampNeg ((ml 9 x9_.toNatClampNeg) + (ml 7 r2.toNatClampNeg)))))) := hD
                refine cLald hx hb hK hP 29 1 rfl rfl r3.toNatClampNeg rfl h.1 dX12_baits_302 ?_
                have h := h.2
                refine lv_iload hx hb dX12_baits_303 (lv_at hl 6 rfl) ?_
                refine lv_i2l hx hb dX12_baits_305 rfl ?_
                refine lv_lmul hx hb dX12_baits_306 ?_
                refine lv_ladd hx hb dX12_baits_307 ?_
                refine lv_topl (fun x4 ex4 => ?_)
                have h := h x4 ex4
                refine va_put (D := D) (ci := 12) (v := .long x4) (ty := .long) (C := RX12) (T := TX12) (N := 51) hx hb hw inW_X12 tyX12 tyX12_ok nmX12 hown hK hP hD hS 0 rfl rfl 47 (by decide) (hw _ mw_6_90) (fun _ h9 => h9) rfl (by decide +kernel) rfl rfl (Nat.le_of_ble_eq_true rfl) dX12_baits_308 (fun H locs hP hD hS => ?_)
                refine lv_iinc (v := (x9_ + 1)) (lv' := [(9, .int (x9_ + 1)), (0, .ref (aM 0)), (3, .int p3), (4, .int x4_), (5, .int x5_), (6, .int x6_), (7, .int x7_), (8, .int x8_)]) hx hb dX12_baits_311 hl (k := 7) rfl rfl (by decide) rfl (fun ls hl => ?_)
                refine lv_goto (tgt := 257) hx hb dX12_baits_314 (by decide) ?_
                have hP : va_P D vwCl (List.flatten (wM aM C ms (va_up mw 2 x4) ma (va_up ml 9 (vp_updL (ml 9) x9_.toNatClampNeg ((ml 9 x9_.toNatClampNeg) + (ml 7 r2.toNatClampNeg)))))) H := hP
                have hD : va_D A (List.flatten (wM aM C ms (va_up mw 2 x4) ma (va_up ml 9 (vp_updL (ml 9) x9_.toNatClampNeg ((ml 9 x9_.toNatClampNeg) + (ml 7 r2.toNatClampNeg)))))) := hD
                exact ih257 (x9_ + 1) (va_up mw 2 x4) (va_up ml 9 (vp_updL (ml 9) x9_.toNatClampNeg ((ml 9 x9_.toNatClampNeg) + (ml 7 r2.toNatClampNeg)))) _ _ _ h hP hD hS (lv_sub hl [1, 2, 3, 4, 5, 6, 7, 0] rfl)
          have N206 : ∀ (x7_ : Int32) (mw : Nat → Int64) (ml : Nat → Nat → Int64) (n206 : Nat) (x8_ : Int32) (x9_ : Int32) (H : Heap) (locs : List Loc) (ls : Array Slot), P_X12_baits_206 p1 p2 p3 x4_ x5_ ms ma x6_ post (fun (x7_ : Int32) (x8_ : Int32) (x9_ : Int32) (mw : Nat → Int64) (ml : Nat → Nat → Int64) => ∃ n : Nat, P_X12_baits_257 p1 p2 p3 x4_ x5_ ms ma x6_ post (P_X12_baits_193 p1 p2 p3 x4_ x5_ ms ma post (P_X12_baits_68 p1 p2 p3 post  x4_ x5_ ms ma n68) x6_ n193) x7_ x8_ n x9_ mw ml) x7_ mw ml n206 x8_ x9_ → va_P D vwCl (List.flatten (wM aM C ms mw ma ml)) H → va_D A (List.flatten (wM aM C ms mw ma ml)) → va_S A s.heap H locs → lv_has ls 10 [(0, .ref (aM 0)), (3, .int p3), (4, .int x4_), (5, .int x5_), (6, .int x6_), (7, .int x7_), (8, .int x8_), (9, .int x9_)] → W p l e rmX12_baits s m args below meth c H locs 0 0 Q (F0 m 206 ls []) := by
            intro x7_ mw ml
            intro n206
            induction n206 with
            | zero => intro x8_ x9_ H locs ls h hP hD hS hl; exact False.elim h
            | succ n206 ih206 =>
              intro x8_ x9_ H locs ls h hP hD hS hl
              refine lv_iload hx hb dX12_baits_206 (lv_at hl 7 rfl) ?_
              refine lv_aload_n hx hb dX12_baits_208 rfl (lv_at hl 0 rfl) ?_
              refine va_get (D := D) (ci := 12) (v := .ref (aM 13)) (C := RX12) (T := TX12) (N := 51) hx hb hw inW_X12 hown hK hP 0 rfl rfl 23 (by decide) (hw _ mw_6_66) (fun _ h9 => h9) rfl dX12_baits_209 ?_
              refine lv_iconst (v := 0) hx hb dX12_baits_212 (by decide) ?_
              refine cIald hx hb hK hP 13 0 rfl rfl 0 (by decide +kernel) (cIn (by decide +kernel)) dX12_baits_213 ?_
              refine lv_icmp_ge (tgt := 254) hx hb dX12_baits_214 (by decide) (fun c5 => ?_) (fun c5 => ?_)
              · have h := h.1 c5
                refine lv_iconst (v := 0) hx hb dX12_baits_254 (by decide) ?_
                refine lv_istore (lv' := [(9, .int 0), (0, .ref (aM 0)), (3, .int p3), (4, .int x4_), (5, .int x5_), (6, .int x6_), (7, .int x7_), (8, .int x8_)]) hx hb dX12_baits_255 hl (by decide) rfl (fun ls hl => ?_)
                obtain ⟨n, h⟩ := h
                exact N257 x7_ x8_ n 0 mw ml _ _ _ h hP hD hS (lv_sub hl [1, 2, 3, 4, 5, 6, 7, 0] rfl)
              · have h := h.2 c5
                refine lv_iload hx hb dX12_baits_217 (lv_at hl 6 rfl) ?_
                refine lv_iload hx hb dX12_baits_219 (lv_at hl 5 rfl) ?_
                refine lv_iload hx hb dX12_baits_221 (lv_at hl 7 rfl) ?_
                refine lv_ishr hx hb dX12_baits_223 ?_
                refine lv_iconst (v := 1) hx hb dX12_baits_224 (by decide) ?_
                refine lv_iand hx hb dX12_baits_225 ?_
                refine lv_iconst (v := 1) hx hb dX12_baits_226 (by decide) ?_
                refine lv_icmp_ne (tgt := 244) hx hb dX12_baits_227 (by decide) (fun c6 => ?_) (fun c6 => ?_)
                · have h := h.1 c6
                  refine lv_iconst (v := 0) hx hb dX12_baits_244 (by decide) ?_
                  refine lv_iadd hx hb dX12_baits_245 ?_
                  refine lv_topi (fun x7 ex7 => ?_)
                  have h := h x7 ex7
                  refine lv_istore (lv' := [(8, .int x7), (0, .ref (aM 0)), (3, .int p3), (4, .int x4_), (5, .int x5_), (6, .int x6_), (7, .int x7_), (9, .int x9_)]) hx hb dX12_baits_246 hl (by decide) rfl (fun ls hl => ?_)
                  refine lv_iinc (v := (x9_ + 1)) (lv' := [(9, .int (x9_ + 1)), (8, .int x7), (0, .ref (aM 0)), (3, .int p3), (4, .int x4_), (5, .int x5_), (6, .int x6_), (7, .int x7_)]) hx hb dX12_baits_248 hl (k := 7) rfl rfl (by decide) rfl (fun ls hl => ?_)
                  refine lv_goto (tgt := 206) hx hb dX12_baits_251 (by decide) ?_
                  exact ih206 x7 (x9_ + 1) _ _ _ h hP hD hS (lv_sub hl [2, 3, 4, 5, 6, 7, 1, 0] rfl)
                · have h := h.2 c6
                  refine lv_aload_n hx hb dX12_baits_230 rfl (lv_at hl 0 rfl) ?_
                  refine va_get (D := D) (ci := 12) (v := .ref (aM 14)) (C := RX12) (T := TX12) (N := 51) hx hb hw inW_X12 hown hK hP 0 rfl rfl 24 (by decide) (hw _ mw_6_67) (fun _ h9 => h9) rfl dX12_baits_231 ?_
                  refine lv_iconst (v := 0) hx hb dX12_baits_234 (by decide) ?_
                  refine lv_iload hx hb dX12_baits_235 (lv_at hl 7 rfl) ?_
                  refine cGoI (wo := fun u => wM aM C ms mw ma ml) (cRunS (As := [.int 0, .int x9_]) (rest := [.ref (aM 14), .int x8_]) ⟨hx, hb, hml, hown, hw⟩ hK hN hP hD [] rfl rfl (k_X12_at l D C _    0 x9_ h) (va_cwS 2 hw (goodS mw_7_148 mw_7_149 mw_1_13 mw_7_150) rfl rfl rfl (by decide +kernel) ⟨Nat.le_of_ble_eq_true rfl, Nat.le_of_ble_eq_true rfl⟩) rfl hl.1 rfl (Nat.le_of_ble_eq_true rfl) dX12_baits_237 ⟨Nat.zero_le _, Nat.zero_le _⟩) hP hD hS hA [] [0, 1, 2, 3, 4, 5, 6, 7, 8, 9, 10, 11, 12, 13, 14, 15, 16, 17, 18, 19, 20, 21, 22, 23, 24, 25, 26, 27, 28, 29, 30, 31, 32] [0, 1, 2, 3, 4, 5, 6, 7, 8, 9, 10, 11, 12, 13, 14, 15, 16, 17, 18, 19, 20, 21, 22, 23, 24, 25, 26, 27, 28, 29, 30, 31, 32] rfl rfl rfl (by decide) rfl (fun _ => rfl) (fun r8 u H locs h hP hD hS => ?_)
                  have hP : va_P D vwCl (List.flatten (wM aM C ms mw ma ml)) H := hP
                  have hD : va_D A (List.flatten (wM aM C ms mw ma ml)) := hD
                  refine cIald hx hb hK hP 14 0 rfl rfl r8.toNatClampNeg rfl h.1 dX12_baits_240 ?_
                  have h := h.2
                  refine lv_goto (tgt := 245) hx hb dX12_baits_241 (by decide) ?_
                  refine lv_iadd hx hb dX12_baits_245 ?_
                  refine lv_topi (fun x9 ex9 => ?_)
                  have h := h x9 ex9
                  refine lv_istore (lv' := [(8, .int x9), (0, .ref (aM 0)), (3, .int p3), (4, .int x4_), (5, .int x5_), (6, .int x6_), (7, .int x7_), (9, .int x9_)]) hx hb dX12_baits_246 hl (by decide) rfl (fun ls hl => ?_)
                  refine lv_iinc (v := (x9_ + 1)) (lv' := [(9, .int (x9_ + 1)), (8, .int x9), (0, .ref (aM 0)), (3, .int p3), (4, .int x4_), (5, .int x5_), (6, .int x6_), (7, .int x7_)]) hx hb dX12_baits_248 hl (k := 7) rfl rfl (by decide) rfl (fun ls hl => ?_)
                  refine lv_goto (tgt := 206) hx hb dX12_baits_251 (by decide) ?_
                  exact ih206 x9 (x9_ + 1) _ _ _ h hP hD hS (lv_sub hl [2, 3, 4, 5, 6, 7, 1, 0] rfl)
          intro x7_ mw ml H locs ls h hP hD hS hl
          refine lv_iload hx hb dX12_baits_193 (lv_at hl 5 rfl) ?_
          refine lv_iload hx hb dX12_baits_195 (lv_at hl 2 rfl) ?_
          refine lv_icmp_ge (tgt := 323) hx hb dX12_baits_197 (by decide) (fun c13 => ?_) (fun c13 => ?_)
          · have h := h.1 c13
            refine lv_iinc (v := (x6_ + 1)) (lv' := [(6, .int (x6_ + 1)), (0, .ref (aM 0)), (3, .int p3), (4, .int x4_), (5, .int x5_), (7, .int x7_)]) hx hb dX12_baits_323 hl (k := 4) rfl rfl (by decide) rfl (fun ls hl => ?_)
            refine lv_goto (tgt := 68) hx hb dX12_baits_326 (by decide) ?_
            exact ih68 (x6_ + 1) mw ml _ _ _ h hP hD hS (lv_sub hl [1, 2, 3, 4, 0] rfl)
          · have h := h.2 c13
            refine lv_iconst (v := 0) hx hb dX12_baits_200 (by decide) ?_
            refine lv_istore (lv' := [(8, .int 0), (0, .ref (aM 0)), (3, .int p3), (4, .int x4_), (5, .int x5_), (6, .int x6_), (7, .int x7_)]) hx hb dX12_baits_201 hl (by decide) rfl (fun ls hl => ?_)
            refine lv_iconst (v := 0) hx hb dX12_baits_203 (by decide) ?_
            refine lv_istore (lv' := [(9, .int 0), (8, .int 0), (0, .ref (aM 0)), (3, .int p3), (4, .int x4_), (5, .int x5_), (6, .int x6_), (7, .int x7_)]) hx hb dX12_baits_204 hl (by decide) rfl (fun ls hl => ?_)
            obtain ⟨n, h⟩ := h
            exact N206 x7_ mw ml n 0 0 _ _ _ h hP hD hS (lv_sub hl [2, 3, 4, 5, 6, 7, 1, 0] rfl)
      have N169 : ∀ (x6_ : Int32) (mw : Nat → Int64) (n169 : Nat) (x7_ : Int32) (ml : Nat → Nat → Int64) (H : Heap) (locs : List Loc) (ls : Array Slot), P_X12_baits_169 p1 p2 p3 x4_ x5_ ms ma post (fun (x6_ : Int32) (x7_ : Int32) (mw : Nat → Int64) (ml : Nat → Nat → Int64) => ∃ n : Nat, P_X12_baits_193 p1 p2 p3 x4_ x5_ ms ma post (P_X12_baits_68 p1 p2 p3 post  x4_ x5_ ms ma n68) x6_ n x7_ mw ml) x6_ mw n169 x7_ ml → va_P D vwCl (List.flatten (wM aM C ms mw ma ml)) H → va_D A (List.flatten (wM aM C ms mw ma ml)) → va_S A s.heap H locs → lv_has ls 10 [(0, .ref (aM 0)), (3, .int p3), (4, .int x4_), (5, .int x5_), (6, .int x6_), (7, .int x7_)] → W p l e rmX12_baits s m args below meth c H locs 0 0 Q (F0 m 169 ls []) := by
        intro x6_ mw
        intro n169
        induction n169 with
        | zero => intro x7_ ml H locs ls h hP hD hS hl; exact False.elim h
        | succ n169 ih169 =>
          intro x7_ ml H locs ls h hP hD hS hl
          refine lv_iload hx hb dX12_baits_169 (lv_at hl 5 rfl) ?_
          refine lv_iload hx hb dX12_baits_171 (lv_at hl 3 rfl) ?_
          refine lv_icmp_ge (tgt := 190) hx hb dX12_baits_173 (by decide) (fun c14 => ?_) (fun c14 => ?_)
          · have h := h.1 c14
            refine lv_iconst (v := 0) hx hb dX12_baits_190 (by decide) ?_
            refine lv_istore (lv' := [(7, .int 0), (0, .ref (aM 0)), (3, .int p3), (4, .int x4_), (5, .int x5_), (6, .int x6_)]) hx hb dX12_baits_191 hl (by decide) rfl (fun ls hl => ?_)
            obtain ⟨n, h⟩ := h
            exact N193 x6_ n 0 mw ml _ _ _ h hP hD hS (lv_sub hl [1, 2, 3, 4, 5, 0] rfl)
          · have h := h.2 c14
            refine lv_aload_n hx hb dX12_baits_176 rfl (lv_at hl 0 rfl) ?_
            refine va_get (D := D) (ci := 12) (v := .ref (aM 31)) (C := RX12) (T := TX12) (N := 51) hx hb hw inW_X12 hown hK hP 0 rfl rfl 46 (by decide) (hw _ mw_6_89) (fun _ h9 => h9) rfl dX12_baits_177 ?_
            refine lv_iload hx hb dX12_baits_180 (lv_at hl 5 rfl) ?_
            refine lv_lconst (v := 0) hx hb dX12_baits_182 (by decide) ?_
            refine cLast hx hb hK hP hD hS 31 1 rfl rfl x7_.toNatClampNeg rfl h.1 dX12_baits_183 (fun H locs hP hD hS => ?_)
            have h := h.2
            refine lv_iinc (v := (x7_ + 1)) (lv' := [(7, .int (x7_ + 1)), (0, .ref (aM 0)), (3, .int p3), (4, .int x4_), (5, .int x5_), (6, .int x6_)]) hx hb dX12_baits_184 hl (k := 5) rfl rfl (by decide) rfl (fun ls hl => ?_)
            refine lv_goto (tgt := 169) hx hb dX12_baits_187 (by decide) ?_
            have hP : va_P D vwCl (List.flatten (wM aM C ms mw ma (va_up ml 9 (vp_updL (ml 9) x7_.toNatClampNeg 0)))) H := hP
            have hD : va_D A (List.flatten (wM aM C ms mw ma (va_up ml 9 (vp_updL (ml 9) x7_.toNatClampNeg 0)))) := hD
            exact ih169 (x7_ + 1) (va_up ml 9 (vp_updL (ml 9) x7_.toNatClampNeg 0)) _ _ _ h hP hD hS (lv_sub hl [1, 2, 3, 4, 5, 0] rfl)
      have N142 : ∀ (x6_ : Int32) (mw : Nat → Int64) (n142 : Nat) (x7_ : Int32) (ml : Nat → Nat → Int64) (H : Heap) (locs : List Loc) (ls : Array Slot), P_X12_baits_142 p1 p2 p3 x4_ x5_ ms ma post (fun (x6_ : Int32) (mw : Nat → Int64) (x7_ : Int32) (ml : Nat → Nat → Int64) => ∃ n : Nat, P_X12_baits_169 p1 p2 p3 x4_ x5_ ms ma post (fun (x6_ : Int32) (x7_ : Int32) (mw : Nat → Int64) (ml : Nat → Nat → Int64) => ∃ n : Nat, P_X12_baits_193 p1 p2 p3 x4_ x5_ ms ma post (P_X12_baits_68 p1 p2 p3 post  x4_ x5_ ms ma n68) x6_ n x7_ mw ml) x6_ mw n x7_ ml) x6_ mw n142 x7_ ml → va_P D vwCl (List.flatten (wM aM C ms mw ma ml)) H → va_D A (List.flatten (wM aM C ms mw ma ml)) → va_S A s.heap H locs → lv_has ls 10 [(0, .ref (aM 0)), (3, .int p3), (4, .int x4_), (5, .int x5_), (6, .int x6_), (7, .int x7_)] → W p l e rmX12_baits s m args below meth c H locs 0 0 Q (F0 m 142 ls []) := by
        intro x6_ mw
        intro n142
        induction n142 with
        | zero => intro x7_ ml H locs ls h hP hD hS hl; exact False.elim h
        | succ n142 ih142 =>
          intro x7_ ml H locs ls h hP hD hS hl
          refine lv_iload hx hb dX12_baits_142 (lv_at hl 5 rfl) ?_
          refine lv_aload_n hx hb dX12_baits_144 rfl (lv_at hl 0 rfl) ?_
          refine va_get (D := D) (ci := 12) (v := .ref (aM 15)) (C := RX12) (T := TX12) (N := 51) hx hb hw inW_X12 hown hK hP 0 rfl rfl 25 (by decide) (hw _ mw_6_68) (fun _ h9 => h9) rfl dX12_baits_145 ?_
          refine lv_iconst (v := 0) hx hb dX12_baits_148 (by decide) ?_
          refine cIald hx hb hK hP 15 0 rfl rfl 0 (by decide +kernel) (cIn (by decide +kernel)) dX12_baits_149 ?_
          refine lv_icmp_ge (tgt := 166) hx hb dX12_baits_150 (by decide) (fun c15 => ?_) (fun c15 => ?_)
          · have h := h.1 c15
            refine lv_iconst (v := 0) hx hb dX12_baits_166 (by decide) ?_
            refine lv_istore (lv' := [(7, .int 0), (0, .ref (aM 0)), (3, .int p3), (4, .int x4_), (5, .int x5_), (6, .int x6_)]) hx hb dX12_baits_167 hl (by decide) rfl (fun ls hl => ?_)
            obtain ⟨n, h⟩ := h
            exact N169 x6_ mw n 0 ml _ _ _ h hP hD hS (lv_sub hl [1, 2, 3, 4, 5, 0] rfl)
          · have h := h.2 c15
            refine lv_aload_n hx hb dX12_baits_153 rfl (lv_at hl 0 rfl) ?_
            refine lv_iload hx hb dX12_baits_154 (lv_at hl 5 rfl) ?_
            refine lv_iload_n hx hb dX12_baits_156 rfl (lv_at hl 1 rfl) ?_
            refine cGoV (wo := fun u => wM aM C ms mw ma u) (cRunV (As := [.int x7_, .int p3]) (rest := []) ⟨hx, hb, hml, hown, hw⟩ hK hN hP hD [0, 1, 2, 3, 4, 5, 6, 7, 8, 9, 10, 11, 12, 13, 14, 15, 16, 17, 18, 19, 20, 21, 22, 23, 24, 25, 26, 27, 28, 29, 30, 31, 32] rfl rfl (k_X12_thiefGoes l D C _ aM  ms mw ma ml x7_ p3 h) (cwV 2 hw (goodV mw_8_231 mw_8_233 mw_s174 mw_1_13 mw_8_234) rfl rfl rfl (by decide +kernel) ⟨Nat.le_of_ble_eq_true rfl, Nat.le_of_ble_eq_true rfl⟩) rfl rfl rfl hl.1 rfl (Nat.le_of_ble_eq_true rfl) dX12_baits_157 ⟨Nat.zero_le _, Nat.zero_le _⟩) hP hD hS hA [0, 1, 2, 3, 4, 5, 6, 7, 8, 9, 10, 11, 12, 13, 14, 15, 16, 17, 18, 19, 20, 21, 22, 23, 24, 25, 26, 27, 28, 29, 30, 31, 32] [] [0, 1, 2, 3, 4, 5, 6, 7, 8, 9, 10, 11, 12, 13, 14, 15, 16, 17, 18, 19, 20, 21, 22, 23, 24, 25, 26, 27, 28, 29, 30, 31, 32] rfl rfl rfl (by decide) rfl (fun _ => rfl) (fun ml_16 H locs h hP hD hS => ?_)
            have hP : va_P D vwCl (List.flatten (wM aM C ms mw ma ml_16)) H := hP
            have hD : va_D A (List.flatten (wM aM C ms mw ma ml_16)) := hD
            refine lv_iinc (v := (x7_ + 1)) (lv' := [(7, .int (x7_ + 1)), (0, .ref (aM 0)), (3, .int p3), (4, .int x4_), (5, .int x5_), (6, .int x6_)]) hx hb dX12_baits_160 hl (k := 5) rfl rfl (by decide) rfl (fun ls hl => ?_)
            refine lv_goto (tgt := 142) hx hb dX12_baits_163 (by decide) ?_
            exact ih142 (x7_ + 1) ml_16 _ _ _ h hP hD hS (lv_sub hl [1, 2, 3, 4, 5, 0] rfl)
      have N82 : ∀ (x6_ : Int32) (mw : Nat → Int64) (n82 : Nat) (x7_ : Int32) (ml : Nat → Nat → Int64) (H : Heap) (locs : List Loc) (ls : Array Slot), P_X12_baits_82 p1 p2 p3 x4_ x5_ ms ma post (fun (x6_ : Int32) (mw : Nat → Int64) (x7_ : Int32) (ml : Nat → Nat → Int64) => ∃ n : Nat, P_X12_baits_142 p1 p2 p3 x4_ x5_ ms ma post (fun (x6_ : Int32) (mw : Nat → Int64) (x7_ : Int32) (ml : Nat → Nat → Int64) => ∃ n : Nat, P_X12_baits_169 p1 p2 p3 x4_ x5_ ms ma post (fun (x6_ : Int32) (x7_ : Int32) (mw : Nat → Int64) (ml : Nat → Nat → Int64) => ∃ n : Nat, P_X12_baits_193 p1 p2 p3 x4_ x5_ ms ma post (P_X12_baits_68 p1 p2 p3 post  x4_ x5_ ms ma n68) x6_ n x7_ mw ml) x6_ mw n x7_ ml) x6_ mw n x7_ ml) x6_ mw n82 x7_ ml → va_P D vwCl (List.flatten (wM aM C ms mw ma ml)) H → va_D A (List.flatten (wM aM C ms mw ma ml)) → va_S A s.heap H locs → lv_has ls 10 [(0, .ref (aM 0)), (3, .int p3), (4, .int x4_), (5, .int x5_), (6, .int x6_), (7, .int x7_)] → W p l e rmX12_baits s m args below meth c H locs 0 0 Q (F0 m 82 ls []) := by
        intro x6_ mw
        intro n82
        induction n82 with
        | zero => intro x7_ ml H locs ls h hP hD hS hl; exact False.elim h
        | succ n82 ih82 =>
          have N92 : ∀ (x7_ : Int32) (n92 : Nat) (x8_ : Int32) (ml : Nat → Nat → Int64) (H : Heap) (locs : List Loc) (ls : Array Slot), P_X12_baits_92 p1 p2 p3 x4_ x5_ ms ma x6_ mw post (P_X12_baits_82 p1 p2 p3 x4_ x5_ ms ma post (fun (x6_ : Int32) (mw : Nat → Int64) (x7_ : Int32) (ml : Nat → Nat → Int64) => ∃ n : Nat, P_X12_baits_142 p1 p2 p3 x4_ x5_ ms ma post (fun (x6_ : Int32) (mw : Nat → Int64) (x7_ : Int32) (ml : Nat → Nat → Int64) => ∃ n : Nat, P_X12_baits_169 p1 p2 p3 x4_ x5_ ms ma post (fun (x6_ : Int32) (x7_ : Int32) (mw : Nat → Int64) (ml : Nat → Nat → Int64) => ∃ n : Nat, P_X12_baits_193 p1 p2 p3 x4_ x5_ ms ma post (P_X12_baits_68 p1 p2 p3 post  x4_ x5_ ms ma n68) x6_ n x7_ mw ml) x6_ mw n x7_ ml) x6_ mw n x7_ ml) x6_ mw n82) x7_ n92 x8_ ml → va_P D vwCl (List.flatten (wM aM C ms mw ma ml)) H → va_D A (List.flatten (wM aM C ms mw ma ml)) → va_S A s.heap H locs → lv_has ls 10 [(0, .ref (aM 0)), (3, .int p3), (4, .int x4_), (5, .int x5_), (6, .int x6_), (7, .int x7_), (8, .int x8_)] → W p l e rmX12_baits s m args below meth c H locs 0 0 Q (F0 m 92 ls []) := by
            intro x7_
            intro n92
            induction n92 with
            | zero => intro x8_ ml H locs ls h hP hD hS hl; exact False.elim h
            | succ n92 ih92 =>
              intro x8_ ml H locs ls h hP hD hS hl
              refine lv_iload hx hb dX12_baits_92 (lv_at hl 6 rfl) ?_
              refine lv_iload hx hb dX12_baits_94 (lv_at hl 3 rfl) ?_
              refine lv_icmp_ge (tgt := 133) hx hb dX12_baits_96 (by decide) (fun c10 => ?_) (fun c10 => ?_)
              · have h := h.1 c10
                refine lv_iinc (v := (x7_ + 1)) (lv' := [(7, .int (x7_ + 1)), (0, .ref (aM 0)), (3, .int p3), (4, .int x4_), (5, .int x5_), (6, .int x6_), (8, .int x8_)]) hx hb dX12_baits_133 hl (k := 5) rfl rfl (by decide) rfl (fun ls hl => ?_)
                refine lv_goto (tgt := 82) hx hb dX12_baits_136 (by decide) ?_
                exact ih82 (x7_ + 1) ml _ _ _ h hP hD hS (lv_sub hl [1, 2, 3, 4, 5, 0] rfl)
              · have h := h.2 c10
                refine lv_aload_n hx hb dX12_baits_99 rfl (lv_at hl 0 rfl) ?_
                refine va_get (D := D) (ci := 12) (v := .ref (aM 29)) (C := RX12) (T := TX12) (N := 51) hx hb hw inW_X12 hown hK hP 0 rfl rfl 44 (by decide) (hw _ mw_6_87) (fun _ h9 => h9) rfl dX12_baits_100 ?_
                refine lv_iload hx hb dX12_baits_103 (lv_at hl 5 rfl) ?_
                refine lv_iload hx hb dX12_baits_105 (lv_at hl 6 rfl) ?_
                refine cGoI (wo := fun u => wM aM C ms mw ma ml) (cRunS (As := [.int x7_, .int x8_]) (rest := [.ref (aM 29)]) ⟨hx, hb, hml, hown, hw⟩ hK hN hP hD [] rfl rfl (k_X12_state l D C _    x7_ x8_ h) (va_cwS 2 hw (goodS mw_8_228 mw_8_229 mw_1_13 mw_8_230) rfl rfl rfl (by decide +kernel) ⟨Nat.le_of_ble_eq_true rfl, Nat.le_of_ble_eq_true rfl⟩) rfl hl.1 rfl (Nat.le_of_ble_eq_true rfl) dX12_baits_107 ⟨Nat.zero_le _, Nat.zero_le _⟩) hP hD hS hA [] [0, 1, 2, 3, 4, 5, 6, 7, 8, 9, 10, 11, 12, 13, 14, 15, 16, 17, 18, 19, 20, 21, 22, 23, 24, 25, 26, 27, 28, 29, 30, 31, 32] [0, 1, 2, 3, 4, 5, 6, 7, 8, 9, 10, 11, 12, 13, 14, 15, 16, 17, 18, 19, 20, 21, 22, 23, 24, 25, 26, 27, 28, 29, 30, 31, 32] rfl rfl rfl (by decide) rfl (fun _ => rfl) (fun r11 u H locs h hP hD hS => ?_)
                have hP : va_P D vwCl (List.flatten (wM aM C ms mw ma ml)) H := hP
                have hD : va_D A (List.flatten (wM aM C ms mw ma ml)) := hD
                refine lv_iload hx hb dX12_baits_110 (lv_at hl 5 rfl) ?_
                refine lv_if_ne (tgt := 125) hx hb dX12_baits_112 (by decide) (fun c12 => ?_) (fun c12 => ?_)
                · have h := h.1 c12
                  refine lv_lconst (v := 0) hx hb dX12_baits_125 (by decide) ?_
                  refine cLast hx hb hK hP hD hS 29 1 rfl rfl r11.toNatClampNeg rfl h.1 dX12_baits_126 (fun H locs hP hD hS => ?_)
                  have h := h.2
                  refine lv_iinc (v := (x8_ + 1)) (lv' := [(8, .int (x8_ + 1)), (0, .ref (aM 0)), (3, .int p3), (4, .int x4_), (5, .int x5_), (6, .int x6_), (7, .int x7_)]) hx hb dX12_baits_127 hl (k := 6) rfl rfl (by decide) rfl (fun ls hl => ?_)
                  refine lv_goto (tgt := 92) hx hb dX12_baits_130 (by decide) ?_
                  have hP : va_P D vwCl (List.flatten (wM aM C ms mw ma (va_up ml 7 (vp_updL (ml 7) r11.toNatClampNeg 0)))) H := hP
                  have hD : va_D A (List.flatten (wM aM C ms mw ma (va_up ml 7 (vp_updL (ml 7) r11.toNatClampNeg 0)))) := hD
                  exact ih92 (x8_ + 1) (va_up ml 7 (vp_updL (ml 7) r11.toNatClampNeg 0)) _ _ _ h hP hD hS (lv_sub hl [1, 2, 3, 4, 5, 6, 0] rfl)
                · have h := h.2 c12
                  refine lv_aload_n hx hb dX12_baits_115 rfl (lv_at hl 0 rfl) ?_
                  refine va_get (D := D) (ci := 12) (v := .ref (aM 31)) (C := RX12) (T := TX12) (N := 51) hx hb hw inW_X12 hown hK hP 0 rfl rfl 46 (by decide) (hw _ mw_6_89) (fun _ h9 => h9) rfl dX12_baits_116 ?_
                  refine lv_iload hx hb dX12_baits_119 (lv_at hl 6 rfl) ?_
                  refine cLald hx hb hK hP 31 1 rfl rfl x8_.toNatClampNeg rfl h.1 dX12_baits_121 ?_
                  have h := h.2
                  refine lv_goto (tgt := 126) hx hb dX12_baits_122 (by decide) ?_
                  refine cLast hx hb hK hP hD hS 29 1 rfl rfl r11.toNatClampNeg rfl h.1 dX12_baits_126 (fun H locs hP hD hS => ?_)
                  have h := h.2
                  refine lv_iinc (v := (x8_ + 1)) (lv' := [(8, .int (x8_ + 1)), (0, .ref (aM 0)), (3, .int p3), (4, .int x4_), (5, .int x5_), (6, .int x6_), (7, .int x7_)]) hx hb dX12_baits_127 hl (k := 6) rfl rfl (by decide) rfl (fun ls hl => ?_)
                  refine lv_goto (tgt := 92) hx hb dX12_baits_130 (by decide) ?_
                  have hP : va_P D vwCl (List.flatten (wM aM C ms mw ma (va_up ml 7 (vp_updL (ml 7) r11.toNatClampNeg (ml 9 x8_.toNatClampNeg))))) H := hP
                  have hD : va_D A (List.flatten (wM aM C ms mw ma (va_up ml 7 (vp_updL (ml 7) r11.toNatClampNeg (ml 9 x8_.toNatClampNeg))))) := hD
                  exact ih92 (x8_ + 1) (va_up ml 7 (vp_updL (ml 7) r11.toNatClampNeg (ml 9 x8_.toNatClampNeg))) _ _ _ h hP hD hS (lv_sub hl [1, 2, 3, 4, 5, 6, 0] rfl)
          intro x7_ ml H locs ls h hP hD hS hl
          refine lv_iload hx hb dX12_baits_82 (lv_at hl 5 rfl) ?_
          refine lv_iload hx hb dX12_baits_84 (lv_at hl 2 rfl) ?_
          refine lv_icmp_ge (tgt := 139) hx hb dX12_baits_86 (by decide) (fun c17 => ?_) (fun c17 => ?_)
          · have h := h.1 c17
            refine lv_iconst (v := 0) hx hb dX12_baits_139 (by decide) ?_
            refine lv_istore (lv' := [(7, .int 0), (0, .ref (aM 0)), (3, .int p3), (4, .int x4_), (5, .int x5_), (6, .int x6_)]) hx hb dX12_baits_140 hl (by decide) rfl (fun ls hl => ?_)
            obtain ⟨n, h⟩ := h
            exact N142 x6_ mw n 0 ml _ _ _ h hP hD hS (lv_sub hl [1, 2, 3, 4, 5, 0] rfl)
          · have h := h.2 c17
            refine lv_iconst (v := 0) hx hb dX12_baits_89 (by decide) ?_
            refine lv_istore (lv' := [(8, .int 0), (0, .ref (aM 0)), (3, .int p3), (4, .int x4_), (5, .int x5_), (6, .int x6_), (7, .int x7_)]) hx hb dX12_baits_90 hl (by decide) rfl (fun ls hl => ?_)
            obtain ⟨n, h⟩ := h
            exact N92 x7_ n 0 ml _ _ _ h hP hD hS (lv_sub hl [1, 2, 3, 4, 5, 6, 0] rfl)
      intro x6_ mw ml H locs ls h hP hD hS hl
      refine lv_iload hx hb dX12_baits_68 (lv_at hl 4 rfl) ?_
      refine lv_aload_n hx hb dX12_baits_70 rfl (lv_at hl 0 rfl) ?_
      refine va_get (D := D) (ci := 12) (v := .ref (aM 8)) (C := RX12) (T := TX12) (N := 51) hx hb hw inW_X12 hown hK hP 0 rfl rfl 18 (by decide) (hw _ mw_6_61) (fun _ h9 => h9) rfl dX12_baits_71 ?_
      refine lv_iconst (v := 0) hx hb dX12_baits_74 (by decide) ?_
      refine cIald hx hb hK hP 8 0 rfl rfl 0 (by decide +kernel) (cIn (by decide +kernel)) dX12_baits_75 ?_
      refine lv_icmp_ge (tgt := 329) hx hb dX12_baits_76 (by decide) (fun c18 => ?_) (fun c18 => ?_)
      · have h := h.1 c18
        rw [← hQ]
        exact cRetV (ms, mw, ma, ml) hx hb hr hlocks hS hP hD h dX12_baits_329
      · have h := h.2 c18
        refine lv_iconst (v := 0) hx hb dX12_baits_79 (by decide) ?_
        refine lv_istore (lv' := [(7, .int 0), (0, .ref (aM 0)), (3, .int p3), (4, .int x4_), (5, .int x5_), (6, .int x6_)]) hx hb dX12_baits_80 hl (by decide) rfl (fun ls hl => ?_)
        obtain ⟨n, h⟩ := h
        exact N82 x6_ mw n 0 ml _ _ _ h hP hD hS (lv_sub hl [1, 2, 3, 4, 5, 0] rfl)
  have N33 : ∀ (x4_ : Int32) (x5_ : Int32) (ms : Nat → Int32) (mw : Nat → Int64) (ma : Nat → Nat → Int32) (n33 : Nat) (x6_ : Int32) (ml : Nat → Nat → Int64) (H : Heap) (locs : List Loc) (ls : Array Slot), P_X12_baits_33 p1 p2 p3 post (fun (x4_ : Int32) (x5_ : Int32) (ms : Nat → Int32) (ma : Nat → Nat → Int32) (x6_ : Int32) (mw : Nat → Int64) (ml : Nat → Nat → Int64) => ∃ n : Nat, P_X12_baits_68 p1 p2 p3 post  x4_ x5_ ms ma n x6_ mw ml) x4_ x5_ ms mw ma n33 x6_ ml → va_P D vwCl (List.flatten (wM aM C ms mw ma ml)) H → va_D A (List.flatten (wM aM C ms mw ma ml)) → va_S A s.heap H locs → lv_has ls 10 [(0, .ref (aM 0)), (3, .int p3), (4, .int x4_), (5, .int x5_), (6, .int x6_)] → W p l e rmX12_baits s m args below meth c H locs 0 0 Q (F0 m 33 ls []) := by
    intro x4_ x5_ ms mw ma
    intro n33
    induction n33 with
    | zero => intro x6_ ml H locs ls h hP hD hS hl; exact False.elim h
    | succ n33 ih33 =>
      intro x6_ ml H locs ls h hP hD hS hl
      refine lv_iload hx hb dX12_baits_33 (lv_at hl 4 rfl) ?_
      refine lv_iload hx hb dX12_baits_35 (lv_at hl 3 rfl) ?_
      refine lv_icmp_ge (tgt := 65) hx hb dX12_baits_37 (by decide) (fun c19 => ?_) (fun c19 => ?_)
      · have h := h.1 c19
        refine lv_iconst (v := 0) hx hb dX12_baits_65 (by decide) ?_
        refine lv_istore (lv' := [(6, .int 0), (0, .ref (aM 0)), (3, .int p3), (4, .int x4_), (5, .int x5_)]) hx hb dX12_baits_66 hl (by decide) rfl (fun ls hl => ?_)
        obtain ⟨n, h⟩ := h
        exact N68 x4_ x5_ ms ma n 0 mw ml _ _ _ h hP hD hS (lv_sub hl [1, 2, 3, 4, 0] rfl)
      · have h := h.2 c19
        refine lv_aload_n hx hb dX12_baits_40 rfl (lv_at hl 0 rfl) ?_
        refine va_get (D := D) (ci := 12) (v := .ref (aM 31)) (C := RX12) (T := TX12) (N := 51) hx hb hw inW_X12 hown hK hP 0 rfl rfl 46 (by decide) (hw _ mw_6_89) (fun _ h9 => h9) rfl dX12_baits_41 ?_
        refine lv_iload hx hb dX12_baits_44 (lv_at hl 4 rfl) ?_
        refine lv_iload hx hb dX12_baits_46 (lv_at hl 4 rfl) ?_
        refine lv_if_ne (tgt := 57) hx hb dX12_baits_48 (by decide) (fun c20 => ?_) (fun c20 => ?_)
        · have h := h.1 c20
          refine lv_lconst (v := 0) hx hb dX12_baits_57 (by decide) ?_
          refine cLast hx hb hK hP hD hS 31 1 rfl rfl x6_.toNatClampNeg rfl h.1 dX12_baits_58 (fun H locs hP hD hS => ?_)
          have h := h.2
          refine lv_iinc (v := (x6_ + 1)) (lv' := [(6, .int (x6_ + 1)), (0, .ref (aM 0)), (3, .int p3), (4, .int x4_), (5, .int x5_)]) hx hb dX12_baits_59 hl (k := 4) rfl rfl (by decide) rfl (fun ls hl => ?_)
          refine lv_goto (tgt := 33) hx hb dX12_baits_62 (by decide) ?_
          have hP : va_P D vwCl (List.flatten (wM aM C ms mw ma (va_up ml 9 (vp_updL (ml 9) x6_.toNatClampNeg 0)))) H := hP
          have hD : va_D A (List.flatten (wM aM C ms mw ma (va_up ml 9 (vp_updL (ml 9) x6_.toNatClampNeg 0)))) := hD
          exact ih33 (x6_ + 1) (va_up ml 9 (vp_updL (ml 9) x6_.toNatClampNeg 0)) _ _ _ h hP hD hS (lv_sub hl [1, 2, 3, 4, 0] rfl)
        · have h := h.2 c20
          refine lv_ldc2 (v := 1000000000000) hx hb hown (hw _ mw_7_213) dX12_baits_51 ?_
          refine lv_goto (tgt := 58) hx hb dX12_baits_54 (by decide) ?_
          refine cLast hx hb hK hP hD hS 31 1 rfl rfl x6_.toNatClampNeg rfl h.1 dX12_baits_58 (fun H locs hP hD hS => ?_)
          have h := h.2
          refine lv_iinc (v := (x6_ + 1)) (lv' := [(6, .int (x6_ + 1)), (0, .ref (aM 0)), (3, .int p3), (4, .int x4_), (5, .int x5_)]) hx hb dX12_baits_59 hl (k := 4) rfl rfl (by decide) rfl (fun ls hl => ?_)
          refine lv_goto (tgt := 33) hx hb dX12_baits_62 (by decide) ?_
          have hP : va_P D vwCl (List.flatten (wM aM C ms mw ma (va_up ml 9 (vp_updL (ml 9) x6_.toNatClampNeg 1000000000000)))) H := hP
          have hD : va_D A (List.flatten (wM aM C ms mw ma (va_up ml 9 (vp_updL (ml 9) x6_.toNatClampNeg 1000000000000)))) := hD
          exact ih33 (x6_ + 1) (va_up ml 9 (vp_updL (ml 9) x6_.toNatClampNeg 1000000000000)) _ _ _ h hP hD hS (lv_sub hl [1, 2, 3, 4, 0] rfl)
  refine lv_aload_n hx hb dX12_baits_0 rfl (lv_at hl 0 rfl) ?_
  refine lv_iload_n hx hb dX12_baits_1 rfl (lv_at hl 2 rfl) ?_
  refine cGoV (wo := fun u => wM aM C u.1 mw u.2 ml) (cRunV (As := [.int p2]) (rest := []) ⟨hx, hb, hml, hown, hw⟩ hK hN hP hD [0, 1, 2, 3, 4, 5, 6, 7, 8, 9, 10, 11, 12, 13, 14, 15, 16, 17, 18, 19, 20, 21, 22, 23, 24, 25, 26, 27, 28, 29, 30, 31, 32] rfl rfl (k_X12_lays l D C _ aM  ms mw ma ml p2 h) (cwV 1 hw (goodV mw_7_180 mw_7_182 mw_s138 mw_1_13 mw_7_183) rfl rfl rfl (by decide +kernel) ⟨Nat.le_of_ble_eq_true rfl, Nat.le_of_ble_eq_true rfl⟩) rfl rfl rfl hl.1 rfl (Nat.le_of_ble_eq_true rfl) dX12_baits_2 ⟨Nat.zero_le _, Nat.zero_le _⟩) hP hD hS hA [0, 1, 2, 3, 4, 5, 6, 7, 8, 9, 10, 11, 12, 13, 14, 15, 16, 17, 18, 19, 20, 21, 22, 23, 24, 25, 26, 27, 28, 29, 30, 31, 32] [] [0, 1, 2, 3, 4, 5, 6, 7, 8, 9, 10, 11, 12, 13, 14, 15, 16, 17, 18, 19, 20, 21, 22, 23, 24, 25, 26, 27, 28, 29, 30, 31, 32] rfl rfl rfl (by decide) rfl (fun _ => rfl) (fun u H locs h hP hD hS => ?_)
  obtain ⟨ms_21, ma_22⟩ := u
  have hP : va_P D vwCl (List.flatten (wM aM C ms_21 mw ma_22 ml)) H := hP
  have hD : va_D A (List.flatten (wM aM C ms_21 mw ma_22 ml)) := hD
  refine lv_iconst (v := 2) hx hb dX12_baits_5 (by decide) ?_
  refine lv_aload_n hx hb dX12_baits_6 rfl (lv_at hl 0 rfl) ?_
  refine va_get (D := D) (ci := 12) (v := .ref (aM 13)) (C := RX12) (T := TX12) (N := 51) hx hb hw inW_X12 hown hK hP 0 rfl rfl 23 (by decide) (hw _ mw_6_66) (fun _ h9 => h9) rfl dX12_baits_7 ?_
  refine lv_iconst (v := 0) hx hb dX12_baits_10 (by decide) ?_
  refine cIald hx hb hK hP 13 0 rfl rfl 0 (by decide +kernel) (cIn (by decide +kernel)) dX12_baits_11 ?_
  refine lv_ishl hx hb dX12_baits_12 ?_
  refine lv_topi (fun x23 ex23 => ?_)
  have h := h x23 ex23
  refine lv_istore (lv' := [(4, .int x23), (0, .ref (aM 0)), (1, .int p1), (2, .int p2), (3, .int p3)]) hx hb dX12_baits_13 hl (by decide) rfl (fun ls hl => ?_)
  refine lv_iconst (v := 1) hx hb dX12_baits_15 (by decide) ?_
  refine lv_aload_n hx hb dX12_baits_16 rfl (lv_at hl 1 rfl) ?_
  refine va_get (D := D) (ci := 12) (v := .ref (aM 15)) (C := RX12) (T := TX12) (N := 51) hx hb hw inW_X12 hown hK hP 0 rfl rfl 25 (by decide) (hw _ mw_6_68) (fun _ h9 => h9) rfl dX12_baits_17 ?_
  refine lv_iconst (v := 0) hx hb dX12_baits_20 (by decide) ?_
  refine cIald hx hb hK hP 15 0 rfl rfl 0 (by decide +kernel) (cIn (by decide +kernel)) dX12_baits_21 ?_
  refine lv_ishl hx hb dX12_baits_22 ?_
  refine lv_topi (fun x24 ex24 => ?_)
  have h := h x24 ex24
  refine lv_istore (lv' := [(5, .int x24), (4, .int x23), (0, .ref (aM 0)), (1, .int p1), (2, .int p2), (3, .int p3)]) hx hb dX12_baits_23 hl (by decide) rfl (fun ls hl => ?_)
  refine lv_aload_n hx hb dX12_baits_25 rfl (lv_at hl 2 rfl) ?_
  refine lv_lconst (v := 0) hx hb dX12_baits_26 (by decide) ?_
  refine va_put (D := D) (ci := 12) (v := .long 0) (ty := .long) (C := RX12) (T := TX12) (N := 51) hx hb hw inW_X12 tyX12 tyX12_ok nmX12 hown hK hP hD hS 0 rfl rfl 47 (by decide) (hw _ mw_6_90) (fun _ h9 => h9) rfl (by decide +kernel) rfl rfl (Nat.le_of_ble_eq_true rfl) dX12_baits_27 (fun H locs hP hD hS => ?_)
  refine lv_iconst (v := 0) hx hb dX12_baits_30 (by decide) ?_
  refine lv_istore (lv' := [(6, .int 0), (5, .int x24), (4, .int x23), (0, .ref (aM 0)), (1, .int p1), (2, .int p2), (3, .int p3)]) hx hb dX12_baits_31 hl (by decide) rfl (fun ls hl => ?_)
  have hP : va_P D vwCl (List.flatten (wM aM C ms_21 (va_up mw 2 0) ma_22 ml)) H := hP
  have hD : va_D A (List.flatten (wM aM C ms_21 (va_up mw 2 0) ma_22 ml)) := hD
  obtain ⟨n, h⟩ := h
  exact N33 x23 x24 ms_21 (va_up mw 2 0) ma_22 n 0 ml _ _ _ h hP hD hS (lv_sub hl [3, 6, 2, 1, 0] rfl)
abbrev vsX12_whyNot : List Cond := Cond.code yX12_whyNot cX12_whyNot 4 (some .int) :: WS
abbrev rmX12_whyNot : Room := { frames := 2, cells := 0, slots := 0, locals := 46 }
set_option maxHeartbeats 4000000 in
set_option maxRecDepth 100000 in
theorem k_X12_whyNot (l : Launch) (D : va_G) (C : Nat → ClassId) (sz : Nat) (aM : Nat → Nat)  (ms : Nat → Int32) (mw : Nat → Int64) (ma : Nat → Nat → Int32) (ml : Nat → Nat → Int64) (p1 : Int32) (p2 : Int32) (p3 : Int32) {post : Int32 → Prop} (h : P_X12_whyNot ma p1 p2 p3 post) : Met l yX12_whyNot vsX12_whyNot rmX12_whyNot (cPre D C [.ref (aM 0), .int p1, .int p2, .int p3] sz (wM aM C ms mw ma ml)) (cQi D (fun (r : Int32) (u : Unit) => post r ) (fun u => wM aM C ms mw ma ml) (va_A (List.flatten (wM aM C ms mw ma ml)) sz)) 0 0 (va_A (List.flatten (wM aM C ms mw ma ml)) sz) := by
  refine cStart (QA := fun A => cQi D (fun (r : Int32) (u : Unit) => post r ) (fun u => wM aM C ms mw ma ml) A) (cc := cX12_whyNot) (maxL := 4) (ret := (some .int)) (by decide) (Nat.le_of_ble_eq_true rfl) ?_
  intro p e s m args below meth c A ls hx hb hr hml hown hw hlocks hname hK hN hA hP hD hS hl
  generalize hQ : MQ below _ args s 0 0 A = Q
  have hl : lv_has ls 4 [(0, .ref (aM 0)), (1, .int p1), (2, .int p2), (3, .int p3)] := hl
  obtain ⟨H, hH⟩ : ∃ H, H = s.heap := ⟨_, rfl⟩
  obtain ⟨locs, hlo⟩ : ∃ z : List Loc, z = [] := ⟨_, rfl⟩
  have hP : va_P D vwCl (List.flatten (wM aM C ms mw ma ml)) H := by rw [hH]; exact hP
  have hS : va_S A s.heap H locs := by rw [hH, hlo]; exact hS
  rw [show W p l e rmX12_whyNot s m args below meth c s.heap [] 0 0 Q (F0 m 0 ls []) = W p l e rmX12_whyNot s m args below meth c H locs 0 0 Q (F0 m 0 ls []) from by rw [hH, hlo]]
  refine lv_aload_n hx hb dX12_whyNot_0 rfl (lv_at hl 0 rfl) ?_
  refine lv_iload_n hx hb dX12_whyNot_1 rfl (lv_at hl 1 rfl) ?_
  refine cGoI (wo := fun u => wM aM C ms mw ma ml) (cRunV (As := [.int p1]) (rest := []) ⟨hx, hb, hml, hown, hw⟩ hK hN hP hD [0, 1, 2, 3, 4, 5, 6, 7, 8, 9, 10, 11, 12, 13, 14, 15, 16, 17, 18, 19, 20, 21, 22, 23, 24, 25, 26, 27, 28, 29, 30, 31, 32] rfl rfl (k_X12_isPlace l D C _ aM  ms mw ma ml p1 h) (cwV 1 hw (goodV mw_7_125 mw_7_127 mw_s131 mw_1_13 mw_7_128) rfl rfl rfl (by decide +kernel) ⟨Nat.le_of_ble_eq_true rfl, Nat.le_of_ble_eq_true rfl⟩) rfl rfl rfl hl.1 rfl (Nat.le_of_ble_eq_true rfl) dX12_whyNot_2 ⟨Nat.zero_le _, Nat.zero_le _⟩) hP hD hS hA [0, 1, 2, 3, 4, 5, 6, 7, 8, 9, 10, 11, 12, 13, 14, 15, 16, 17, 18, 19, 20, 21, 22, 23, 24, 25, 26, 27, 28, 29, 30, 31, 32] [] [0, 1, 2, 3, 4, 5, 6, 7, 8, 9, 10, 11, 12, 13, 14, 15, 16, 17, 18, 19, 20, 21, 22, 23, 24, 25, 26, 27, 28, 29, 30, 31, 32] rfl rfl rfl (by decide) rfl (fun _ => rfl) (fun r1 u H locs h hP hD hS => ?_)
  have hP : va_P D vwCl (List.flatten (wM aM C ms mw ma ml)) H := hP
  have hD : va_D A (List.flatten (wM aM C ms mw ma ml)) := hD
  refine lv_if_eq (tgt := 32) hx hb dX12_whyNot_5 (by decide) (fun c2 => ?_) (fun c2 => ?_)
  · have h := h.1 c2
    refine lv_bipush (v := (-2)) hx hb dX12_whyNot_32 (by decide) ?_
    rw [← hQ]
    exact cRetI (v := (-2)) () hx hb hr hlocks hS hP hD h dX12_whyNot_34
  · have h := h.2 c2
    refine lv_iload_n hx hb dX12_whyNot_8 rfl (lv_at hl 2 rfl) ?_
    refine lv_i2l hx hb dX12_whyNot_9 rfl ?_
    refine lv_lconst (v := 0) hx hb dX12_whyNot_10 (by decide) ?_
    refine lv_ldc2 (v := 9999) hx hb hown (hw _ mw_8_223) dX12_whyNot_11 ?_
    refine cGoI (wo := fun u => wM aM C ms mw ma ml) (cRunS (As := [.long p2.toInt64, .long 0, .long 9999]) (rest := []) ⟨hx, hb, hml, hown, hw⟩ hK hN hP hD [] rfl rfl (k_X12_in l D C _    p2.toInt64 0 9999 h) (va_cwS 3 hw (goodS mw_6_205 mw_6_206 mw_1_13 mw_6_207) rfl rfl rfl (by decide +kernel) ⟨Nat.le_of_ble_eq_true rfl, Nat.le_of_ble_eq_true rfl⟩) rfl hl.1 rfl (Nat.le_of_ble_eq_true rfl) dX12_whyNot_14 ⟨Nat.zero_le _, Nat.zero_le _⟩) hP hD hS hA [] [0, 1, 2, 3, 4, 5, 6, 7, 8, 9, 10, 11, 12, 13, 14, 15, 16, 17, 18, 19, 20, 21, 22, 23, 24, 25, 26, 27, 28, 29, 30, 31, 32] [0, 1, 2, 3, 4, 5, 6, 7, 8, 9, 10, 11, 12, 13, 14, 15, 16, 17, 18, 19, 20, 21, 22, 23, 24, 25, 26, 27, 28, 29, 30, 31, 32] rfl rfl rfl (by decide) rfl (fun _ => rfl) (fun r3 u H locs h hP hD hS => ?_)
    have hP : va_P D vwCl (List.flatten (wM aM C ms mw ma ml)) H := hP
    have hD : va_D A (List.flatten (wM aM C ms mw ma ml)) := hD
    refine lv_if_eq (tgt := 32) hx hb dX12_whyNot_17 (by decide) (fun c4 => ?_) (fun c4 => ?_)
    · have h := h.1 c4
      refine lv_bipush (v := (-2)) hx hb dX12_whyNot_32 (by decide) ?_
      rw [← hQ]
      exact cRetI (v := (-2)) () hx hb hr hlocks hS hP hD h dX12_whyNot_34
    · have h := h.2 c4
      refine lv_iload_n hx hb dX12_whyNot_20 rfl (lv_at hl 3 rfl) ?_
      refine lv_i2l hx hb dX12_whyNot_21 rfl ?_
      refine lv_lconst (v := 0) hx hb dX12_whyNot_22 (by decide) ?_
      refine lv_ldc2 (v := 100) hx hb hown (hw _ mw_7_163) dX12_whyNot_23 ?_
      refine cGoI (wo := fun u => wM aM C ms mw ma ml) (cRunS (As := [.long p3.toInt64, .long 0, .long 100]) (rest := []) ⟨hx, hb, hml, hown, hw⟩ hK hN hP hD [] rfl rfl (k_X12_in l D C _    p3.toInt64 0 100 h) (va_cwS 3 hw (goodS mw_6_205 mw_6_206 mw_1_13 mw_6_207) rfl rfl rfl (by decide +kernel) ⟨Nat.le_of_ble_eq_true rfl, Nat.le_of_ble_eq_true rfl⟩) rfl hl.1 rfl (Nat.le_of_ble_eq_true rfl) dX12_whyNot_26 ⟨Nat.zero_le _, Nat.zero_le _⟩) hP hD hS hA [] [0, 1, 2, 3, 4, 5, 6, 7, 8, 9, 10, 11, 12, 13, 14, 15, 16, 17, 18, 19, 20, 21, 22, 23, 24, 25, 26, 27, 28, 29, 30, 31, 32] [0, 1, 2, 3, 4, 5, 6, 7, 8, 9, 10, 11, 12, 13, 14, 15, 16, 17, 18, 19, 20, 21, 22, 23, 24, 25, 26, 27, 28, 29, 30, 31, 32] rfl rfl rfl (by decide) rfl (fun _ => rfl) (fun r5 u H locs h hP hD hS => ?_)
      have hP : va_P D vwCl (List.flatten (wM aM C ms mw ma ml)) H := hP
      have hD : va_D A (List.flatten (wM aM C ms mw ma ml)) := hD
      refine lv_if_ne (tgt := 35) hx hb dX12_whyNot_29 (by decide) (fun c6 => ?_) (fun c6 => ?_)
      · have h := h.1 c6
        refine lv_aload_n hx hb dX12_whyNot_35 rfl (lv_at hl 0 rfl) ?_
        refine lv_iload_n hx hb dX12_whyNot_36 rfl (lv_at hl 1 rfl) ?_
        refine cGoI (wo := fun u => wM aM C ms mw ma ml) (cRunV (As := [.int p1]) (rest := []) ⟨hx, hb, hml, hown, hw⟩ hK hN hP hD [0, 1, 2, 3, 4, 5, 6, 7, 8, 9, 10, 11, 12, 13, 14, 15, 16, 17, 18, 19, 20, 21, 22, 23, 24, 25, 26, 27, 28, 29, 30, 31, 32] rfl rfl (k_X12_standsAt l D C _ aM  ms mw ma ml p1 h) (cwV 1 hw (goodV mw_8_155 mw_8_157 mw_s167 mw_1_13 mw_8_158) rfl rfl rfl (by decide +kernel) ⟨Nat.le_of_ble_eq_true rfl, Nat.le_of_ble_eq_true rfl⟩) rfl rfl rfl hl.1 rfl (Nat.le_of_ble_eq_true rfl) dX12_whyNot_37 ⟨Nat.zero_le _, Nat.zero_le _⟩) hP hD hS hA [0, 1, 2, 3, 4, 5, 6, 7, 8, 9, 10, 11, 12, 13, 14, 15, 16, 17, 18, 19, 20, 21, 22, 23, 24, 25, 26, 27, 28, 29, 30, 31, 32] [] [0, 1, 2, 3, 4, 5, 6, 7, 8, 9, 10, 11, 12, 13, 14, 15, 16, 17, 18, 19, 20, 21, 22, 23, 24, 25, 26, 27, 28, 29, 30, 31, 32] rfl rfl rfl (by decide) rfl (fun _ => rfl) (fun r7 u H locs h hP hD hS => ?_)
        have hP : va_P D vwCl (List.flatten (wM aM C ms mw ma ml)) H := hP
        have hD : va_D A (List.flatten (wM aM C ms mw ma ml)) := hD
        refine lv_iconst (v := (-1)) hx hb dX12_whyNot_40 (by decide) ?_
        refine lv_icmp_eq (tgt := 49) hx hb dX12_whyNot_41 (by decide) (fun c8 => ?_) (fun c8 => ?_)
        · have h := h.1 c8
          refine lv_iconst (v := 0) hx hb dX12_whyNot_49 (by decide) ?_
          rw [← hQ]
          exact cRetI (v := 0) () hx hb hr hlocks hS hP hD h dX12_whyNot_50
        · have h := h.2 c8
          refine lv_bipush (v := (-5)) hx hb dX12_whyNot_44 (by decide) ?_
          refine lv_goto (tgt := 50) hx hb dX12_whyNot_46 (by decide) ?_
          rw [← hQ]
          exact cRetI (v := (-5)) () hx hb hr hlocks hS hP hD h dX12_whyNot_50
      · have h := h.2 c6
        refine lv_bipush (v := (-2)) hx hb dX12_whyNot_32 (by decide) ?_
        rw [← hQ]
        exact cRetI (v := (-2)) () hx hb hr hlocks hS hP hD h dX12_whyNot_34
abbrev vsX12_bait : List Cond := Cond.code yX12_bait cX12_bait 5 (some .long) :: WS
abbrev rmX12_bait : Room := { frames := 5, cells := 0, slots := 0, locals := 124 }
set_option maxHeartbeats 4000000 in
set_option maxRecDepth 100000 in
theorem k_X12_bait (l : Launch) (D : va_G) (C : Nat → ClassId) (sz : Nat) (aM : Nat → Nat)  (ms : Nat → Int32) (mw : Nat → Int64) (ma : Nat → Nat → Int32) (ml : Nat → Nat → Int64) (p1 : Int32) (p2 : Int32) (p3 : Int32) {post : Int64 → (Nat → Int32) → (Nat → Int64) → (Nat → Nat → Int32) → (Nat → Nat → Int64) → Prop} (h : P_X12_bait ms mw ma ml p1 p2 p3 post) : Met l yX12_bait vsX12_bait rmX12_bait (cPre D C [.ref (aM 0), .int p1, .int p2, .int p3] sz (wM aM C ms mw ma ml)) (cQl D (fun (r : Int64) (u : (Nat → Int32) × (Nat → Int64) × (Nat → Nat → Int32) × (Nat → Nat → Int64)) => post r u.1 u.2.1 u.2.2.1 u.2.2.2) (fun u => wM aM C u.1 u.2.1 u.2.2.1 u.2.2.2) (va_A (List.flatten (wM aM C ms mw ma ml)) sz)) 0 0 (va_A (List.flatten (wM aM C ms mw ma ml)) sz) := by
  refine cStart (QA := fun A => cQl D (fun (r : Int64) (u : (Nat → Int32) × (Nat → Int64) × (Nat → Nat → Int32) × (Nat → Nat → Int64)) => post r u.1 u.2.1 u.2.2.1 u.2.2.2) (fun u => wM aM C u.1 u.2.1 u.2.2.1 u.2.2.2) A) (cc := cX12_bait) (maxL := 5) (ret := (some .long)) (by decide) (Nat.le_of_ble_eq_true rfl) ?_
  intro p e s m args below meth c A ls hx hb hr hml hown hw hlocks hname hK hN hA hP hD hS hl
  generalize hQ : MQ below _ args s 0 0 A = Q
  have hl : lv_has ls 5 [(0, .ref (aM 0)), (1, .int p1), (2, .int p2), (3, .int p3)] := hl
  obtain ⟨H, hH⟩ : ∃ H, H = s.heap := ⟨_, rfl⟩
  obtain ⟨locs, hlo⟩ : ∃ z : List Loc, z = [] := ⟨_, rfl⟩
  have hP : va_P D vwCl (List.flatten (wM aM C ms mw ma ml)) H := by rw [hH]; exact hP
  have hS : va_S A s.heap H locs := by rw [hH, hlo]; exact hS
  rw [show W p l e rmX12_bait s m args below meth c s.heap [] 0 0 Q (F0 m 0 ls []) = W p l e rmX12_bait s m args below meth c H locs 0 0 Q (F0 m 0 ls []) from by rw [hH, hlo]]
  refine lv_aload_n hx hb dX12_bait_0 rfl (lv_at hl 0 rfl) ?_
  refine lv_iconst (v := 0) hx hb dX12_bait_1 (by decide) ?_
  refine va_put (D := D) (ci := 12) (v := .int 0) (ty := .int) (C := RX12) (T := TX12) (N := 51) hx hb hw inW_X12 tyX12 tyX12_ok nmX12 hown hK hP hD hS 0 rfl rfl 0 (by decide) (hw _ mw_6_43) (fun _ h9 => h9) rfl (by decide +kernel) rfl rfl (Nat.le_of_ble_eq_true rfl) dX12_bait_2 (fun H locs hP hD hS => ?_)
  refine lv_aload_n hx hb dX12_bait_5 rfl (lv_at hl 0 rfl) ?_
  refine lv_iload_n hx hb dX12_bait_6 rfl (lv_at hl 1 rfl) ?_
  refine lv_iload_n hx hb dX12_bait_7 rfl (lv_at hl 2 rfl) ?_
  refine lv_iload_n hx hb dX12_bait_8 rfl (lv_at hl 3 rfl) ?_
  have hP : va_P D vwCl (List.flatten (wM aM C (va_up ms 0 0) mw ma ml)) H := hP
  have hD : va_D A (List.flatten (wM aM C (va_up ms 0 0) mw ma ml)) := hD
  refine cGoI (wo := fun u => wM aM C (va_up ms 0 0) mw ma ml) (cRunV (As := [.int p1, .int p2, .int p3]) (rest := []) ⟨hx, hb, hml, hown, hw⟩ hK hN hP hD [0, 1, 2, 3, 4, 5, 6, 7, 8, 9, 10, 11, 12, 13, 14, 15, 16, 17, 18, 19, 20, 21, 22, 23, 24, 25, 26, 27, 28, 29, 30, 31, 32] rfl rfl (k_X12_whyNot l D C _ aM  (va_up ms 0 0) mw ma ml p1 p2 p3 h) (cwV 3 hw (goodV mw_8_219 mw_8_221 mw_s172 mw_1_13 mw_8_222) rfl rfl rfl (by decide +kernel) ⟨Nat.le_of_ble_eq_true rfl, Nat.le_of_ble_eq_true rfl⟩) rfl rfl rfl hl.1 rfl (Nat.le_of_ble_eq_true rfl) dX12_bait_9 ⟨Nat.zero_le _, Nat.zero_le _⟩) hP hD hS hA [0, 1, 2, 3, 4, 5, 6, 7, 8, 9, 10, 11, 12, 13, 14, 15, 16, 17, 18, 19, 20, 21, 22, 23, 24, 25, 26, 27, 28, 29, 30, 31, 32] [] [0, 1, 2, 3, 4, 5, 6, 7, 8, 9, 10, 11, 12, 13, 14, 15, 16, 17, 18, 19, 20, 21, 22, 23, 24, 25, 26, 27, 28, 29, 30, 31, 32] rfl rfl rfl (by decide) rfl (fun _ => rfl) (fun r1 u H locs h hP hD hS => ?_)
  have hP : va_P D vwCl (List.flatten (wM aM C (va_up ms 0 0) mw ma ml)) H := hP
  have hD : va_D A (List.flatten (wM aM C (va_up ms 0 0) mw ma ml)) := hD
  refine lv_istore (lv' := [(4, .int r1), (0, .ref (aM 0)), (1, .int p1), (2, .int p2), (3, .int p3)]) hx hb dX12_bait_12 hl (by decide) rfl (fun ls hl => ?_)
  refine lv_iload hx hb dX12_bait_14 (lv_at hl 0 rfl) ?_
  refine lv_if_eq (tgt := 23) hx hb dX12_bait_16 (by decide) (fun c2 => ?_) (fun c2 => ?_)
  · have h := h.1 c2
    refine lv_aload_n hx hb dX12_bait_23 rfl (lv_at hl 1 rfl) ?_
    refine lv_iload_n hx hb dX12_bait_24 rfl (lv_at hl 2 rfl) ?_
    refine lv_iload_n hx hb dX12_bait_25 rfl (lv_at hl 3 rfl) ?_
    refine lv_iload_n hx hb dX12_bait_26 rfl (lv_at hl 4 rfl) ?_
    refine cGoV (wo := fun u => wM aM C u.1 u.2.1 u.2.2.1 u.2.2.2) (cRunV (As := [.int p1, .int p2, .int p3]) (rest := []) ⟨hx, hb, hml, hown, hw⟩ hK hN hP hD [0, 1, 2, 3, 4, 5, 6, 7, 8, 9, 10, 11, 12, 13, 14, 15, 16, 17, 18, 19, 20, 21, 22, 23, 24, 25, 26, 27, 28, 29, 30, 31, 32] rfl rfl (k_X12_baits l D C _ aM  (va_up ms 0 0) mw ma ml p1 p2 p3 h) (cwV 3 hw (goodV mw_8_224 mw_8_226 mw_s173 mw_1_13 mw_8_227) rfl rfl rfl (by decide +kernel) ⟨Nat.le_of_ble_eq_true rfl, Nat.le_of_ble_eq_true rfl⟩) rfl rfl rfl hl.1 rfl (Nat.le_of_ble_eq_true rfl) dX12_bait_27 ⟨Nat.zero_le _, Nat.zero_le _⟩) hP hD hS hA [0, 1, 2, 3, 4, 5, 6, 7, 8, 9, 10, 11, 12, 13, 14, 15, 16, 17, 18, 19, 20, 21, 22, 23, 24, 25, 26, 27, 28, 29, 30, 31, 32] [] [0, 1, 2, 3, 4, 5, 6, 7, 8, 9, 10, 11, 12, 13, 14, 15, 16, 17, 18, 19, 20, 21, 22, 23, 24, 25, 26, 27, 28, 29, 30, 31, 32] rfl rfl rfl (by decide) rfl (fun _ => rfl) (fun u H locs h hP hD hS => ?_)
    obtain ⟨ms_3, mw_4, ma_5, ml_6⟩ := u
    have hP : va_P D vwCl (List.flatten (wM aM C ms_3 mw_4 ma_5 ml_6)) H := hP
    have hD : va_D A (List.flatten (wM aM C ms_3 mw_4 ma_5 ml_6)) := hD
    refine lv_aload_n hx hb dX12_bait_30 rfl (lv_at hl 1 rfl) ?_
    refine va_get (D := D) (ci := 12) (v := .long (mw_4 2)) (C := RX12) (T := TX12) (N := 51) hx hb hw inW_X12 hown hK hP 0 rfl rfl 47 (by decide) (hw _ mw_6_90) (fun _ h9 => h9) rfl dX12_bait_31 ?_
    refine lv_ldc2 (v := 1000000000) hx hb hown (hw _ mw_8_15) dX12_bait_34 ?_
    refine lv_ldiv hx hb dX12_bait_37 (by decide) ?_
    rw [← hQ]
    exact cRetL (v := ((mw_4 2) / 1000000000)) (ms_3, mw_4, ma_5, ml_6) hx hb hr hlocks hS hP hD h dX12_bait_38
  · have h := h.2 c2
    refine lv_iload hx hb dX12_bait_19 (lv_at hl 0 rfl) ?_
    refine lv_i2l hx hb dX12_bait_21 rfl ?_
    rw [← hQ]
    exact cRetL (v := r1.toInt64) ((va_up ms 0 0), mw, ma, ml) hx hb hr hlocks hS hP hD h dX12_bait_22
