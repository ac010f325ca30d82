abbrev vsX3_letAllCome : List Cond := Cond.code yX3_letAllCome cX3_letAllCome 7 (some .int) :: WS
abbrev rmX3_letAllCome : Room := { frames := 1, cells := 0, slots := 0, locals := 25 }
set_option maxHeartbeats 4000000 in
set_option maxRecDepth 100000 in
theorem k_X3_letAllCome (l : Launch) (D : va_G) (C : Nat → ClassId) (sz : Nat) (n0 : Nat) (aN : Nat → Nat) (e0 : Nat) (e1 : Nat) (e2 : Nat)  (ns : Nat → Int32) (na : Nat → Nat → Int32) (nl : Nat → Nat → Int64) (e_isThere : Int32) (e_taken : Nat → Int32) (e_took : Nat → Int32) (p1 : Int32) (p2 : Int32) {post : Int32 → (Nat → Int32) → (Nat → Int32) → Prop} (h : P_X3_letAllCome ns na e_taken e_took p1 p2 post) : Met l yX3_letAllCome vsX3_letAllCome rmX3_letAllCome (cPre D C [.ref n0, .int p1, .int p2, .ref e0] sz (wNight n0 aN C ns na nl ++ ([cYear e0 e1 e2 C e_isThere e_taken e_took]))) (cQi D (fun (r : Int32) (u : (Nat → Int32) × (Nat → Int32)) => post r u.1 u.2) (fun u => wNight n0 aN C ns na nl ++ ([cYear e0 e1 e2 C e_isThere u.1 u.2])) (va_A (List.flatten (wNight n0 aN C ns na nl ++ ([cYear e0 e1 e2 C e_isThere e_taken e_took]))) sz)) 0 0 (va_A (List.flatten (wNight n0 aN C ns na nl ++ ([cYear e0 e1 e2 C e_isThere e_taken e_took]))) sz) := by
  refine cStart (QA := fun A => cQi D (fun (r : Int32) (u : (Nat → Int32) × (Nat → Int32)) => post r u.1 u.2) (fun u => wNight n0 aN C ns na nl ++ ([cYear e0 e1 e2 C e_isThere u.1 u.2])) A) (cc := cX3_letAllCome) (maxL := 7) (ret := (some .int)) (by decide) (Nat.le_of_ble_eq_true rfl) ?_
  intro p e s m args below meth c A ls hx hb hr hml hown hw hlocks hname hK hN hA hP hD hS hl
  generalize hQ : MQ below _ args s 0 0 A = Q
  have hl : lv_has ls 7 [(0, .ref n0), (1, .int p1), (2, .int p2), (3, .ref e0)] := hl
  have hn204 : (Cond.fieldLinkNest "LockRail$Night" 204 "LockRail$Year" "taken" "[I" "LockRail").before args s = true := hN.f 44 rfl
  have hn207 : (Cond.fieldLinkNest "LockRail$Night" 207 "LockRail$Year" "took" "[I" "LockRail").before args s = true := hN.f 46 rfl
  obtain ⟨H, hH⟩ : ∃ H, H = s.heap := ⟨_, rfl⟩
  obtain ⟨locs, hlo⟩ : ∃ z : List Loc, z = [] := ⟨_, rfl⟩
  have hP : va_P D vwCl (List.flatten (wNight n0 aN C ns na nl ++ ([cYear e0 e1 e2 C e_isThere e_taken e_took]))) H := by rw [hH]; exact hP
  have hS : va_S A s.heap H locs := by rw [hH, hlo]; exact hS
  rw [show W p l e rmX3_letAllCome s m args below meth c s.heap [] 0 0 Q (F0 m 0 ls []) = W p l e rmX3_letAllCome s m args below meth c H locs 0 0 Q (F0 m 0 ls []) from by rw [hH, hlo]]
  have N88 : ∀ (x4_ : Int32) (e_taken : Nat → Int32) (e_took : Nat → Int32) (H : Heap) (locs : List Loc) (ls : Array Slot), P_X3_letAllCome_88 ns na p1 p2 post  x4_ e_taken e_took → va_P D vwCl (List.flatten (wNight n0 aN C ns na nl ++ ([cYear e0 e1 e2 C e_isThere e_taken e_took]))) H → va_D A (List.flatten (wNight n0 aN C ns na nl ++ ([cYear e0 e1 e2 C e_isThere e_taken e_took]))) → va_S A s.heap H locs → lv_has ls 7 [(4, .int x4_)] → W p l e rmX3_letAllCome s m args below meth c H locs 0 0 Q (F0 m 88 ls []) := by
    intro x4_ e_taken e_took H locs ls h hP hD hS hl
    refine lv_iload hx hb dX3_letAllCome_88 (lv_at hl 0 rfl) ?_
    refine cGoI (wo := fun u => wNight n0 aN C ns na nl ++ ([cYear e0 e1 e2 C e_isThere e_taken e_took])) (cRunS (As := [.int x4_]) (rest := []) ⟨hx, hb, hml, hown, hw⟩ hK hN hP hD [] rfl rfl (k_J6_bitCount_0f7a4 l D C _    x4_ h) (va_cwS 1 hw (goodS mw_4_71 mw_4_72 mw_1_20 mw_4_73) rfl rfl rfl (by decide +kernel) ⟨Nat.le_of_ble_eq_true rfl, Nat.le_of_ble_eq_true rfl⟩) rfl hl.1 rfl (Nat.le_of_ble_eq_true rfl) dX3_letAllCome_90 ⟨Nat.zero_le _, Nat.zero_le _⟩) hP hD hS hA [] [0, 1, 2, 3] [0, 1, 2, 3] rfl rfl rfl (by decide) rfl (fun _ => rfl) (fun r4 u H locs h hP hD hS => ?_)
    have hP : va_P D vwCl (List.flatten (wNight n0 aN C ns na nl ++ ([cYear e0 e1 e2 C e_isThere e_taken e_took]))) H := hP
    have hD : va_D A (List.flatten (wNight n0 aN C ns na nl ++ ([cYear e0 e1 e2 C e_isThere e_taken e_took]))) := hD
    rw [← hQ]
    exact cRetI (v := r4) (e_taken, e_took) hx hb hr hlocks hS hP hD h dX3_letAllCome_93
  have N6 : ∀  (n6 : Nat) (x4_ : Int32) (x5_ : Int32) (e_taken : Nat → Int32) (e_took : Nat → Int32) (H : Heap) (locs : List Loc) (ls : Array Slot), P_X3_letAllCome_6 ns na p1 p2 post (fun (x4_ : Int32) (e_taken : Nat → Int32) (e_took : Nat → Int32) => P_X3_letAllCome_88 ns na p1 p2 post  x4_ e_taken e_took)  n6 x4_ x5_ e_taken e_took → va_P D vwCl (List.flatten (wNight n0 aN C ns na nl ++ ([cYear e0 e1 e2 C e_isThere e_taken e_took]))) H → va_D A (List.flatten (wNight n0 aN C ns na nl ++ ([cYear e0 e1 e2 C e_isThere e_taken e_took]))) → va_S A s.heap H locs → lv_has ls 7 [(0, .ref n0), (1, .int p1), (2, .int p2), (3, .ref e0), (4, .int x4_), (5, .int x5_)] → W p l e rmX3_letAllCome s m args below meth c H locs 0 0 Q (F0 m 6 ls []) := by
    intro n6
    induction n6 with
    | zero => intro x4_ x5_ e_taken e_took H locs ls h hP hD hS hl; exact False.elim h
    | succ n6 ih6 =>
      have N34 : ∀ (x4_ : Int32) (x5_ : Int32) (k0_ : Int32) (e_taken : Nat → Int32) (e_took : Nat → Int32) (H : Heap) (locs : List Loc) (ls : Array Slot), P_X3_letAllCome_34 ns na p1 p2 post (P_X3_letAllCome_6 ns na p1 p2 post (fun (x4_ : Int32) (e_taken : Nat → Int32) (e_took : Nat → Int32) => P_X3_letAllCome_88 ns na p1 p2 post  x4_ e_taken e_took)  n6) x4_ x5_ k0_ e_taken e_took → va_P D vwCl (List.flatten (wNight n0 aN C ns na nl ++ ([cYear e0 e1 e2 C e_isThere e_taken e_took]))) H → va_D A (List.flatten (wNight n0 aN C ns na nl ++ ([cYear e0 e1 e2 C e_isThere e_taken e_took]))) → va_S A s.heap H locs → lv_has ls 7 [(0, .ref n0), (1, .int p1), (2, .int p2), (3, .ref e0), (4, .int x4_), (5, .int x5_)] → W p l e rmX3_letAllCome s m args below meth c H locs 0 0 Q (F0 m 34 ls [.int k0_]) := by
        intro x4_ x5_ k0_ e_taken e_took H locs ls h hP hD hS hl
        refine lv_istore (lv' := [(6, .int k0_), (0, .ref n0), (1, .int p1), (2, .int p2), (3, .ref e0), (4, .int x4_), (5, .int x5_)]) hx hb dX3_letAllCome_34 hl (by decide) rfl (fun ls hl => ?_)
        refine lv_iload hx hb dX3_letAllCome_36 (lv_at hl 0 rfl) ?_
        refine lv_iconst (v := (-1)) hx hb dX3_letAllCome_38 (by decide) ?_
        refine lv_icmp_eq (tgt := 82) hx hb dX3_letAllCome_39 (by decide) (fun c1 => ?_) (fun c1 => ?_)
        · have h := h.1 c1
          refine lv_iinc (v := (x5_ + 1)) (lv' := [(5, .int (x5_ + 1)), (6, .int k0_), (0, .ref n0), (1, .int p1), (2, .int p2), (3, .ref e0), (4, .int x4_)]) hx hb dX3_letAllCome_82 hl (k := 6) rfl rfl (by decide) rfl (fun ls hl => ?_)
          refine lv_goto (tgt := 6) hx hb dX3_letAllCome_85 (by decide) ?_
          exact ih6 x4_ (x5_ + 1) e_taken e_took _ _ _ h hP hD hS (lv_sub hl [2, 3, 4, 5, 6, 0] rfl)
        · have h := h.2 c1
          refine lv_iload hx hb dX3_letAllCome_42 (lv_at hl 0 rfl) ?_
          refine lv_aload_n hx hb dX3_letAllCome_44 rfl (lv_at hl 1 rfl) ?_
          refine va_get (D := D) (ci := 3) (v := .int (ns 0)) (C := RX3) (T := TX3) (N := 10) hx hb hw inW_X3 hown hK hP 0 rfl rfl 8 (by decide) (hw _ mw_2_118) (fun _ h9 => h9) rfl dX3_letAllCome_45 ?_
          refine lv_icmp_eq (tgt := 82) hx hb dX3_letAllCome_48 (by decide) (fun c2 => ?_) (fun c2 => ?_)
          · have h := h.1 c2
            refine lv_iinc (v := (x5_ + 1)) (lv' := [(5, .int (x5_ + 1)), (6, .int k0_), (0, .ref n0), (1, .int p1), (2, .int p2), (3, .ref e0), (4, .int x4_)]) hx hb dX3_letAllCome_82 hl (k := 6) rfl rfl (by decide) rfl (fun ls hl => ?_)
            refine lv_goto (tgt := 6) hx hb dX3_letAllCome_85 (by decide) ?_
            exact ih6 x4_ (x5_ + 1) e_taken e_took _ _ _ h hP hD hS (lv_sub hl [2, 3, 4, 5, 6, 0] rfl)
          · have h := h.2 c2
            refine lv_iload hx hb dX3_letAllCome_51 (lv_at hl 5 rfl) ?_
            refine lv_iconst (v := 1) hx hb dX3_letAllCome_53 (by decide) ?_
            refine lv_iload hx hb dX3_letAllCome_54 (lv_at hl 0 rfl) ?_
            refine lv_ishl hx hb dX3_letAllCome_56 ?_
            refine lv_ior hx hb dX3_letAllCome_57 ?_
            refine lv_topi (fun x3 ex3 => ?_)
            have h := h x3 ex3
            refine lv_istore (lv' := [(4, .int x3), (6, .int k0_), (0, .ref n0), (1, .int p1), (2, .int p2), (3, .ref e0), (5, .int x5_)]) hx hb dX3_letAllCome_58 hl (by decide) rfl (fun ls hl => ?_)
            refine lv_aload_n hx hb dX3_letAllCome_60 rfl (lv_at hl 5 rfl) ?_
            refine va_getN (D := D) (ci := 10) (v := .ref e1) (C := RX10) (T := TX10) (N := 3) hx hb hw inW_X10 hown hK hP 17 rfl rfl 1 (by decide) hn204 (fun _ h9 => h9) rfl dX3_letAllCome_61 ?_
            refine lv_iload hx hb dX3_letAllCome_64 (lv_at hl 1 rfl) ?_
            refine lv_dup2_11 hx hb dX3_letAllCome_66 rfl rfl ?_
            refine cIald hx hb hK hP 18 0 rfl rfl k0_.toNatClampNeg rfl h.1 dX3_letAllCome_67 ?_
            have h := h.2
            refine lv_iconst (v := 1) hx hb dX3_letAllCome_68 (by decide) ?_
            refine lv_iadd hx hb dX3_letAllCome_69 ?_
            refine cIast hx hb hK hP hD hS 18 0 rfl rfl k0_.toNatClampNeg rfl h.1 dX3_letAllCome_70 (fun H locs hP hD hS => ?_)
            have h := h.2
            refine lv_aload_n hx hb dX3_letAllCome_71 rfl (lv_at hl 5 rfl) ?_
            refine va_getN (D := D) (ci := 10) (v := .ref e2) (C := RX10) (T := TX10) (N := 3) hx hb hw inW_X10 hown hK hP 17 rfl rfl 2 (by decide) hn207 (fun _ h9 => h9) rfl dX3_letAllCome_72 ?_
            refine lv_iload hx hb dX3_letAllCome_75 (lv_at hl 6 rfl) ?_
            refine lv_dup2_11 hx hb dX3_letAllCome_77 rfl rfl ?_
            refine cIald hx hb hK hP 19 0 rfl rfl x5_.toNatClampNeg rfl h.1 dX3_letAllCome_78 ?_
            have h := h.2
            refine lv_iconst (v := 1) hx hb dX3_letAllCome_79 (by decide) ?_
            refine lv_iadd hx hb dX3_letAllCome_80 ?_
            refine cIast hx hb hK hP hD hS 19 0 rfl rfl x5_.toNatClampNeg rfl h.1 dX3_letAllCome_81 (fun H locs hP hD hS => ?_)
            have h := h.2
            refine lv_iinc (v := (x5_ + 1)) (lv' := [(5, .int (x5_ + 1)), (4, .int x3), (6, .int k0_), (0, .ref n0), (1, .int p1), (2, .int p2), (3, .ref e0)]) hx hb dX3_letAllCome_82 hl (k := 6) rfl rfl (by decide) rfl (fun ls hl => ?_)
            refine lv_goto (tgt := 6) hx hb dX3_letAllCome_85 (by decide) ?_
            have hP : va_P D vwCl (List.flatten (wNight n0 aN C ns na nl ++ ([cYear e0 e1 e2 C e_isThere (upd e_taken k0_.toNatClampNeg ((e_taken k0_.toNatClampNeg) + 1)) (upd e_took x5_.toNatClampNeg ((e_took x5_.toNatClampNeg) + 1))]))) H := hP
            have hD : va_D A (List.flatten (wNight n0 aN C ns na nl ++ ([cYear e0 e1 e2 C e_isThere (upd e_taken k0_.toNatClampNeg ((e_taken k0_.toNatClampNeg) + 1)) (upd e_took x5_.toNatClampNeg ((e_took x5_.toNatClampNeg) + 1))]))) := hD
            exact ih6 x3 (x5_ + 1) (upd e_taken k0_.toNatClampNeg ((e_taken k0_.toNatClampNeg) + 1)) (upd e_took x5_.toNatClampNeg ((e_took x5_.toNatClampNeg) + 1)) _ _ _ h hP hD hS (lv_sub hl [3, 4, 5, 6, 1, 0] rfl)
      intro x4_ x5_ e_taken e_took H locs ls h hP hD hS hl
      refine lv_iload hx hb dX3_letAllCome_6 (lv_at hl 5 rfl) ?_
      refine lv_iload_n hx hb dX3_letAllCome_8 rfl (lv_at hl 2 rfl) ?_
      refine lv_icmp_ge (tgt := 88) hx hb dX3_letAllCome_9 (by decide) (fun c5 => ?_) (fun c5 => ?_)
      · have h := h.1 c5
        exact N88 x4_ e_taken e_took _ _ _ h hP hD hS (lv_sub hl [4] rfl)
      · have h := h.2 c5
        refine lv_iload_n hx hb dX3_letAllCome_12 rfl (lv_at hl 1 rfl) ?_
        refine lv_iload hx hb dX3_letAllCome_13 (lv_at hl 5 rfl) ?_
        refine lv_ishr hx hb dX3_letAllCome_15 ?_
        refine lv_iconst (v := 1) hx hb dX3_letAllCome_16 (by decide) ?_
        refine lv_iand hx hb dX3_letAllCome_17 ?_
        refine lv_iconst (v := 1) hx hb dX3_letAllCome_18 (by decide) ?_
        refine lv_icmp_ne (tgt := 33) hx hb dX3_letAllCome_19 (by decide) (fun c6 => ?_) (fun c6 => ?_)
        · have h := h.1 c6
          refine lv_iconst (v := (-1)) hx hb dX3_letAllCome_33 (by decide) ?_
          exact N34 x4_ x5_ (-1) e_taken e_took _ _ _ h hP hD hS (lv_sub hl [0, 1, 2, 3, 4, 5] rfl)
        · have h := h.2 c6
          refine lv_aload_n hx hb dX3_letAllCome_22 rfl (lv_at hl 0 rfl) ?_
          refine lv_iload hx hb dX3_letAllCome_23 (lv_at hl 5 rfl) ?_
          refine lv_iload hx hb dX3_letAllCome_25 (lv_at hl 4 rfl) ?_
          refine cGoI (wo := fun u => wNight n0 aN C ns na nl ++ ([cYear e0 e1 e2 C e_isThere e_taken e_took])) (cRunV (As := [.int x5_, .int x4_]) (rest := []) ⟨hx, hb, hml, hown, hw⟩ hK hN hP hD [0, 1, 2] rfl rfl (k_X3_pick l D C _ n0 aN  ns na nl x5_ x4_ h) (cwV 2 hw (goodV mw_4_49 mw_3_238 mw_s44 mw_1_11 mw_3_239) rfl rfl rfl (by decide +kernel) ⟨Nat.le_of_ble_eq_true rfl, Nat.le_of_ble_eq_true rfl⟩) rfl rfl rfl hl.1 rfl (Nat.le_of_ble_eq_true rfl) dX3_letAllCome_27 ⟨Nat.zero_le _, Nat.zero_le _⟩) hP hD hS hA [0, 1, 2] [3] [1, 2, 3, 0] rfl rfl rfl (by decide) rfl (fun _ => rfl) (fun r7 u H locs h hP hD hS => ?_)
          have hP : va_P D vwCl (List.flatten (wNight n0 aN C ns na nl ++ ([cYear e0 e1 e2 C e_isThere e_taken e_took]))) H := hP
          have hD : va_D A (List.flatten (wNight n0 aN C ns na nl ++ ([cYear e0 e1 e2 C e_isThere e_taken e_took]))) := hD
          refine lv_goto (tgt := 34) hx hb dX3_letAllCome_30 (by decide) ?_
          exact N34 x4_ x5_ r7 e_taken e_took _ _ _ h hP hD hS (lv_sub hl [0, 1, 2, 3, 4, 5] rfl)
  refine lv_iconst (v := 0) hx hb dX3_letAllCome_0 (by decide) ?_
  refine lv_istore (lv' := [(4, .int 0), (0, .ref n0), (1, .int p1), (2, .int p2), (3, .ref e0)]) hx hb dX3_letAllCome_1 hl (by decide) rfl (fun ls hl => ?_)
  refine lv_iconst (v := 0) hx hb dX3_letAllCome_3 (by decide) ?_
  refine lv_istore (lv' := [(5, .int 0), (4, .int 0), (0, .ref n0), (1, .int p1), (2, .int p2), (3, .ref e0)]) hx hb dX3_letAllCome_4 hl (by decide) rfl (fun ls hl => ?_)
  obtain ⟨n, h⟩ := h
  exact N6  n 0 0 e_taken e_took _ _ _ h hP hD hS (lv_sub hl [2, 3, 4, 5, 1, 0] rfl)
abbrev vsX3_drawYear : List Cond := Cond.code yX3_drawYear cX3_drawYear 10 (some .int) :: WS
abbrev rmX3_drawYear : Room := { frames := 2, cells := 0, slots := 0, locals := 51 }
set_option maxHeartbeats 4000000 in
set_option maxRecDepth 100000 in
theorem k_X3_drawYear (l : Launch) (D : va_G) (C : Nat → ClassId) (sz : Nat) (n0 : Nat) (aN : Nat → Nat) (aR : Nat → Nat) (e0 : Nat) (e1 : Nat) (e2 : Nat)  (ns : Nat → Int32) (na : Nat → Nat → Int32) (nl : Nat → Nat → Int64) (rs : Nat → Int32) (ra : Nat → Nat → Int32) (e_isThere : Int32) (e_taken : Nat → Int32) (e_took : Nat → Int32) (p2 : Int32) {post : Int32 → (Int32) → (Nat → Int32) → (Nat → Int32) → Prop} (h : P_X3_drawYear ns na rs ra e_isThere e_taken e_took p2 post) : Met l yX3_drawYear vsX3_drawYear rmX3_drawYear (cPre D C [.ref n0, .ref (aR 0), .int p2, .ref e0] sz (wNight n0 aN C ns na nl ++ (wRail aR C rs ra ++ ([cYear e0 e1 e2 C e_isThere e_taken e_took])))) (cQi D (fun (r : Int32) (u : (Int32) × (Nat → Int32) × (Nat → Int32)) => post r u.1 u.2.1 u.2.2) (fun u => wNight n0 aN C ns na nl ++ (wRail aR C rs ra ++ ([cYear e0 e1 e2 C u.1 u.2.1 u.2.2]))) (va_A (List.flatten (wNight n0 aN C ns na nl ++ (wRail aR C rs ra ++ ([cYear e0 e1 e2 C e_isThere e_taken e_took])))) sz)) 0 0 (va_A (List.flatten (wNight n0 aN C ns na nl ++ (wRail aR C rs ra ++ ([cYear e0 e1 e2 C e_isThere e_taken e_took])))) sz) := by
  refine cStart (QA := fun A => cQi D (fun (r : Int32) (u : (Int32) × (Nat → Int32) × (Nat → Int32)) => post r u.1 u.2.1 u.2.2) (fun u => wNight n0 aN C ns na nl ++ (wRail aR C rs ra ++ ([cYear e0 e1 e2 C u.1 u.2.1 u.2.2]))) A) (cc := cX3_drawYear) (maxL := 10) (ret := (some .int)) (by decide) (Nat.le_of_ble_eq_true rfl) ?_
  intro p e s m args below meth c A ls hx hb hr hml hown hw hlocks hname hK hN hA hP hD hS hl
  generalize hQ : MQ below _ args s 0 0 A = Q
  have hl : lv_has ls 10 [(0, .ref n0), (1, .ref (aR 0)), (2, .int p2), (3, .ref e0)] := hl
  have hn75 : (Cond.fieldLinkNest "LockRail$Night" 75 "LockRail$Rail" "thieves" "LLockRail$Thieves;" "LockRail").before args s = true := hN.f 62 rfl
  have hn79 : (Cond.fieldLinkNest "LockRail$Night" 79 "LockRail$Thieves" "count" "I" "LockRail").before args s = true := hN.f 33 rfl
  have hn107 : (Cond.fieldLinkNest "LockRail$Night" 107 "LockRail$Thieves" "comes" "[I" "LockRail").before args s = true := hN.f 37 rfl
  have hn154 : (Cond.fieldLinkNest "LockRail$Night" 154 "LockRail$Rail" "nights" "I" "LockRail").before args s = true := hN.f 51 rfl
  obtain ⟨H, hH⟩ : ∃ H, H = s.heap := ⟨_, rfl⟩
  obtain ⟨locs, hlo⟩ : ∃ z : List Loc, z = [] := ⟨_, rfl⟩
  have hP : va_P D vwCl (List.flatten (wNight n0 aN C ns na nl ++ (wRail aR C rs ra ++ ([cYear e0 e1 e2 C e_isThere e_taken e_took])))) H := by rw [hH]; exact hP
  have hS : va_S A s.heap H locs := by rw [hH, hlo]; exact hS
  rw [show W p l e rmX3_drawYear s m args below meth c s.heap [] 0 0 Q (F0 m 0 ls []) = W p l e rmX3_drawYear s m args below meth c H locs 0 0 Q (F0 m 0 ls []) from by rw [hH, hlo]]
  have N14 : ∀ (e_isThere : Int32) (n14 : Nat) (x4_ : Int64) (x6_ : Int32) (x7_ : Int32) (e_taken : Nat → Int32) (e_took : Nat → Int32) (H : Heap) (locs : List Loc) (ls : Array Slot), P_X3_drawYear_14 ns na rs ra p2 post  e_isThere n14 x4_ x6_ x7_ e_taken e_took → va_P D vwCl (List.flatten (wNight n0 aN C ns na nl ++ (wRail aR C rs ra ++ ([cYear e0 e1 e2 C e_isThere e_taken e_took])))) H → va_D A (List.flatten (wNight n0 aN C ns na nl ++ (wRail aR C rs ra ++ ([cYear e0 e1 e2 C e_isThere e_taken e_took])))) → va_S A s.heap H locs → lv_has ls 10 [(0, .ref n0), (1, .ref (aR 0)), (3, .ref e0), (4, .long x4_), (6, .int x6_), (7, .int x7_)] → W p l e rmX3_drawYear s m args below meth c H locs 0 0 Q (F0 m 14 ls []) := by
    intro e_isThere
    intro n14
    induction n14 with
    | zero => intro x4_ x6_ x7_ e_taken e_took H locs ls h hP hD hS hl; exact False.elim h
    | succ n14 ih14 =>
      have N97 : ∀ (x4_ : Int64) (x6_ : Int32) (x7_ : Int32) (x8_ : Int32) (e_taken : Nat → Int32) (e_took : Nat → Int32) (H : Heap) (locs : List Loc) (ls : Array Slot), P_X3_drawYear_97 ns na rs ra p2 e_isThere post (P_X3_drawYear_14 ns na rs ra p2 post  e_isThere n14) x4_ x6_ x7_ x8_ e_taken e_took → va_P D vwCl (List.flatten (wNight n0 aN C ns na nl ++ (wRail aR C rs ra ++ ([cYear e0 e1 e2 C e_isThere e_taken e_took])))) H → va_D A (List.flatten (wNight n0 aN C ns na nl ++ (wRail aR C rs ra ++ ([cYear e0 e1 e2 C e_isThere e_taken e_took])))) → va_S A s.heap H locs → lv_has ls 10 [(0, .ref n0), (1, .ref (aR 0)), (3, .ref e0), (4, .long x4_), (6, .int x6_), (7, .int x7_), (8, .int x8_)] → W p l e rmX3_drawYear s m args below meth c H locs 0 0 Q (F0 m 97 ls []) := by
        intro x4_ x6_ x7_ x8_ e_taken e_took H locs ls h hP hD hS hl
        refine lv_iload hx hb dX3_drawYear_97 (lv_at hl 4 rfl) ?_
        refine lv_aload_n hx hb dX3_drawYear_99 rfl (lv_at hl 0 rfl) ?_
        refine lv_iload hx hb dX3_drawYear_100 (lv_at hl 6 rfl) ?_
        refine lv_aload_n hx hb dX3_drawYear_102 rfl (lv_at hl 1 rfl) ?_
        refine va_getN (D := D) (ci := 4) (v := .ref (aR 13)) (C := RX4) (T := TX4) (N := 16) hx hb hw inW_X4 hown hK hP 17 rfl rfl 6 (by decide) hn75 (fun _ h9 => h9) rfl dX3_drawYear_103 ?_
        refine va_getN (D := D) (ci := 9) (v := .int (rs 14)) (C := RX9) (T := TX9) (N := 6) hx hb hw inW_X9 hown hK hP 30 rfl rfl 0 (by decide) hn79 (fun _ h9 => h9) rfl dX3_drawYear_106 ?_
        refine lv_aload_n hx hb dX3_drawYear_109 rfl (lv_at hl 2 rfl) ?_
        refine cGoI (wo := fun u => wNight n0 aN C ns na nl ++ (wRail aR C rs ra ++ ([cYear e0 e1 e2 C e_isThere u.1 u.2]))) (cRunV (As := [.int x8_, .int (rs 14), .ref e0]) (rest := [.int x6_]) ⟨hx, hb, hml, hown, hw⟩ hK hN hP hD [0, 1, 2, 9] rfl rfl (k_X3_letAllCome l D C _ n0 aN e0 e1 e2  ns na nl e_isThere e_taken e_took x8_ (rs 14) h) (cwV 3 hw (goodV mw_5_173 mw_5_175 mw_s95 mw_1_11 mw_5_176) rfl rfl rfl (by decide +kernel) ⟨Nat.le_of_ble_eq_true rfl, Nat.le_of_ble_eq_true rfl⟩) rfl rfl rfl hl.1 rfl (Nat.le_of_ble_eq_true rfl) dX3_drawYear_110 ⟨Nat.zero_le _, Nat.zero_le _⟩) hP hD hS hA [0, 1, 2, 9] [3, 4, 5, 6, 7, 8] [6, 7, 8, 0, 1, 2, 3, 4, 5, 9] rfl rfl rfl (by decide) rfl (fun _ => rfl) (fun r3 u H locs h hP hD hS => ?_)
        obtain ⟨tak_1, too_2⟩ := u
        have hP : va_P D vwCl (List.flatten (wNight n0 aN C ns na nl ++ (wRail aR C rs ra ++ ([cYear e0 e1 e2 C e_isThere tak_1 too_2])))) H := hP
        have hD : va_D A (List.flatten (wNight n0 aN C ns na nl ++ (wRail aR C rs ra ++ ([cYear e0 e1 e2 C e_isThere tak_1 too_2])))) := hD
        refine lv_iadd hx hb dX3_drawYear_113 ?_
        refine lv_topi (fun x4 ex4 => ?_)
        have h := h x4 ex4
        refine lv_istore (lv' := [(6, .int x4), (0, .ref n0), (1, .ref (aR 0)), (3, .ref e0), (4, .long x4_), (7, .int x7_), (8, .int x8_)]) hx hb dX3_drawYear_114 hl (by decide) rfl (fun ls hl => ?_)
        refine lv_iinc (v := (x7_ + 1)) (lv' := [(7, .int (x7_ + 1)), (6, .int x4), (0, .ref n0), (1, .ref (aR 0)), (3, .ref e0), (4, .long x4_), (8, .int x8_)]) hx hb dX3_drawYear_116 hl (k := 5) rfl rfl (by decide) rfl (fun ls hl => ?_)
        refine lv_goto (tgt := 14) hx hb dX3_drawYear_119 (by decide) ?_
        exact ih14 x4_ x4 (x7_ + 1) tak_1 too_2 _ _ _ h hP hD hS (lv_sub hl [2, 3, 4, 5, 1, 0] rfl)
      have N29 : ∀ (x6_ : Int32) (x7_ : Int32) (e_taken : Nat → Int32) (e_took : Nat → Int32) (n29 : Nat) (x4_ : Int64) (x8_ : Int32) (x9_ : Int32) (H : Heap) (locs : List Loc) (ls : Array Slot), P_X3_drawYear_29 ns na rs ra p2 e_isThere post (fun (x4_ : Int64) (x6_ : Int32) (x7_ : Int32) (x8_ : Int32) (e_taken : Nat → Int32) (e_took : Nat → Int32) => P_X3_drawYear_97 ns na rs ra p2 e_isThere post (P_X3_drawYear_14 ns na rs ra p2 post  e_isThere n14) x4_ x6_ x7_ x8_ e_taken e_took) x6_ x7_ e_taken e_took n29 x4_ x8_ x9_ → va_P D vwCl (List.flatten (wNight n0 aN C ns na nl ++ (wRail aR C rs ra ++ ([cYear e0 e1 e2 C e_isThere e_taken e_took])))) H → va_D A (List.flatten (wNight n0 aN C ns na nl ++ (wRail aR C rs ra ++ ([cYear e0 e1 e2 C e_isThere e_taken e_took])))) → va_S A s.heap H locs → lv_has ls 10 [(0, .ref n0), (1, .ref (aR 0)), (3, .ref e0), (4, .long x4_), (6, .int x6_), (7, .int x7_), (8, .int x8_), (9, .int x9_)] → W p l e rmX3_drawYear s m args below meth c H locs 0 0 Q (F0 m 29 ls []) := by
        intro x6_ x7_ e_taken e_took
        intro n29
        induction n29 with
        | zero => intro x4_ x8_ x9_ H locs ls h hP hD hS hl; exact False.elim h
        | succ n29 ih29 =>
          intro x4_ x8_ x9_ H locs ls h hP hD hS hl
          refine lv_iload hx hb dX3_drawYear_29 (lv_at hl 7 rfl) ?_
          refine lv_aload_n hx hb dX3_drawYear_31 rfl (lv_at hl 1 rfl) ?_
          refine va_getN (D := D) (ci := 4) (v := .ref (aR 13)) (C := RX4) (T := TX4) (N := 16) hx hb hw inW_X4 hown hK hP 17 rfl rfl 6 (by decide) hn75 (fun _ h9 => h9) rfl dX3_drawYear_32 ?_
          refine va_getN (D := D) (ci := 9) (v := .int (rs 14)) (C := RX9) (T := TX9) (N := 6) hx hb hw inW_X9 hown hK hP 30 rfl rfl 0 (by decide) hn79 (fun _ h9 => h9) rfl dX3_drawYear_35 ?_
          refine lv_icmp_ge (tgt := 97) hx hb dX3_drawYear_38 (by decide) (fun c5 => ?_) (fun c5 => ?_)
          · have h := h.1 c5
            exact N97 x4_ x6_ x7_ x8_ e_taken e_took _ _ _ h hP hD hS (lv_sub hl [0, 1, 2, 3, 4, 5, 6] rfl)
          · have h := h.2 c5
            refine lv_ldc2 (v := 1103515245) hx hb hown (hw _ mw_5_169) dX3_drawYear_41 ?_
            refine lv_lload hx hb dX3_drawYear_44 (lv_at hl 3 rfl) ?_
            refine lv_lmul hx hb dX3_drawYear_46 ?_
            refine lv_ldc2 (v := 12345) hx hb hown (hw _ mw_5_170) dX3_drawYear_47 ?_
            refine lv_ladd hx hb dX3_drawYear_50 ?_
            refine lv_ldc2 (v := 2147483647) hx hb hown (hw _ mw_5_171) dX3_drawYear_51 ?_
            refine lv_land hx hb dX3_drawYear_54 ?_
            refine lv_topl (fun x6 ex6 => ?_)
            have h := h x6 ex6
            refine lv_lstore (lv' := [(4, .long x6), (0, .ref n0), (1, .ref (aR 0)), (3, .ref e0), (6, .int x6_), (7, .int x7_), (8, .int x8_), (9, .int x9_)]) hx hb dX3_drawYear_55 hl (by decide) rfl (fun ls hl => ?_)
            refine lv_lload hx hb dX3_drawYear_57 (lv_at hl 0 rfl) ?_
            refine lv_ldc2 (v := 65536) hx hb hown (hw _ mw_5_172) dX3_drawYear_59 ?_
            refine lv_ldiv hx hb dX3_drawYear_62 (by decide) ?_
            refine lv_ldc2 (v := 100) hx hb hown (hw _ mw_4_50) dX3_drawYear_63 ?_
            refine lv_lrem hx hb dX3_drawYear_66 (by decide) ?_
            refine lv_aload_n hx hb dX3_drawYear_67 rfl (lv_at hl 2 rfl) ?_
            refine va_getN (D := D) (ci := 4) (v := .ref (aR 13)) (C := RX4) (T := TX4) (N := 16) hx hb hw inW_X4 hown hK hP 17 rfl rfl 6 (by decide) hn75 (fun _ h9 => h9) rfl dX3_drawYear_68 ?_
            refine va_getN (D := D) (ci := 9) (v := .ref (aR 15)) (C := RX9) (T := TX9) (N := 6) hx hb hw inW_X9 hown hK hP 30 rfl rfl 2 (by decide) hn107 (fun _ h9 => h9) rfl dX3_drawYear_71 ?_
            refine lv_iload hx hb dX3_drawYear_74 (lv_at hl 7 rfl) ?_
            refine cIald hx hb hK hP 32 0 rfl rfl x9_.toNatClampNeg rfl h.1 dX3_drawYear_76 ?_
            have h := h.2
            refine lv_i2l hx hb dX3_drawYear_77 rfl ?_
            refine W.lcmp hx hb dX3_drawYear_78 ?_
            refine lv_if_ge (tgt := 91) hx hb dX3_drawYear_79 (by decide) (fun c7 => ?_) (fun c7 => ?_)
            · have c7 : ((ra 10 x9_.toNatClampNeg).toInt64) ≤ ((x6 / 65536) - (x6 / 65536) / 100 * 100) := (lg_cmp_ge _ _).mp c7
              have h := h.1 c7
              refine lv_iinc (v := (x9_ + 1)) (lv' := [(9, .int (x9_ + 1)), (4, .long x6), (0, .ref n0), (1, .ref (aR 0)), (3, .ref e0), (6, .int x6_), (7, .int x7_), (8, .int x8_)]) hx hb dX3_drawYear_91 hl (k := 7) rfl rfl (by decide) rfl (fun ls hl => ?_)
              refine lv_goto (tgt := 29) hx hb dX3_drawYear_94 (by decide) ?_
              exact ih29 x6 x8_ (x9_ + 1) _ _ _ h hP hD hS (lv_sub hl [2, 3, 4, 1, 5, 6, 7, 0] rfl)
            · have c7 : ¬ ((ra 10 x9_.toNatClampNeg).toInt64) ≤ ((x6 / 65536) - (x6 / 65536) / 100 * 100) := fun q => c7 ((lg_cmp_ge _ _).mpr q)
              have h := h.2 c7
              refine lv_iload hx hb dX3_drawYear_82 (lv_at hl 6 rfl) ?_
              refine lv_iconst (v := 1) hx hb dX3_drawYear_84 (by decide) ?_
              refine lv_iload hx hb dX3_drawYear_85 (lv_at hl 7 rfl) ?_
              refine lv_ishl hx hb dX3_drawYear_87 ?_
              refine lv_ior hx hb dX3_drawYear_88 ?_
              refine lv_topi (fun x8 ex8 => ?_)
              have h := h x8 ex8
              refine lv_istore (lv' := [(8, .int x8), (4, .long x6), (0, .ref n0), (1, .ref (aR 0)), (3, .ref e0), (6, .int x6_), (7, .int x7_), (9, .int x9_)]) hx hb dX3_drawYear_89 hl (by decide) rfl (fun ls hl => ?_)
              refine lv_iinc (v := (x9_ + 1)) (lv' := [(9, .int (x9_ + 1)), (8, .int x8), (4, .long x6), (0, .ref n0), (1, .ref (aR 0)), (3, .ref e0), (6, .int x6_), (7, .int x7_)]) hx hb dX3_drawYear_91 hl (k := 7) rfl rfl (by decide) rfl (fun ls hl => ?_)
              refine lv_goto (tgt := 29) hx hb dX3_drawYear_94 (by decide) ?_
              exact ih29 x6 x8 (x9_ + 1) _ _ _ h hP hD hS (lv_sub hl [3, 4, 5, 2, 6, 7, 1, 0] rfl)
      intro x4_ x6_ x7_ e_taken e_took H locs ls h hP hD hS hl
      refine lv_iload hx hb dX3_drawYear_14 (lv_at hl 5 rfl) ?_
      refine lv_aload_n hx hb dX3_drawYear_16 rfl (lv_at hl 1 rfl) ?_
      refine va_getN (D := D) (ci := 4) (v := .int (rs 1)) (C := RX4) (T := TX4) (N := 16) hx hb hw inW_X4 hown hK hP 17 rfl rfl 1 (by decide) hn154 (fun _ h9 => h9) rfl dX3_drawYear_17 ?_
      refine lv_icmp_ge (tgt := 122) hx hb dX3_drawYear_20 (by decide) (fun c9 => ?_) (fun c9 => ?_)
      · have h := h.1 c9
        refine lv_iload hx hb dX3_drawYear_122 (lv_at hl 4 rfl) ?_
        rw [← hQ]
        exact cRetI (v := x6_) (e_isThere, e_taken, e_took) hx hb hr hlocks hS hP hD h dX3_drawYear_124
      · have h := h.2 c9
        refine lv_iconst (v := 0) hx hb dX3_drawYear_23 (by decide) ?_
        refine lv_istore (lv' := [(8, .int 0), (0, .ref n0), (1, .ref (aR 0)), (3, .ref e0), (4, .long x4_), (6, .int x6_), (7, .int x7_)]) hx hb dX3_drawYear_24 hl (by decide) rfl (fun ls hl => ?_)
        refine lv_iconst (v := 0) hx hb dX3_drawYear_26 (by decide) ?_
        refine lv_istore (lv' := [(9, .int 0), (8, .int 0), (0, .ref n0), (1, .ref (aR 0)), (3, .ref e0), (4, .long x4_), (6, .int x6_), (7, .int x7_)]) hx hb dX3_drawYear_27 hl (by decide) rfl (fun ls hl => ?_)
        obtain ⟨n, h⟩ := h
        exact N29 x6_ x7_ e_taken e_took n x4_ 0 0 _ _ _ h hP hD hS (lv_sub hl [2, 3, 4, 5, 6, 7, 1, 0] rfl)
  refine lv_aload_n hx hb dX3_drawYear_0 rfl (lv_at hl 3 rfl) ?_
  refine cGoV (wo := fun u => wNight n0 aN C ns na nl ++ (wRail aR C rs ra ++ ([cYear e0 e1 e2 C u.1 u.2.1 u.2.2]))) (cRunVN (As := []) (rest := []) ⟨hx, hb, hml, hown, hw⟩ hK hN hP hD [9] rfl rfl (k_X10_begin l D C _ e0 e1 e2  e_isThere e_taken e_took  h) ⟨va_cnB 0 hw (goodN mw_5_168) rfl rfl rfl (hN.m 72 rfl) (hw _ mw_1_9) (by decide +kernel) ⟨Nat.le_of_ble_eq_true rfl, Nat.le_of_ble_eq_true rfl⟩, hw _ mw_5_167, hw _ mw_s94⟩ rfl rfl rfl hl.1 rfl (Nat.le_of_ble_eq_true rfl) dX3_drawYear_1 ⟨Nat.zero_le _, Nat.zero_le _⟩) hP hD hS hA [9] [0, 1, 2, 3, 4, 5, 6, 7, 8] [0, 1, 2, 3, 4, 5, 6, 7, 8, 9] rfl rfl rfl (by decide) rfl (fun _ => rfl) (fun u H locs h hP hD hS => ?_)
  obtain ⟨isT_10, tak_11, too_12⟩ := u
  have hP : va_P D vwCl (List.flatten (wNight n0 aN C ns na nl ++ (wRail aR C rs ra ++ ([cYear e0 e1 e2 C isT_10 tak_11 too_12])))) H := hP
  have hD : va_D A (List.flatten (wNight n0 aN C ns na nl ++ (wRail aR C rs ra ++ ([cYear e0 e1 e2 C isT_10 tak_11 too_12])))) := hD
  refine lv_iload_n hx hb dX3_drawYear_4 rfl (lv_at hl 2 rfl) ?_
  refine lv_i2l hx hb dX3_drawYear_5 rfl ?_
  refine lv_topl (fun x13 ex13 => ?_)
  have h := h x13 ex13
  refine lv_lstore (lv' := [(4, .long x13), (0, .ref n0), (1, .ref (aR 0)), (2, .int p2), (3, .ref e0)]) hx hb dX3_drawYear_6 hl (by decide) rfl (fun ls hl => ?_)
  refine lv_iconst (v := 0) hx hb dX3_drawYear_8 (by decide) ?_
  refine lv_istore (lv' := [(6, .int 0), (4, .long x13), (0, .ref n0), (1, .ref (aR 0)), (2, .int p2), (3, .ref e0)]) hx hb dX3_drawYear_9 hl (by decide) rfl (fun ls hl => ?_)
  refine lv_iconst (v := 0) hx hb dX3_drawYear_11 (by decide) ?_
  refine lv_istore (lv' := [(7, .int 0), (6, .int 0), (4, .long x13), (0, .ref n0), (1, .ref (aR 0)), (2, .int p2), (3, .ref e0)]) hx hb dX3_drawYear_12 hl (by decide) rfl (fun ls hl => ?_)
  obtain ⟨n, h⟩ := h
  exact N14 isT_10 n x13 0 0 tak_11 too_12 _ _ _ h hP hD hS (lv_sub hl [3, 4, 6, 2, 1, 0] rfl)
abbrev rmX3_drawYear_al : Room := { frames := 2, cells := 0, slots := 0, locals := 51 }
set_option maxHeartbeats 4000000 in
set_option maxRecDepth 100000 in
theorem k_X3_drawYear_al (l : Launch) (D : va_G) (C : Nat → ClassId) (sz : Nat) (n0 : Nat) (aN : Nat → Nat) (aR : Nat → Nat)  (ns : Nat → Int32) (na : Nat → Nat → Int32) (nl : Nat → Nat → Int64) (rs : Nat → Int32) (ra : Nat → Nat → Int32) (p2 : Int32) {post : Int32 → (Nat → Int32) → (Nat → Nat → Int32) → Prop} (h : P_X3_drawYear_al ns na rs ra p2 post) : Met l yX3_drawYear vsX3_drawYear rmX3_drawYear_al (cPre D C [.ref n0, .ref (aR 0), .int p2, .ref (aR 19)] sz (wNight n0 aN C ns na nl ++ (wRail aR C rs ra))) (cQi D (fun (r : Int32) (u : (Nat → Int32) × (Nat → Nat → Int32)) => post r u.1 u.2) (fun u => wNight n0 aN C ns na nl ++ (wRail aR C u.1 u.2)) (va_A (List.flatten (wNight n0 aN C ns na nl ++ (wRail aR C rs ra))) sz)) 0 0 (va_A (List.flatten (wNight n0 aN C ns na nl ++ (wRail aR C rs ra))) sz) := by
  refine cStart (QA := fun A => cQi D (fun (r : Int32) (u : (Nat → Int32) × (Nat → Nat → Int32)) => post r u.1 u.2) (fun u => wNight n0 aN C ns na nl ++ (wRail aR C u.1 u.2)) A) (cc := cX3_drawYear) (maxL := 10) (ret := (some .int)) (by decide) (Nat.le_of_ble_eq_true rfl) ?_
  intro p e s m args below meth c A ls hx hb hr hml hown hw hlocks hname hK hN hA hP hD hS hl
  generalize hQ : MQ below _ args s 0 0 A = Q
  have hl : lv_has ls 10 [(0, .ref n0), (1, .ref (aR 0)), (2, .int p2), (3, .ref (aR 19))] := hl
  have hn75 : (Cond.fieldLinkNest "LockRail$Night" 75 "LockRail$Rail" "thieves" "LLockRail$Thieves;" "LockRail").before args s = true := hN.f 62 rfl
  have hn79 : (Cond.fieldLinkNest "LockRail$Night" 79 "LockRail$Thieves" "count" "I" "LockRail").before args s = true := hN.f 33 rfl
  have hn107 : (Cond.fieldLinkNest "LockRail$Night" 107 "LockRail$Thieves" "comes" "[I" "LockRail").before args s = true := hN.f 37 rfl
  have hn154 : (Cond.fieldLinkNest "LockRail$Night" 154 "LockRail$Rail" "nights" "I" "LockRail").before args s = true := hN.f 51 rfl
  obtain ⟨H, hH⟩ : ∃ H, H = s.heap := ⟨_, rfl⟩
  obtain ⟨locs, hlo⟩ : ∃ z : List Loc, z = [] := ⟨_, rfl⟩
  have hP : va_P D vwCl (List.flatten (wNight n0 aN C ns na nl ++ (wRail aR C rs ra))) H := by rw [hH]; exact hP
  have hS : va_S A s.heap H locs := by rw [hH, hlo]; exact hS
  rw [show W p l e rmX3_drawYear_al s m args below meth c s.heap [] 0 0 Q (F0 m 0 ls []) = W p l e rmX3_drawYear_al s m args below meth c H locs 0 0 Q (F0 m 0 ls []) from by rw [hH, hlo]]
  have N14 : ∀ (rs : Nat → Int32) (n14 : Nat) (x4_ : Int64) (x6_ : Int32) (x7_ : Int32) (ra : Nat → Nat → Int32) (H : Heap) (locs : List Loc) (ls : Array Slot), P_X3_drawYear_al_14 ns na p2 post  rs n14 x4_ x6_ x7_ ra → va_P D vwCl (List.flatten (wNight n0 aN C ns na nl ++ (wRail aR C rs ra))) H → va_D A (List.flatten (wNight n0 aN C ns na nl ++ (wRail aR C rs ra))) → va_S A s.heap H locs → lv_has ls 10 [(0, .ref n0), (1, .ref (aR 0)), (3, .ref (aR 19)), (4, .long x4_), (6, .int x6_), (7, .int x7_)] → W p l e rmX3_drawYear_al s m args below meth c H locs 0 0 Q (F0 m 14 ls []) := by
    intro rs
    intro n14
    induction n14 with
    | zero => intro x4_ x6_ x7_ ra H locs ls h hP hD hS hl; exact False.elim h
    | succ n14 ih14 =>
      have N97 : ∀ (x4_ : Int64) (x6_ : Int32) (x7_ : Int32) (x8_ : Int32) (ra : Nat → Nat → Int32) (H : Heap) (locs : List Loc) (ls : Array Slot), P_X3_drawYear_al_97 ns na p2 rs post (P_X3_drawYear_al_14 ns na p2 post  rs n14) x4_ x6_ x7_ x8_ ra → va_P D vwCl (List.flatten (wNight n0 aN C ns na nl ++ (wRail aR C rs ra))) H → va_D A (List.flatten (wNight n0 aN C ns na nl ++ (wRail aR C rs ra))) → va_S A s.heap H locs → lv_has ls 10 [(0, .ref n0), (1, .ref (aR 0)), (3, .ref (aR 19)), (4, .long x4_), (6, .int x6_), (7, .int x7_), (8, .int x8_)] → W p l e rmX3_drawYear_al s m args below meth c H locs 0 0 Q (F0 m 97 ls []) := by
        intro x4_ x6_ x7_ x8_ ra H locs ls h hP hD hS hl
        refine lv_iload hx hb dX3_drawYear_97 (lv_at hl 4 rfl) ?_
        refine lv_aload_n hx hb dX3_drawYear_99 rfl (lv_at hl 0 rfl) ?_
        refine lv_iload hx hb dX3_drawYear_100 (lv_at hl 6 rfl) ?_
        refine lv_aload_n hx hb dX3_drawYear_102 rfl (lv_at hl 1 rfl) ?_
        refine va_getN (D := D) (ci := 4) (v := .ref (aR 13)) (C := RX4) (T := TX4) (N := 16) hx hb hw inW_X4 hown hK hP 17 rfl rfl 6 (by decide) hn75 (fun _ h9 => h9) rfl dX3_drawYear_103 ?_
        refine va_getN (D := D) (ci := 9) (v := .int (rs 14)) (C := RX9) (T := TX9) (N := 6) hx hb hw inW_X9 hown hK hP 30 rfl rfl 0 (by decide) hn79 (fun _ h9 => h9) rfl dX3_drawYear_106 ?_
        refine lv_aload_n hx hb dX3_drawYear_109 rfl (lv_at hl 2 rfl) ?_
        refine cGoI (wo := fun u => wNight n0 aN C ns na nl ++ (wRail aR C rs (va_up (va_up ra 14 u.1) 15 u.2))) (cRunV (As := [.int x8_, .int (rs 14), .ref (aR 19)]) (rest := [.int x6_]) ⟨hx, hb, hml, hown, hw⟩ hK hN hP hD [0, 1, 2, 8] rfl rfl (k_X3_letAllCome l D C _ n0 aN (aR 19) (aR 20) (aR 21)  ns na nl (rs 15) (ra 14) (ra 15) x8_ (rs 14) h) (cwV 3 hw (goodV mw_5_173 mw_5_175 mw_s95 mw_1_11 mw_5_176) rfl rfl rfl (by decide +kernel) ⟨Nat.le_of_ble_eq_true rfl, Nat.le_of_ble_eq_true rfl⟩) rfl rfl rfl hl.1 rfl (Nat.le_of_ble_eq_true rfl) dX3_drawYear_110 ⟨Nat.zero_le _, Nat.zero_le _⟩) hP hD hS hA [0, 1, 2, 8] [3, 4, 5, 6, 7] [5, 6, 7, 0, 1, 2, 3, 4, 8] rfl rfl rfl (by decide) rfl (fun _ => rfl) (fun r3 u H locs h hP hD hS => ?_)
        obtain ⟨tak_1, too_2⟩ := u
        have hP : va_P D vwCl (List.flatten (wNight n0 aN C ns na nl ++ (wRail aR C rs (va_up (va_up ra 14 tak_1) 15 too_2)))) H := hP
        have hD : va_D A (List.flatten (wNight n0 aN C ns na nl ++ (wRail aR C rs (va_up (va_up ra 14 tak_1) 15 too_2)))) := hD
        refine lv_iadd hx hb dX3_drawYear_113 ?_
        refine lv_topi (fun x4 ex4 => ?_)
        have h := h x4 ex4
        refine lv_istore (lv' := [(6, .int x4), (0, .ref n0), (1, .ref (aR 0)), (3, .ref (aR 19)), (4, .long x4_), (7, .int x7_), (8, .int x8_)]) hx hb dX3_drawYear_114 hl (by decide) rfl (fun ls hl => ?_)
        refine lv_iinc (v := (x7_ + 1)) (lv' := [(7, .int (x7_ + 1)), (6, .int x4), (0, .ref n0), (1, .ref (aR 0)), (3, .ref (aR 19)), (4, .long x4_), (8, .int x8_)]) hx hb dX3_drawYear_116 hl (k := 5) rfl rfl (by decide) rfl (fun ls hl => ?_)
        refine lv_goto (tgt := 14) hx hb dX3_drawYear_119 (by decide) ?_
        exact ih14 x4_ x4 (x7_ + 1) (va_up (va_up ra 14 tak_1) 15 too_2) _ _ _ h hP hD hS (lv_sub hl [2, 3, 4, 5, 1, 0] rfl)
      have N29 : ∀ (x6_ : Int32) (x7_ : Int32) (ra : Nat → Nat → Int32) (n29 : Nat) (x4_ : Int64) (x8_ : Int32) (x9_ : Int32) (H : Heap) (locs : List Loc) (ls : Array Slot), P_X3_drawYear_al_29 ns na p2 rs post (fun (x4_ : Int64) (x6_ : Int32) (x7_ : Int32) (x8_ : Int32) (ra : Nat → Nat → Int32) => P_X3_drawYear_al_97 ns na p2 rs post (P_X3_drawYear_al_14 ns na p2 post  rs n14) x4_ x6_ x7_ x8_ ra) x6_ x7_ ra n29 x4_ x8_ x9_ → va_P D vwCl (List.flatten (wNight n0 aN C ns na nl ++ (wRail aR C rs ra))) H → va_D A (List.flatten (wNight n0 aN C ns na nl ++ (wRail aR C rs ra))) → va_S A s.heap H locs → lv_has ls 10 [(0, .ref n0), (1, .ref (aR 0)), (3, .ref (aR 19)), (4, .long x4_), (6, .int x6_), (7, .int x7_), (8, .int x8_), (9, .int x9_)] → W p l e rmX3_drawYear_al s m args below meth c H locs 0 0 Q (F0 m 29 ls []) := by
        intro x6_ x7_ ra
        intro n29
        induction n29 with
        | zero => intro x4_ x8_ x9_ H locs ls h hP hD hS hl; exact False.elim h
        | succ n29 ih29 =>
          intro x4_ x8_ x9_ H locs ls h hP hD hS hl
          refine lv_iload hx hb dX3_drawYear_29 (lv_at hl 7 rfl) ?_
          refine lv_aload_n hx hb dX3_drawYear_31 rfl (lv_at hl 1 rfl) ?_
          refine va_getN (D := D) (ci := 4) (v := .ref (aR 13)) (C := RX4) (T := TX4) (N := 16) hx hb hw inW_X4 hown hK hP 17 rfl rfl 6 (by decide) hn75 (fun _ h9 => h9) rfl dX3_drawYear_32 ?_
          refine va_getN (D := D) (ci := 9) (v := .int (rs 14)) (C := RX9) (T := TX9) (N := 6) hx hb hw inW_X9 hown hK hP 30 rfl rfl 0 (by decide) hn79 (fun _ h9 => h9) rfl dX3_drawYear_35 ?_
          refine lv_icmp_ge (tgt := 97) hx hb dX3_drawYear_38 (by decide) (fun c5 => ?_) (fun c5 => ?_)
          · have h := h.1 c5
            exact N97 x4_ x6_ x7_ x8_ ra _ _ _ h hP hD hS (lv_sub hl [0, 1, 2, 3, 4, 5, 6] rfl)
          · have h := h.2 c5
            refine lv_ldc2 (v := 1103515245) hx hb hown (hw _ mw_5_169) dX3_drawYear_41 ?_
            refine lv_lload hx hb dX3_drawYear_44 (lv_at hl 3 rfl) ?_
            refine lv_lmul hx hb dX3_drawYear_46 ?_
            refine lv_ldc2 (v := 12345) hx hb hown (hw _ mw_5_170) dX3_drawYear_47 ?_
            refine lv_ladd hx hb dX3_drawYear_50 ?_
            refine lv_ldc2 (v := 2147483647) hx hb hown (hw _ mw_5_171) dX3_drawYear_51 ?_
            refine lv_land hx hb dX3_drawYear_54 ?_
            refine lv_topl (fun x6 ex6 => ?_)
            have h := h x6 ex6
            refine lv_lstore (lv' := [(4, .long x6), (0, .ref n0), (1, .ref (aR 0)), (3, .ref (aR 19)), (6, .int x6_), (7, .int x7_), (8, .int x8_), (9, .int x9_)]) hx hb dX3_drawYear_55 hl (by decide) rfl (fun ls hl => ?_)
            refine lv_lload hx hb dX3_drawYear_57 (lv_at hl 0 rfl) ?_
            refine lv_ldc2 (v := 65536) hx hb hown (hw _ mw_5_172) dX3_drawYear_59 ?_
            refine lv_ldiv hx hb dX3_drawYear_62 (by decide) ?_
            refine lv_ldc2 (v := 100) hx hb hown (hw _ mw_4_50) dX3_drawYear_63 ?_
            refine lv_lrem hx hb dX3_drawYear_66 (by decide) ?_
            refine lv_aload_n hx hb dX3_drawYear_67 rfl (lv_at hl 2 rfl) ?_
            refine va_getN (D := D) (ci := 4) (v := .ref (aR 13)) (C := RX4) (T := TX4) (N := 16) hx hb hw inW_X4 hown hK hP 17 rfl rfl 6 (by decide) hn75 (fun _ h9 => h9) rfl dX3_drawYear_68 ?_
            refine va_getN (D := D) (ci := 9) (v := .ref (aR 15)) (C := RX9) (T := TX9) (N := 6) hx hb hw inW_X9 hown hK hP 30 rfl rfl 2 (by decide) hn107 (fun _ h9 => h9) rfl dX3_drawYear_71 ?_
            refine lv_iload hx hb dX3_drawYear_74 (lv_at hl 7 rfl) ?_
            refine cIald hx hb hK hP 32 0 rfl rfl x9_.toNatClampNeg rfl h.1 dX3_drawYear_76 ?_
            have h := h.2
            refine lv_i2l hx hb dX3_drawYear_77 rfl ?_
            refine W.lcmp hx hb dX3_drawYear_78 ?_
            refine lv_if_ge (tgt := 91) hx hb dX3_drawYear_79 (by decide) (fun c7 => ?_) (fun c7 => ?_)
            · have c7 : ((ra 10 x9_.toNatClampNeg).toInt64) ≤ ((x6 / 65536) - (x6 / 65536) / 100 * 100) := (lg_cmp_ge _ _).mp c7
              have h := h.1 c7
              refine lv_iinc (v := (x9_ + 1)) (lv' := [(9, .int (x9_ + 1)), (4, .long x6), (0, .ref n0), (1, .ref (aR 0)), (3, .ref (aR 19)), (6, .int x6_), (7, .int x7_), (8, .int x8_)]) hx hb dX3_drawYear_91 hl (k := 7) rfl rfl (by decide) rfl (fun ls hl => ?_)
              refine lv_goto (tgt := 29) hx hb dX3_drawYear_94 (by decide) ?_
              exact ih29 x6 x8_ (x9_ + 1) _ _ _ h hP hD hS (lv_sub hl [2, 3, 4, 1, 5, 6, 7, 0] rfl)
            · have c7 : ¬ ((ra 10 x9_.toNatClampNeg).toInt64) ≤ ((x6 / 65536) - (x6 / 65536) / 100 * 100) := fun q => c7 ((lg_cmp_ge _ _).mpr q)
              have h := h.2 c7
              refine lv_iload hx hb dX3_drawYear_82 (lv_at hl 6 rfl) ?_
              refine lv_iconst (v := 1) hx hb dX3_drawYear_84 (by decide) ?_
              refine lv_iload hx hb dX3_drawYear_85 (lv_at hl 7 rfl) ?_
              refine lv_ishl hx hb dX3_drawYear_87 ?_
              refine lv_ior hx hb dX3_drawYear_88 ?_
              refine lv_topi (fun x8 ex8 => ?_)
              have h := h x8 ex8
              refine lv_istore (lv' := [(8, .int x8), (4, .long x6), (0, .ref n0), (1, .ref (aR 0)), (3, .ref (aR 19)), (6, .int x6_), (7, .int x7_), (9, .int x9_)]) hx hb dX3_drawYear_89 hl (by decide) rfl (fun ls hl => ?_)
              refine lv_iinc (v := (x9_ + 1)) (lv' := [(9, .int (x9_ + 1)), (8, .int x8), (4, .long x6), (0, .ref n0), (1, .ref (aR 0)), (3, .ref (aR 19)), (6, .int x6_), (7, .int x7_)]) hx hb dX3_drawYear_91 hl (k := 7) rfl rfl (by decide) rfl (fun ls hl => ?_)
              refine lv_goto (tgt := 29) hx hb dX3_drawYear_94 (by decide) ?_
              exact ih29 x6 x8 (x9_ + 1) _ _ _ h hP hD hS (lv_sub hl [3, 4, 5, 2, 6, 7, 1, 0] rfl)
      intro x4_ x6_ x7_ ra H locs ls h hP hD hS hl
      refine lv_iload hx hb dX3_drawYear_14 (lv_at hl 5 rfl) ?_
      refine lv_aload_n hx hb dX3_drawYear_16 rfl (lv_at hl 1 rfl) ?_
      refine va_getN (D := D) (ci := 4) (v := .int (rs 1)) (C := RX4) (T := TX4) (N := 16) hx hb hw inW_X4 hown hK hP 17 rfl rfl 1 (by decide) hn154 (fun _ h9 => h9) rfl dX3_drawYear_17 ?_
      refine lv_icmp_ge (tgt := 122) hx hb dX3_drawYear_20 (by decide) (fun c9 => ?_) (fun c9 => ?_)
      · have h := h.1 c9
        refine lv_iload hx hb dX3_drawYear_122 (lv_at hl 4 rfl) ?_
        rw [← hQ]
        exact cRetI (v := x6_) (rs, ra) hx hb hr hlocks hS hP hD h dX3_drawYear_124
      · have h := h.2 c9
        refine lv_iconst (v := 0) hx hb dX3_drawYear_23 (by decide) ?_
        refine lv_istore (lv' := [(8, .int 0), (0, .ref n0), (1, .ref (aR 0)), (3, .ref (aR 19)), (4, .long x4_), (6, .int x6_), (7, .int x7_)]) hx hb dX3_drawYear_24 hl (by decide) rfl (fun ls hl => ?_)
        refine lv_iconst (v := 0) hx hb dX3_drawYear_26 (by decide) ?_
        refine lv_istore (lv' := [(9, .int 0), (8, .int 0), (0, .ref n0), (1, .ref (aR 0)), (3, .ref (aR 19)), (4, .long x4_), (6, .int x6_), (7, .int x7_)]) hx hb dX3_drawYear_27 hl (by decide) rfl (fun ls hl => ?_)
        obtain ⟨n, h⟩ := h
        exact N29 x6_ x7_ ra n x4_ 0 0 _ _ _ h hP hD hS (lv_sub hl [2, 3, 4, 5, 6, 7, 1, 0] rfl)
  refine lv_aload_n hx hb dX3_drawYear_0 rfl (lv_at hl 3 rfl) ?_
  refine cGoV (wo := fun u => wNight n0 aN C ns na nl ++ (wRail aR C (va_up rs 15 u.1) (va_up (va_up ra 14 u.2.1) 15 u.2.2))) (cRunVN (As := []) (rest := []) ⟨hx, hb, hml, hown, hw⟩ hK hN hP hD [8] rfl rfl (k_X10_begin l D C _ (aR 19) (aR 20) (aR 21)  (rs 15) (ra 14) (ra 15)  h) ⟨va_cnB 0 hw (goodN mw_5_168) rfl rfl rfl (hN.m 72 rfl) (hw _ mw_1_9) (by decide +kernel) ⟨Nat.le_of_ble_eq_true rfl, Nat.le_of_ble_eq_true rfl⟩, hw _ mw_5_167, hw _ mw_s94⟩ rfl rfl rfl hl.1 rfl (Nat.le_of_ble_eq_true rfl) dX3_drawYear_1 ⟨Nat.zero_le _, Nat.zero_le _⟩) hP hD hS hA [8] [0, 1, 2, 3, 4, 5, 6, 7] [0, 1, 2, 3, 4, 5, 6, 7, 8] rfl rfl rfl (by decide) rfl (fun _ => rfl) (fun u H locs h hP hD hS => ?_)
  obtain ⟨isT_10, tak_11, too_12⟩ := u
  have hP : va_P D vwCl (List.flatten (wNight n0 aN C ns na nl ++ (wRail aR C (va_up rs 15 isT_10) (va_up (va_up ra 14 tak_11) 15 too_12)))) H := hP
  have hD : va_D A (List.flatten (wNight n0 aN C ns na nl ++ (wRail aR C (va_up rs 15 isT_10) (va_up (va_up ra 14 tak_11) 15 too_12)))) := hD
  refine lv_iload_n hx hb dX3_drawYear_4 rfl (lv_at hl 2 rfl) ?_
  refine lv_i2l hx hb dX3_drawYear_5 rfl ?_
  refine lv_topl (fun x13 ex13 => ?_)
  have h := h x13 ex13
  refine lv_lstore (lv' := [(4, .long x13), (0, .ref n0), (1, .ref (aR 0)), (2, .int p2), (3, .ref (aR 19))]) hx hb dX3_drawYear_6 hl (by decide) rfl (fun ls hl => ?_)
  refine lv_iconst (v := 0) hx hb dX3_drawYear_8 (by decide) ?_
  refine lv_istore (lv' := [(6, .int 0), (4, .long x13), (0, .ref n0), (1, .ref (aR 0)), (2, .int p2), (3, .ref (aR 19))]) hx hb dX3_drawYear_9 hl (by decide) rfl (fun ls hl => ?_)
  refine lv_iconst (v := 0) hx hb dX3_drawYear_11 (by decide) ?_
  refine lv_istore (lv' := [(7, .int 0), (6, .int 0), (4, .long x13), (0, .ref n0), (1, .ref (aR 0)), (2, .int p2), (3, .ref (aR 19))]) hx hb dX3_drawYear_12 hl (by decide) rfl (fun ls hl => ?_)
  obtain ⟨n, h⟩ := h
  exact N14 (va_up rs 15 isT_10) n x13 0 0 (va_up (va_up ra 14 tak_11) 15 too_12) _ _ _ h hP hD hS (lv_sub hl [3, 4, 6, 2, 1, 0] rfl)

