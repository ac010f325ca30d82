/-! images on the machine -/
def JR (C : Nat → ClassId) (im : Img) (imf : Nat → Option Nat) (J : Nat → va_W) : Prop := ∀ k, k < 3 → (im k = none ∧ imf k = none ∧ J k = []) ∨ ∃ (q : A1 × A2) (aJ : Nat → Nat), im k = some q ∧ imf k = some (aJ 0) ∧ J k = (wRail aJ C q.1 q.2).flatten
theorem pm_P {D : va_G} {cl : List vw_C} {ws ws' : va_W} {H : Heap} (h : ws.Perm ws') (hP : va_P D cl ws H) : va_P D cl ws' H := ra_P_mem.mpr (fun q hq => ra_P_mem.mp hP q (h.mem_iff.mpr hq))
theorem pm_nd {l l' : List Nat} (h : l.Perm l') (hn : l.Nodup) : l'.Nodup := h.nodup hn
theorem pm_D {A : Nat → Prop} {ws ws' : va_W} (h : ws.Perm ws') (hD : va_D A ws) : va_D A ws' := by
  rw [ra_D_mem] at hD ⊢
  exact ⟨pm_nd (h.map Prod.fst) hD.1, fun q hq => hD.2 q (h.mem_iff.mpr hq)⟩
def jA (J : Nat → va_W) (k : Nat) : va_W := if k = 0 then J 1 else J 0
def jB (J : Nat → va_W) (k : Nat) : va_W := if k = 2 then J 1 else J 2
theorem jo_perm {J : Nat → va_W} {k : Nat} (hk : k < 3) {X Y R : List va_W} (hR : J k = R.flatten) : List.Perm (List.flatten (X ++ (Y ++ [J 0, J 1, J 2]))) (List.flatten (X ++ (Y ++ (R ++ [jA J k, jB J k])))) := by
  have : k = 0 ∨ k = 1 ∨ k = 2 := by omega
  simp only [List.flatten_append, List.flatten_cons, List.flatten_nil, List.append_nil]
  refine List.Perm.append_left _ (List.Perm.append_left _ ?_)
  rw [← hR]
  rcases this with rfl | rfl | rfl
  · exact List.Perm.refl _
  · show List.Perm (J 0 ++ (J 1 ++ J 2)) (J 1 ++ (J 0 ++ J 2))
    rw [← List.append_assoc, ← List.append_assoc]
    exact List.Perm.append_right _ List.perm_append_comm
  · show List.Perm (J 0 ++ (J 1 ++ J 2)) (J 2 ++ (J 0 ++ J 1))
    rw [← List.append_assoc]
    exact List.perm_append_comm
theorem jo_upd {J : Nat → va_W} {k : Nat} (hk : k < 3) (R : va_W) : jA (fun j => if j = k then R else J j) k = jA J k ∧ jB (fun j => if j = k then R else J j) k = jB J k := by
  have : k = 0 ∨ k = 1 ∨ k = 2 := by omega
  rcases this with rfl | rfl | rfl <;> exact ⟨rfl, rfl⟩
theorem nw_perm {X Y : List va_W} {v w : va_W} {x : Nat × va_E} : List.Perm (List.flatten (X ++ (Y ++ [v, w])) ++ [x]) (List.flatten (X ++ (Y ++ ([[x]] ++ [v, w])))) := by
  simp only [List.flatten_append, List.flatten_cons, List.flatten_nil, List.append_nil, List.append_assoc]
  refine List.Perm.append_left _ (List.Perm.append_left _ ?_)
  rw [← List.append_assoc]
  exact List.perm_append_comm
abbrev cW (L0 : Nat) (C : Nat → ClassId) (aU : Nat → Nat) (aR : Nat → Nat) (aR2 : Nat → Nat) (h_images : Nat) (aS : Nat → Nat) (n0 : Nat) (aN : Nat → Nat) (y0 : Nat) (y1 : Nat) (y2 : Nat) (o0 : Nat) (us : A1) (ua : A2) (rs : A1) (ra : A2) (rs2 : A1) (ra2 : A2) (sa : A2) (sl : L2) (ns : A1) (na : A2) (nl : L2) (y_isThere : Int32) (y_taken : A1) (y_took : A1) (o_of : Nat → Int64) : List va_W := [cLockRail L0 (aU 0) (aR 0) (aR2 0) h_images (aS 0) n0 y0 o0 C ] ++ (wReader aU C us ua ++ (wRail aR C rs ra ++ (wRail aR2 C rs2 ra2 ++ (wSlots aS C sa sl ++ (wNight n0 aN C ns na nl ++ ([cYear y0 y1 y2 C y_isThere y_taken y_took] ++ ([cOb o0 C o_of])))))))
abbrev gI (h_images : Nat) (C : Nat → ClassId) (imf : Nat → Option Nat) : va_W := [(h_images, .inl (C 4, 3, .inr (.inr (.inr (.inr imf)))))]
theorem va_upE {f : Nat → Option Nat} {k : Nat} {v : Option Nat} : va_up f k v k = v := by unfold va_up; rw [if_pos rfl]
theorem va_upN {f : Nat → Option Nat} {k j : Nat} {v : Option Nat} (h : j ≠ k) : va_up f k v j = f j := by unfold va_up; rw [if_neg h]
abbrev vsX11_keep : List Cond := Cond.code yX11_keep cX11_keep 3 (some .int) :: WS
abbrev rmX11_keep : Room := { frames := 3, cells := 22, slots := 163, locals := 83 }
set_option maxHeartbeats 4000000 in
set_option maxRecDepth 100000 in
theorem k_X11_keep (l : Launch) (D : va_G) (C : Nat → ClassId) (sz : Nat) (L0 : Nat) (aU : Nat → Nat) (aR : Nat → Nat) (aR2 : Nat → Nat) (h_images : Nat) (aS : Nat → Nat) (n0 : Nat) (aN : Nat → Nat) (y0 : Nat) (y1 : Nat) (y2 : Nat) (o0 : Nat) (us : A1) (ua : A2) (rs : A1) (ra : A2) (rs2 : A1) (ra2 : A2) (sa : A2) (sl : L2) (ns : A1) (na : A2) (nl : L2) (y_isThere : Int32) (y_taken : A1) (y_took : A1) (o_of : Nat → Int64) (imf : Nat → Option Nat) (J : Nat → va_W) (im : Img) (p1 : Int32) {post : Int32 → Img → Prop} (hJ : JR C im imf J) (h : P_X11_keep rs ra im p1 post) : Met l yX11_keep vsX11_keep rmX11_keep (cPre D C [.ref L0, .int p1] sz ((cW L0 C aU aR aR2 h_images aS n0 aN y0 y1 y2 o0 us ua rs ra rs2 ra2 sa sl ns na nl y_isThere y_taken y_took o_of) ++ ([gI h_images C imf] ++ [J 0, J 1, J 2]))) (cQi D (fun (r : Int32) (u : (Nat → Option Nat) × (Nat → va_W) × Img) => post r u.2.2 ∧ JR C u.2.2 u.1 u.2.1) (fun u => ((cW L0 C aU aR aR2 h_images aS n0 aN y0 y1 y2 o0 us ua rs ra rs2 ra2 sa sl ns na nl y_isThere y_taken y_took o_of) ++ ([gI h_images C u.1] ++ [u.2.1 0, u.2.1 1, u.2.1 2]))) (va_A (List.flatten ((cW L0 C aU aR aR2 h_images aS n0 aN y0 y1 y2 o0 us ua rs ra rs2 ra2 sa sl ns na nl y_isThere y_taken y_took o_of) ++ ([gI h_images C imf] ++ [J 0, J 1, J 2]))) sz)) 22 163 (va_A (List.flatten ((cW L0 C aU aR aR2 h_images aS n0 aN y0 y1 y2 o0 us ua rs ra rs2 ra2 sa sl ns na nl y_isThere y_taken y_took o_of) ++ ([gI h_images C imf] ++ [J 0, J 1, J 2]))) sz) := by
  refine cStart (QA := fun A => cQi D (fun (r : Int32) (u : (Nat → Option Nat) × (Nat → va_W) × Img) => post r u.2.2 ∧ JR C u.2.2 u.1 u.2.1) (fun u => ((cW L0 C aU aR aR2 h_images aS n0 aN y0 y1 y2 o0 us ua rs ra rs2 ra2 sa sl ns na nl y_isThere y_taken y_took o_of) ++ ([gI h_images C u.1] ++ [u.2.1 0, u.2.1 1, u.2.1 2]))) A) (cc := cX11_keep) (maxL := 3) (ret := (some .int)) (by decide) (Nat.le_of_ble_eq_true rfl) ?_
  intro p e s m args below meth c A ls hx hb hr hml hown hw hlocks hname hK hN hA hP hD hS hl
  generalize hQ : MQ below _ args s 22 163 A = Q
  have hl : lv_has ls 3 [(0, .ref L0), (1, .int p1)] := hl
  have T36 : ∀ (k : Nat) (aJ : Nat → Nat) (q : A1 × A2) (f : Nat → Option Nat) (H : Heap) (locs : List Loc) (ls : Array Slot) (cells slots : Nat), k < 3 → cells ≤ 22 → slots ≤ 163 → f k = some (aJ 0) → (∀ j, j ≠ k → f j = imf j) → P_X4_copyFrom q.1 q.2 rs ra (fun rs' ra' => post 0 (fun i => if i = k then some (rs', ra') else im i)) → va_P D vwCl (List.flatten ((cW L0 C aU aR aR2 h_images aS n0 aN y0 y1 y2 o0 us ua rs ra rs2 ra2 sa sl ns na nl y_isThere y_taken y_took o_of) ++ ([gI h_images C f] ++ (wRail aJ C q.1 q.2 ++ [jA J k, jB J k])))) H → va_D A (List.flatten ((cW L0 C aU aR aR2 h_images aS n0 aN y0 y1 y2 o0 us ua rs ra rs2 ra2 sa sl ns na nl y_isThere y_taken y_took o_of) ++ ([gI h_images C f] ++ (wRail aJ C q.1 q.2 ++ [jA J k, jB J k])))) → va_S A s.heap H locs → lv_has ls 3 [(2, .ref (aJ 0)), (0, .ref L0), (1, .int p1)] → W p l e rmX11_keep s m args below meth c H locs cells slots Q (F0 m 36 ls []) := by
    intro k aJ q f H locs ls cells slots hk hc1 hc2 f1 f2 h hP hD hS hl
    refine lv_aload_n hx hb dX11_keep_36 rfl (lv_at hl 0 rfl) ?_
    refine lv_aload_n hx hb dX11_keep_37 rfl (lv_at hl 1 rfl) ?_
    refine va_get (D := D) (ci := 11) (v := .ref (aR 0)) (C := RX11) (T := TX11) (N := 8) hx hb hw inW_X11 hown hK hP 0 rfl rfl 1 (by decide) (hw _ mw_2_144) (fun _ h9 => h9) rfl dX11_keep_38 ?_
    refine gs_V30_91 (rs_VN30_68 (As := [.ref (aR 0)]) (rest := []) ⟨hx, hb, hml, hown, hw⟩ hK hN hP hD (k_X4_copyFrom l D C _ aJ aR q.1 q.2 rs ra h) ⟨va_cnB 1 hw (goodN mw_3_126) rfl rfl rfl (hN.m 23 rfl) (hw _ mw_1_4) (by decide +kernel) ⟨Nat.le_of_ble_eq_true rfl, Nat.le_of_ble_eq_true rfl⟩, hw _ mw_3_125, hw _ mw_s26⟩ rfl rfl rfl hl.1 rfl (Nat.le_of_ble_eq_true rfl) dX11_keep_41 ⟨hc1, hc2⟩) hP hD hS hA (fun u H locs h hP hD hS => ?_)
    obtain ⟨rs', ra'⟩ := u
    refine lv_iconst (v := 0) hx hb dX11_keep_44 (by decide) ?_
    refine W.widen (k := 22) (n := 163) hc1 hc2 ?_
    rw [← hQ]
    have hp := (jo_perm (J := fun j => if j = k then (wRail aJ C rs' ra').flatten else J j) hk (X := (cW L0 C aU aR aR2 h_images aS n0 aN y0 y1 y2 o0 us ua rs ra rs2 ra2 sa sl ns na nl y_isThere y_taken y_took o_of)) (Y := [gI h_images C f]) (R := wRail aJ C rs' ra') (if_pos rfl)).symm
    rw [(jo_upd hk _).1, (jo_upd hk _).2] at hp
    refine cRetI (v := 0) (f, (fun j => if j = k then (wRail aJ C rs' ra').flatten else J j), (fun i => if i = k then some (rs', ra') else im i)) hx hb hr hlocks hS (pm_P hp hP) (pm_D hp hD) ⟨h, fun j hj => ?_⟩ dX11_keep_45
    by_cases z : j = k
    · subst z
      exact Or.inr ⟨(rs', ra'), aJ, if_pos rfl, f1, if_pos rfl⟩
    · rcases hJ j hj with ⟨g1, g2, g3⟩ | ⟨q9, aK, g1, g2, g3⟩
      · exact Or.inl ⟨(if_neg z).trans g1, (f2 j z).trans g2, (if_neg z).trans g3⟩
      · exact Or.inr ⟨q9, aK, (if_neg z).trans g1, (f2 j z).trans g2, (if_neg z).trans g3⟩
  refine lv_iload_n hx hb dX11_keep_0 rfl (lv_at hl 1 rfl) ?_
  refine cGoEI (cRunES (As := [.int p1]) (rest := []) ⟨hx, hb, hml, hown, hw⟩ hK hN hP hD (k_X11_isImage l D C _ p1 h) (va_cwS 1 hw (goodS mw_5_144 mw_5_145 mw_1_1 mw_5_146) rfl rfl rfl (by decide +kernel) ⟨Nat.le_of_ble_eq_true rfl, Nat.le_of_ble_eq_true rfl⟩) rfl hl.1 rfl (Nat.le_of_ble_eq_true rfl) dX11_keep_1 ⟨Nat.zero_le _, Nat.zero_le _⟩) hP hD hS hA (fun r1 u H locs h hP hD hS => ?_)
  have hP : va_P D vwCl (List.flatten ((cW L0 C aU aR aR2 h_images aS n0 aN y0 y1 y2 o0 us ua rs ra rs2 ra2 sa sl ns na nl y_isThere y_taken y_took o_of) ++ ([gI h_images C imf] ++ [J 0, J 1, J 2]))) H := hP
  have hD : va_D A (List.flatten ((cW L0 C aU aR aR2 h_images aS n0 aN y0 y1 y2 o0 us ua rs ra rs2 ra2 sa sl ns na nl y_isThere y_taken y_took o_of) ++ ([gI h_images C imf] ++ [J 0, J 1, J 2]))) := hD
  refine lv_if_ne (tgt := 10) hx hb dX11_keep_4 (by decide) (fun c1 => ?_) (fun c1 => ?_)
  · obtain ⟨k, hk, ek, h⟩ := h.1 c1
    have hin : vp_in p1 3 := by rw [ek]; exact vp_in_nI hk (by decide)
    have ec : p1.toNatClampNeg = k := by rw [ek]; exact nI_clamp (by omega)
    refine lv_aload_n hx hb dX11_keep_10 rfl (lv_at hl 0 rfl) ?_
    refine va_get (D := D) (ci := 11) (v := .ref h_images) (C := RX11) (T := TX11) (N := 8) hx hb hw inW_X11 hown hK hP 0 rfl rfl 3 (by decide) (hw _ mw_2_146) (fun _ h9 => h9) rfl dX11_keep_11 ?_
    refine lv_iload_n hx hb dX11_keep_14 rfl (lv_at hl 1 rfl) ?_
    refine va_aldq hx hb hK hP 73 4 rfl rfl hin dX11_keep_15 ?_
    rw [ec]
    rcases hJ k hk with ⟨j1, j2, j3⟩ | ⟨q, aJ, j1, j2, j3⟩
    · rw [j2]
      refine lv_astore_nN (lv' := [(2, .null), (0, .ref L0), (1, .int p1)]) hx hb dX11_keep_16 rfl hl (by decide) rfl (fun ls hl => ?_)
      refine lv_aload_nN hx hb dX11_keep_17 rfl (lv_at hl 0 rfl) ?_
      refine lv_ifnonnullN hx hb dX11_keep_18 ?_
      have hpp := jo_perm (J := J) hk (X := (cW L0 C aU aR aR2 h_images aS n0 aN y0 y1 y2 o0 us ua rs ra rs2 ra2 sa sl ns na nl y_isThere y_taken y_took o_of)) (Y := [gI h_images C imf]) (R := []) j3
      have hP := pm_P hpp hP
      have hD := pm_D hpp hD
      have hP : va_P D vwCl (List.flatten ((cW L0 C aU aR aR2 h_images aS n0 aN y0 y1 y2 o0 us ua rs ra rs2 ra2 sa sl ns na nl y_isThere y_taken y_took o_of) ++ ([gI h_images C imf] ++ [jA J k, jB J k]))) H := hP
      have hD : va_D A (List.flatten ((cW L0 C aU aR aR2 h_images aS n0 aN y0 y1 y2 o0 us ua rs ra rs2 ra2 sa sl ns na nl y_isThere y_taken y_took o_of) ++ ([gI h_images C imf] ++ [jA J k, jB J k]))) := hD
      refine va_new (ci := 4) (fs := [.int 0, .int 0, .int 0, .null, .null, .null, .null, .int 0, .int 0, .int 0, .int 0, .int 0, .int 0, .int 0, .int 0, .null]) (C := RX4) (T := TX4) (N := 16) hx hb hw inW_X4 tyX4 tyX4_ok hown (hw _ mw_1_78) (hw _ mw_1_79) (hw _ mw_1_4) hK hP hD hS hA rfl (fun j hj => by revert j; decide) (Nat.le_of_ble_eq_true rfl) (Nat.le_of_ble_eq_true rfl) dX11_keep_21 (fun q1 H hP hD hS => ?_)
      have hP := pm_P nw_perm hP
      have hD := pm_D nw_perm hD
      have hP : va_P D vwCl (List.flatten ((cW L0 C aU aR aR2 h_images aS n0 aN y0 y1 y2 o0 us ua rs ra rs2 ra2 sa sl ns na nl y_isThere y_taken y_took o_of) ++ ([gI h_images C imf] ++ ([[(q1, .inr (4, [.int 0, .int 0, .int 0, .null, .null, .null, .null, .int 0, .int 0, .int 0, .int 0, .int 0, .int 0, .int 0, .int 0, .null]))]] ++ [jA J k, jB J k])))) H := hP
      have hD : va_D A (List.flatten ((cW L0 C aU aR aR2 h_images aS n0 aN y0 y1 y2 o0 us ua rs ra rs2 ra2 sa sl ns na nl y_isThere y_taken y_took o_of) ++ ([gI h_images C imf] ++ ([[(q1, .inr (4, [.int 0, .int 0, .int 0, .null, .null, .null, .null, .int 0, .int 0, .int 0, .int 0, .int 0, .int 0, .int 0, .int 0, .null]))]] ++ [jA J k, jB J k])))) := hD
      refine lv_dup hx hb dX11_keep_24 rfl ?_
      refine cGoV (wo := fun u => ((cW L0 C aU aR aR2 h_images aS n0 aN y0 y1 y2 o0 us ua rs ra rs2 ra2 sa sl ns na nl y_isThere y_taken y_took o_of) ++ ([gI h_images C imf] ++ (wRail u C (fun _ => 0) (fun _ _ => 0) ++ [jA J k, jB J k])))) (cRunIN (As := []) (rest := [.ref q1]) ⟨hx, hb, hml, hown, hw⟩ hK hN hP hD [22] rfl rfl (i_X4_init l D C _ q1) ⟨va_cnB 0 hw (goodN mw_1_82) rfl rfl rfl (hN.m 2 rfl) (hw _ mw_1_4) (by decide +kernel) ⟨Nat.le_of_ble_eq_true rfl, Nat.le_of_ble_eq_true rfl⟩, rfl, hw _ mw_1_81⟩ rfl hl.1 rfl (Nat.le_of_ble_eq_true rfl) dX11_keep_25 ⟨Nat.le_of_ble_eq_true rfl, Nat.le_of_ble_eq_true rfl⟩) hP hD hS hA [22] [0, 1, 2, 3, 4, 5, 6, 7, 8, 9, 10, 11, 12, 13, 14, 15, 16, 17, 18, 19, 20, 21, 23, 24] [0, 1, 2, 3, 4, 5, 6, 7, 8, 9, 10, 11, 12, 13, 14, 15, 16, 17, 18, 19, 20, 21, 24, 25, 26, 27, 28, 29, 22, 23] rfl rfl rfl (by decide) rfl (fun _ => rfl) (fun u H locs h0 hP9 hD9 hS9 => ?_)
      subst h0
      have hP := hP9
      have hD := hD9
      have hS := hS9
      have hP : va_P D vwCl (List.flatten ((cW L0 C aU aR aR2 h_images aS n0 aN y0 y1 y2 o0 us ua rs ra rs2 ra2 sa sl ns na nl y_isThere y_taken y_took o_of) ++ ([gI h_images C imf] ++ (wRail u C (fun _ => 0) (fun _ _ => 0) ++ [jA J k, jB J k])))) H := hP
      have hD : va_D A (List.flatten ((cW L0 C aU aR aR2 h_images aS n0 aN y0 y1 y2 o0 us ua rs ra rs2 ra2 sa sl ns na nl y_isThere y_taken y_took o_of) ++ ([gI h_images C imf] ++ (wRail u C (fun _ => 0) (fun _ _ => 0) ++ [jA J k, jB J k])))) := hD
      refine lv_astore_n (lv' := [(2, .ref (u 0)), (0, .ref L0), (1, .int p1)]) hx hb dX11_keep_28 rfl hl (by decide) rfl (fun ls hl => ?_)
      refine lv_aload_n hx hb dX11_keep_29 rfl (lv_at hl 1 rfl) ?_
      refine va_get (D := D) (ci := 11) (v := .ref h_images) (C := RX11) (T := TX11) (N := 8) hx hb hw inW_X11 hown hK hP 0 rfl rfl 3 (by decide) (hw _ mw_2_146) (fun _ h9 => h9) rfl dX11_keep_30 ?_
      refine lv_iload_n hx hb dX11_keep_33 rfl (lv_at hl 2 rfl) ?_
      refine lv_aload_n hx hb dX11_keep_34 rfl (lv_at hl 0 rfl) ?_
      refine va_astq hx hb hK hP hD hS 73 4 74 4 rfl rfl rfl rfl hin dX11_keep_35 (fun H locs hP hD hS => ?_)
      rw [ec] at hP hD
      have hP : va_P D vwCl (List.flatten ((cW L0 C aU aR aR2 h_images aS n0 aN y0 y1 y2 o0 us ua rs ra rs2 ra2 sa sl ns na nl y_isThere y_taken y_took o_of) ++ ([gI h_images C (va_up imf k (some (u 0)))] ++ (wRail u C (fun _ => 0) (fun _ _ => 0) ++ [jA J k, jB J k])))) H := hP
      have hD : va_D A (List.flatten ((cW L0 C aU aR aR2 h_images aS n0 aN y0 y1 y2 o0 us ua rs ra rs2 ra2 sa sl ns na nl y_isThere y_taken y_took o_of) ++ ([gI h_images C (va_up imf k (some (u 0)))] ++ (wRail u C (fun _ => 0) (fun _ _ => 0) ++ [jA J k, jB J k])))) := hD
      have e9 : imS im k = (fun _ => 0, fun _ _ => 0) := by unfold imS; rw [j1]
      rw [e9] at h
      exact T36 k u (fun _ => 0, fun _ _ => 0) (va_up imf k (some (u 0))) H locs ls _ _ hk (by decide) (by decide) va_upE (fun j hj => va_upN hj) h hP hD hS hl
    · rw [j2]
      refine lv_astore_n (x := aJ 0) (lv' := [(2, .ref (aJ 0)), (0, .ref L0), (1, .int p1)]) hx hb dX11_keep_16 rfl hl (by decide) rfl (fun ls hl => ?_)
      refine lv_aload_n hx hb dX11_keep_17 rfl (lv_at hl 0 rfl) ?_
      refine lv_ifnonnull (tgt := 36) hx hb dX11_keep_18 (by decide) ?_
      have hpp := jo_perm (J := J) hk (X := (cW L0 C aU aR aR2 h_images aS n0 aN y0 y1 y2 o0 us ua rs ra rs2 ra2 sa sl ns na nl y_isThere y_taken y_took o_of)) (Y := [gI h_images C imf]) (R := wRail aJ C q.1 q.2) j3
      have e9 : imS im k = q := by unfold imS; rw [j1]
      rw [e9] at h
      exact T36 k aJ q imf H locs ls _ _ hk (Nat.zero_le _) (Nat.zero_le _) j2 (fun _ _ => rfl) h (pm_P hpp hP) (pm_D hpp hD) hS hl
  · have h := h.2 c1
    refine lv_bipush (v := (-2)) hx hb dX11_keep_7 (by decide) ?_
    refine W.widen (k := 22) (n := 163) (Nat.zero_le _) (Nat.zero_le _) ?_
    rw [← hQ]
    exact cRetI (v := (-2)) (imf, J, im) hx hb hr hlocks hS hP hD ⟨h, hJ⟩ dX11_keep_9
abbrev vsX11_back : List Cond := Cond.code yX11_back cX11_back 3 (some .int) :: WS
abbrev rmX11_back : Room := { frames := 3, cells := 0, slots := 0, locals := 83 }
set_option maxHeartbeats 4000000 in
set_option maxRecDepth 100000 in
theorem k_X11_back (l : Launch) (D : va_G) (C : Nat → ClassId) (sz : Nat) (L0 : Nat) (aU : Nat → Nat) (aR : Nat → Nat) (aR2 : Nat → Nat) (h_images : Nat) (aS : Nat → Nat) (n0 : Nat) (aN : Nat → Nat) (y0 : Nat) (y1 : Nat) (y2 : Nat) (o0 : Nat) (us : A1) (ua : A2) (rs : A1) (ra : A2) (rs2 : A1) (ra2 : A2) (sa : A2) (sl : L2) (ns : A1) (na : A2) (nl : L2) (y_isThere : Int32) (y_taken : A1) (y_took : A1) (o_of : Nat → Int64) (imf : Nat → Option Nat) (J : Nat → va_W) (im : Img) (p1 : Int32) {post : Int32 → A1 → A2 → Prop} (hJ : JR C im imf J) (h : P_X11_back rs ra im p1 post) : Met l yX11_back vsX11_back rmX11_back (cPre D C [.ref L0, .int p1] sz ((cW L0 C aU aR aR2 h_images aS n0 aN y0 y1 y2 o0 us ua rs ra rs2 ra2 sa sl ns na nl y_isThere y_taken y_took o_of) ++ ([gI h_images C imf] ++ [J 0, J 1, J 2]))) (cQi D (fun (r : Int32) (u : A1 × A2) => post r u.1 u.2) (fun u => ((cW L0 C aU aR aR2 h_images aS n0 aN y0 y1 y2 o0 us ua u.1 u.2 rs2 ra2 sa sl ns na nl y_isThere y_taken y_took o_of) ++ ([gI h_images C imf] ++ [J 0, J 1, J 2]))) (va_A (List.flatten ((cW L0 C aU aR aR2 h_images aS n0 aN y0 y1 y2 o0 us ua rs ra rs2 ra2 sa sl ns na nl y_isThere y_taken y_took o_of) ++ ([gI h_images C imf] ++ [J 0, J 1, J 2]))) sz)) 0 0 (va_A (List.flatten ((cW L0 C aU aR aR2 h_images aS n0 aN y0 y1 y2 o0 us ua rs ra rs2 ra2 sa sl ns na nl y_isThere y_taken y_took o_of) ++ ([gI h_images C imf] ++ [J 0, J 1, J 2]))) sz) := by
  refine cStart (QA := fun A => cQi D (fun (r : Int32) (u : A1 × A2) => post r u.1 u.2) (fun u => ((cW L0 C aU aR aR2 h_images aS n0 aN y0 y1 y2 o0 us ua u.1 u.2 rs2 ra2 sa sl ns na nl y_isThere y_taken y_took o_of) ++ ([gI h_images C imf] ++ [J 0, J 1, J 2]))) A) (cc := cX11_back) (maxL := 3) (ret := (some .int)) (by decide) (Nat.le_of_ble_eq_true rfl) ?_
  intro p e s m args below meth c A ls hx hb hr hml hown hw hlocks hname hK hN hA hP hD hS hl
  generalize hQ : MQ below _ args s 0 0 A = Q
  have hl : lv_has ls 3 [(0, .ref L0), (1, .int p1)] := hl
  refine lv_iload_n hx hb dX11_back_0 rfl (lv_at hl 1 rfl) ?_
  refine cGoEI (cRunES (As := [.int p1]) (rest := []) ⟨hx, hb, hml, hown, hw⟩ hK hN hP hD (k_X11_isImage l D C _ p1 h) (va_cwS 1 hw (goodS mw_5_144 mw_5_145 mw_1_1 mw_5_146) rfl rfl rfl (by decide +kernel) ⟨Nat.le_of_ble_eq_true rfl, Nat.le_of_ble_eq_true rfl⟩) rfl hl.1 rfl (Nat.le_of_ble_eq_true rfl) dX11_back_1 ⟨Nat.zero_le _, Nat.zero_le _⟩) hP hD hS hA (fun r1 u H locs h hP hD hS => ?_)
  have hP : va_P D vwCl (List.flatten ((cW L0 C aU aR aR2 h_images aS n0 aN y0 y1 y2 o0 us ua rs ra rs2 ra2 sa sl ns na nl y_isThere y_taken y_took o_of) ++ ([gI h_images C imf] ++ [J 0, J 1, J 2]))) H := hP
  have hD : va_D A (List.flatten ((cW L0 C aU aR aR2 h_images aS n0 aN y0 y1 y2 o0 us ua rs ra rs2 ra2 sa sl ns na nl y_isThere y_taken y_took o_of) ++ ([gI h_images C imf] ++ [J 0, J 1, J 2]))) := hD
  refine lv_if_ne (tgt := 10) hx hb dX11_back_4 (by decide) (fun c1 => ?_) (fun c1 => ?_)
  · obtain ⟨k, hk, ek, hn, hs⟩ := h.1 c1
    have hin : vp_in p1 3 := by rw [ek]; exact vp_in_nI hk (by decide)
    have ec : p1.toNatClampNeg = k := by rw [ek]; exact nI_clamp (by omega)
    refine lv_aload_n hx hb dX11_back_10 rfl (lv_at hl 0 rfl) ?_
    refine va_get (D := D) (ci := 11) (v := .ref h_images) (C := RX11) (T := TX11) (N := 8) hx hb hw inW_X11 hown hK hP 0 rfl rfl 3 (by decide) (hw _ mw_2_146) (fun _ h9 => h9) rfl dX11_back_11 ?_
    refine lv_iload_n hx hb dX11_back_14 rfl (lv_at hl 1 rfl) ?_
    refine va_aldq hx hb hK hP 73 4 rfl rfl hin dX11_back_15 ?_
    rw [ec]
    rcases hJ k hk with ⟨j1, j2, j3⟩ | ⟨q, aJ, j1, j2, j3⟩
    · rw [j2]
      refine lv_astore_nN (lv' := [(2, .null), (0, .ref L0), (1, .int p1)]) hx hb dX11_back_16 rfl hl (by decide) rfl (fun ls hl => ?_)
      refine lv_aload_nN hx hb dX11_back_17 rfl (lv_at hl 0 rfl) ?_
      refine lv_ifnonnullN hx hb dX11_back_18 ?_
      refine lv_bipush (v := (-6)) hx hb dX11_back_21 (by decide) ?_
      rw [← hQ]
      exact cRetI (v := (-6)) (rs, ra) hx hb hr hlocks hS hP hD (hn j1) dX11_back_23
    · rw [j2]
      refine lv_astore_n (x := aJ 0) (lv' := [(2, .ref (aJ 0)), (0, .ref L0), (1, .int p1)]) hx hb dX11_back_16 rfl hl (by decide) rfl (fun ls hl => ?_)
      refine lv_aload_n hx hb dX11_back_17 rfl (lv_at hl 0 rfl) ?_
      refine lv_ifnonnull (tgt := 24) hx hb dX11_back_18 (by decide) ?_
      have hpp := jo_perm (J := J) hk (X := (cW L0 C aU aR aR2 h_images aS n0 aN y0 y1 y2 o0 us ua rs ra rs2 ra2 sa sl ns na nl y_isThere y_taken y_took o_of)) (Y := [gI h_images C imf]) (R := wRail aJ C q.1 q.2) j3
      have hP := pm_P hpp hP
      have hD := pm_D hpp hD
      have h := hs q j1
      have hP : va_P D vwCl (List.flatten ((cW L0 C aU aR aR2 h_images aS n0 aN y0 y1 y2 o0 us ua rs ra rs2 ra2 sa sl ns na nl y_isThere y_taken y_took o_of) ++ ([gI h_images C imf] ++ (wRail aJ C q.1 q.2 ++ [jA J k, jB J k])))) H := hP
      have hD : va_D A (List.flatten ((cW L0 C aU aR aR2 h_images aS n0 aN y0 y1 y2 o0 us ua rs ra rs2 ra2 sa sl ns na nl y_isThere y_taken y_took o_of) ++ ([gI h_images C imf] ++ (wRail aJ C q.1 q.2 ++ [jA J k, jB J k])))) := hD
      refine lv_aload_n hx hb dX11_back_24 rfl (lv_at hl 1 rfl) ?_
      refine va_get (D := D) (ci := 11) (v := .ref (aR 0)) (C := RX11) (T := TX11) (N := 8) hx hb hw inW_X11 hown hK hP 0 rfl rfl 1 (by decide) (hw _ mw_2_144) (fun _ h9 => h9) rfl dX11_back_25 ?_
      refine lv_aload_n hx hb dX11_back_28 rfl (lv_at hl 0 rfl) ?_
      refine gs_V30_92 (rs_VN30_69 (As := [.ref (aJ 0)]) (rest := []) ⟨hx, hb, hml, hown, hw⟩ hK hN hP hD (k_X4_copyFrom l D C _ aR aJ rs ra q.1 q.2 h) ⟨va_cnB 1 hw (goodN mw_3_126) rfl rfl rfl (hN.m 23 rfl) (hw _ mw_1_4) (by decide +kernel) ⟨Nat.le_of_ble_eq_true rfl, Nat.le_of_ble_eq_true rfl⟩, hw _ mw_3_125, hw _ mw_s26⟩ rfl rfl rfl hl.1 rfl (Nat.le_of_ble_eq_true rfl) dX11_back_29 ⟨Nat.zero_le _, Nat.zero_le _⟩) hP hD hS hA (fun u H locs h hP hD hS => ?_)
      obtain ⟨rs', ra'⟩ := u
      have hP : va_P D vwCl (List.flatten ((cW L0 C aU aR aR2 h_images aS n0 aN y0 y1 y2 o0 us ua rs' ra' rs2 ra2 sa sl ns na nl y_isThere y_taken y_took o_of) ++ ([gI h_images C imf] ++ (wRail aJ C q.1 q.2 ++ [jA J k, jB J k])))) H := hP
      have hD : va_D A (List.flatten ((cW L0 C aU aR aR2 h_images aS n0 aN y0 y1 y2 o0 us ua rs' ra' rs2 ra2 sa sl ns na nl y_isThere y_taken y_took o_of) ++ ([gI h_images C imf] ++ (wRail aJ C q.1 q.2 ++ [jA J k, jB J k])))) := hD
      have hpq := (jo_perm (J := J) hk (X := (cW L0 C aU aR aR2 h_images aS n0 aN y0 y1 y2 o0 us ua rs' ra' rs2 ra2 sa sl ns na nl y_isThere y_taken y_took o_of)) (Y := [gI h_images C imf]) (R := wRail aJ C q.1 q.2) j3).symm
      refine lv_iconst (v := 0) hx hb dX11_back_32 (by decide) ?_
      rw [← hQ]
      exact cRetI (v := 0) (rs', ra') hx hb hr hlocks hS (pm_P hpq hP) (pm_D hpq hD) h dX11_back_33
  · have h := h.2 c1
    refine lv_bipush (v := (-2)) hx hb dX11_back_7 (by decide) ?_
    rw [← hQ]
    exact cRetI (v := (-2)) (rs, ra) hx hb hr hlocks hS hP hD h dX11_back_9
abbrev vsX11_rather : List Cond := Cond.code yX11_rather cX11_rather 6 (some .int) :: WS
abbrev rmX11_rather : Room := { frames := 5, cells := 0, slots := 0, locals := 121 }
set_option maxHeartbeats 4000000 in
set_option maxRecDepth 100000 in
theorem k_X11_rather (l : Launch) (D : va_G) (C : Nat → ClassId) (sz : Nat) (L0 : Nat) (aU : Nat → Nat) (aR : Nat → Nat) (aR2 : Nat → Nat) (h_images : Nat) (aS : Nat → Nat) (n0 : Nat) (aN : Nat → Nat) (y0 : Nat) (y1 : Nat) (y2 : Nat) (o0 : Nat) (us : A1) (ua : A2) (rs : A1) (ra : A2) (rs2 : A1) (ra2 : A2) (sa : A2) (sl : L2) (ns : A1) (na : A2) (nl : L2) (y_isThere : Int32) (y_taken : A1) (y_took : A1) (o_of : Nat → Int64) (imf : Nat → Option Nat) (J : Nat → va_W) (im : Img) (p1 p2 : Int32) {post : Int32 → A1 → A2 → A1 → A2 → Prop} (hJ : JR C im imf J) (h : P_X11_rather rs ra rs2 ra2 ns na im p1 p2 post) : Met l yX11_rather vsX11_rather rmX11_rather (cPre D C [.ref L0, .int p1, .int p2] sz ((cW L0 C aU aR aR2 h_images aS n0 aN y0 y1 y2 o0 us ua rs ra rs2 ra2 sa sl ns na nl y_isThere y_taken y_took o_of) ++ ([gI h_images C imf] ++ [J 0, J 1, J 2]))) (cQi D (fun (r : Int32) (u : A1 × A2 × A1 × A2) => post r u.1 u.2.1 u.2.2.1 u.2.2.2) (fun u => ((cW L0 C aU aR aR2 h_images aS n0 aN y0 y1 y2 o0 us ua rs ra u.1 u.2.1 sa sl u.2.2.1 u.2.2.2 nl y_isThere y_taken y_took o_of) ++ ([gI h_images C imf] ++ [J 0, J 1, J 2]))) (va_A (List.flatten ((cW L0 C aU aR aR2 h_images aS n0 aN y0 y1 y2 o0 us ua rs ra rs2 ra2 sa sl ns na nl y_isThere y_taken y_took o_of) ++ ([gI h_images C imf] ++ [J 0, J 1, J 2]))) sz)) 0 0 (va_A (List.flatten ((cW L0 C aU aR aR2 h_images aS n0 aN y0 y1 y2 o0 us ua rs ra rs2 ra2 sa sl ns na nl y_isThere y_taken y_took o_of) ++ ([gI h_images C imf] ++ [J 0, J 1, J 2]))) sz) := by
  refine cStart (QA := fun A => cQi D (fun (r : Int32) (u : A1 × A2 × A1 × A2) => post r u.1 u.2.1 u.2.2.1 u.2.2.2) (fun u => ((cW L0 C aU aR aR2 h_images aS n0 aN y0 y1 y2 o0 us ua rs ra u.1 u.2.1 sa sl u.2.2.1 u.2.2.2 nl y_isThere y_taken y_took o_of) ++ ([gI h_images C imf] ++ [J 0, J 1, J 2]))) A) (cc := cX11_rather) (maxL := 6) (ret := (some .int)) (by decide) (Nat.le_of_ble_eq_true rfl) ?_
  intro p e s m args below meth c A ls hx hb hr hml hown hw hlocks hname hK hN hA hP hD hS hl
  generalize hQ : MQ below _ args s 0 0 A = Q
  have hl : lv_has ls 6 [(0, .ref L0), (1, .int p1), (2, .int p2)] := hl
  refine lv_aload_n hx hb dX11_rather_0 rfl (lv_at hl 0 rfl) ?_
  refine va_get (D := D) (ci := 11) (v := .ref (aR 0)) (C := RX11) (T := TX11) (N := 8) hx hb hw inW_X11 hown hK hP 0 rfl rfl 1 (by decide) (hw _ mw_2_144) (fun _ h9 => h9) rfl dX11_rather_1 ?_
  refine lv_iload_n hx hb dX11_rather_4 rfl (lv_at hl 1 rfl) ?_
  refine gs_I25_93 (rs_VN25_70 (As := [.int p1]) (rest := []) ⟨hx, hb, hml, hown, hw⟩ hK hN hP hD (k_X4_hasThief l D C _ aR rs ra p1 h) ⟨va_cnB 1 hw (goodN mw_3_191) rfl rfl rfl (hN.m 32 rfl) (hw _ mw_1_4) (by decide +kernel) ⟨Nat.le_of_ble_eq_true rfl, Nat.le_of_ble_eq_true rfl⟩, hw _ mw_3_190, hw _ mw_s35⟩ rfl rfl rfl hl.1 rfl (Nat.le_of_ble_eq_true rfl) dX11_rather_5 ⟨Nat.zero_le _, Nat.zero_le _⟩) hP hD hS hA (fun r1 u H locs h hP hD hS => ?_)
  have hP : va_P D vwCl (List.flatten ((cW L0 C aU aR aR2 h_images aS n0 aN y0 y1 y2 o0 us ua rs ra rs2 ra2 sa sl ns na nl y_isThere y_taken y_took o_of) ++ ([gI h_images C imf] ++ [J 0, J 1, J 2]))) H := hP
  have hD : va_D A (List.flatten ((cW L0 C aU aR aR2 h_images aS n0 aN y0 y1 y2 o0 us ua rs ra rs2 ra2 sa sl ns na nl y_isThere y_taken y_took o_of) ++ ([gI h_images C imf] ++ [J 0, J 1, J 2]))) := hD
  refine lv_if_eq (tgt := 18) hx hb dX11_rather_8 (by decide) (fun c1 => ?_) (fun c1 => ?_)
  · have h := h.1 c1
    refine lv_bipush (v := (-2)) hx hb dX11_rather_18 (by decide) ?_
    rw [← hQ]
    exact cRetI (v := (-2)) (rs2, ra2, ns, na) hx hb hr hlocks hS hP hD h dX11_rather_20
  · have h := h.2 c1
    refine lv_iload_n hx hb dX11_rather_11 rfl (lv_at hl 2 rfl) ?_
    refine cGoEI (cRunES (As := [.int p2]) (rest := []) ⟨hx, hb, hml, hown, hw⟩ hK hN hP hD (k_X11_isImage l D C _ p2 h) (va_cwS 1 hw (goodS mw_5_144 mw_5_145 mw_1_1 mw_5_146) rfl rfl rfl (by decide +kernel) ⟨Nat.le_of_ble_eq_true rfl, Nat.le_of_ble_eq_true rfl⟩) rfl hl.1 rfl (Nat.le_of_ble_eq_true rfl) dX11_rather_12 ⟨Nat.zero_le _, Nat.zero_le _⟩) hP hD hS hA (fun r2 u H locs h hP hD hS => ?_)
    have hP : va_P D vwCl (List.flatten ((cW L0 C aU aR aR2 h_images aS n0 aN y0 y1 y2 o0 us ua rs ra rs2 ra2 sa sl ns na nl y_isThere y_taken y_took o_of) ++ ([gI h_images C imf] ++ [J 0, J 1, J 2]))) H := hP
    have hD : va_D A (List.flatten ((cW L0 C aU aR aR2 h_images aS n0 aN y0 y1 y2 o0 us ua rs ra rs2 ra2 sa sl ns na nl y_isThere y_taken y_took o_of) ++ ([gI h_images C imf] ++ [J 0, J 1, J 2]))) := hD
    refine lv_if_ne (tgt := 21) hx hb dX11_rather_15 (by decide) (fun c2 => ?_) (fun c2 => ?_)
    · obtain ⟨k, hk, ek, hn, hs⟩ := h.1 c2
      have hin : vp_in p2 3 := by rw [ek]; exact vp_in_nI hk (by decide)
      have ec : p2.toNatClampNeg = k := by rw [ek]; exact nI_clamp (by omega)
      refine lv_aload_n hx hb dX11_rather_21 rfl (lv_at hl 0 rfl) ?_
      refine va_get (D := D) (ci := 11) (v := .ref h_images) (C := RX11) (T := TX11) (N := 8) hx hb hw inW_X11 hown hK hP 0 rfl rfl 3 (by decide) (hw _ mw_2_146) (fun _ h9 => h9) rfl dX11_rather_22 ?_
      refine lv_iload_n hx hb dX11_rather_25 rfl (lv_at hl 2 rfl) ?_
      refine va_aldq hx hb hK hP 73 4 rfl rfl hin dX11_rather_26 ?_
      rw [ec]
      rcases hJ k hk with ⟨j1, j2, j3⟩ | ⟨q, aJ, j1, j2, j3⟩
      · rw [j2]
        refine lv_astore_nN (lv' := [(3, .null), (0, .ref L0), (1, .int p1), (2, .int p2)]) hx hb dX11_rather_27 rfl hl (by decide) rfl (fun ls hl => ?_)
        refine lv_aload_nN hx hb dX11_rather_28 rfl (lv_at hl 0 rfl) ?_
        refine lv_ifnullN (tgt := 39) hx hb dX11_rather_29 (by decide) ?_
        refine lv_bipush (v := (-2)) hx hb dX11_rather_39 (by decide) ?_
        rw [← hQ]
        exact cRetI (v := (-2)) (rs2, ra2, ns, na) hx hb hr hlocks hS hP hD (hn j1) dX11_rather_41
      · rw [j2]
        refine lv_astore_n (x := aJ 0) (lv' := [(3, .ref (aJ 0)), (0, .ref L0), (1, .int p1), (2, .int p2)]) hx hb dX11_rather_27 rfl hl (by decide) rfl (fun ls hl => ?_)
        refine lv_aload_n hx hb dX11_rather_28 rfl (lv_at hl 0 rfl) ?_
        refine lv_ifnull hx hb dX11_rather_29 ?_
        have hpp := jo_perm (J := J) hk (X := (cW L0 C aU aR aR2 h_images aS n0 aN y0 y1 y2 o0 us ua rs ra rs2 ra2 sa sl ns na nl y_isThere y_taken y_took o_of)) (Y := [gI h_images C imf]) (R := wRail aJ C q.1 q.2) j3
        have hP := pm_P hpp hP
        have hD := pm_D hpp hD
        have h := hs q j1
        have hP : va_P D vwCl (List.flatten ((cW L0 C aU aR aR2 h_images aS n0 aN y0 y1 y2 o0 us ua rs ra rs2 ra2 sa sl ns na nl y_isThere y_taken y_took o_of) ++ ([gI h_images C imf] ++ (wRail aJ C q.1 q.2 ++ [jA J k, jB J k])))) H := hP
        have hD : va_D A (List.flatten ((cW L0 C aU aR aR2 h_images aS n0 aN y0 y1 y2 o0 us ua rs ra rs2 ra2 sa sl ns na nl y_isThere y_taken y_took o_of) ++ ([gI h_images C imf] ++ (wRail aJ C q.1 q.2 ++ [jA J k, jB J k])))) := hD
        refine lv_aload_n hx hb dX11_rather_32 rfl (lv_at hl 0 rfl) ?_
        refine gs_I30_94 (rs_VN30_71 (As := []) (rest := []) ⟨hx, hb, hml, hown, hw⟩ hK hN hP hD (k_X4_isTold l D C _ aJ q.1 q.2 h) ⟨va_cnB 0 hw (goodN mw_4_19) rfl rfl rfl (hN.m 44 rfl) (hw _ mw_1_4) (by decide +kernel) ⟨Nat.le_of_ble_eq_true rfl, Nat.le_of_ble_eq_true rfl⟩, hw _ mw_4_18, hw _ mw_s47⟩ rfl rfl rfl hl.1 rfl (Nat.le_of_ble_eq_true rfl) dX11_rather_33 ⟨Nat.zero_le _, Nat.zero_le _⟩) hP hD hS hA (fun r3 u H locs h hP hD hS => ?_)
        have hP : va_P D vwCl (List.flatten ((cW L0 C aU aR aR2 h_images aS n0 aN y0 y1 y2 o0 us ua rs ra rs2 ra2 sa sl ns na nl y_isThere y_taken y_took o_of) ++ ([gI h_images C imf] ++ (wRail aJ C q.1 q.2 ++ [jA J k, jB J k])))) H := hP
        have hD : va_D A (List.flatten ((cW L0 C aU aR aR2 h_images aS n0 aN y0 y1 y2 o0 us ua rs ra rs2 ra2 sa sl ns na nl y_isThere y_taken y_took o_of) ++ ([gI h_images C imf] ++ (wRail aJ C q.1 q.2 ++ [jA J k, jB J k])))) := hD
        refine lv_if_ne (tgt := 42) hx hb dX11_rather_36 (by decide) (fun c8 => ?_) (fun c8 => ?_)
        rotate_left
        · have h := h.1 c8
          have hpq := (jo_perm (J := J) hk (X := (cW L0 C aU aR aR2 h_images aS n0 aN y0 y1 y2 o0 us ua rs ra rs2 ra2 sa sl ns na nl y_isThere y_taken y_took o_of)) (Y := [gI h_images C imf]) (R := wRail aJ C q.1 q.2) j3).symm
          have hP := pm_P hpq hP
          have hD := pm_D hpq hD
          refine lv_bipush (v := (-2)) hx hb dX11_rather_39 (by decide) ?_
          rw [← hQ]
          exact cRetI (v := (-2)) (rs2, ra2, ns, na) hx hb hr hlocks hS hP hD h dX11_rather_41
        have h := h.2 c8
        refine lv_aload_n hx hb dX11_rather_42 rfl (lv_at hl 1 rfl) ?_
        refine lv_aload_n hx hb dX11_rather_43 rfl (lv_at hl 1 rfl) ?_
        refine va_get (D := D) (ci := 11) (v := .ref (aR 0)) (C := RX11) (T := TX11) (N := 8) hx hb hw inW_X11 hown hK hP 0 rfl rfl 1 (by decide) (hw _ mw_2_144) (fun _ h9 => h9) rfl dX11_rather_44 ?_
        refine lv_iload_n hx hb dX11_rather_47 rfl (lv_at hl 2 rfl) ?_
        refine gs_I30_95 (rs_V30_72 (As := [.ref (aR 0), .int p1]) (rest := []) ⟨hx, hb, hml, hown, hw⟩ hK hN hP hD (k_X11_netTaken l D C _ L0 aR n0 aN (aU 0) (aR 0) (aR2 0) h_images (aS 0) y0 o0 rs ra ns na nl p1 h) (cwV 2 hw (goodV mw_5_147 mw_5_149 mw_s92 mw_1_1 mw_5_150) rfl rfl rfl (by decide +kernel) ⟨Nat.le_of_ble_eq_true rfl, Nat.le_of_ble_eq_true rfl⟩) rfl rfl rfl hl.1 rfl (Nat.le_of_ble_eq_true rfl) dX11_rather_48 ⟨Nat.zero_le _, Nat.zero_le _⟩) hP hD hS hA (fun hr1 u H locs h hP hD hS => ?_)
        obtain ⟨ns1, na1⟩ := u
        have hP : va_P D vwCl (List.flatten ((cW L0 C aU aR aR2 h_images aS n0 aN y0 y1 y2 o0 us ua rs ra rs2 ra2 sa sl ns1 na1 nl y_isThere y_taken y_took o_of) ++ ([gI h_images C imf] ++ (wRail aJ C q.1 q.2 ++ [jA J k, jB J k])))) H := hP
        have hD : va_D A (List.flatten ((cW L0 C aU aR aR2 h_images aS n0 aN y0 y1 y2 o0 us ua rs ra rs2 ra2 sa sl ns1 na1 nl y_isThere y_taken y_took o_of) ++ ([gI h_images C imf] ++ (wRail aJ C q.1 q.2 ++ [jA J k, jB J k])))) := hD
        refine lv_istore (lv' := [(4, .int hr1), (3, .ref (aJ 0)), (0, .ref L0), (1, .int p1), (2, .int p2)]) hx hb dX11_rather_51 hl (by decide) rfl (fun ls hl => ?_)
        refine lv_aload_n hx hb dX11_rather_53 rfl (lv_at hl 2 rfl) ?_
        refine va_get (D := D) (ci := 11) (v := .ref (aR2 0)) (C := RX11) (T := TX11) (N := 8) hx hb hw inW_X11 hown hK hP 0 rfl rfl 2 (by decide) (hw _ mw_2_145) (fun _ h9 => h9) rfl dX11_rather_54 ?_
        refine lv_aload_n hx hb dX11_rather_57 rfl (lv_at hl 1 rfl) ?_
        refine gs_V30_96 (rs_VN30_73 (As := [.ref (aJ 0)]) (rest := []) ⟨hx, hb, hml, hown, hw⟩ hK hN hP hD (k_X4_copyFrom l D C _ aR2 aJ rs2 ra2 q.1 q.2 h) ⟨va_cnB 1 hw (goodN mw_3_126) rfl rfl rfl (hN.m 23 rfl) (hw _ mw_1_4) (by decide +kernel) ⟨Nat.le_of_ble_eq_true rfl, Nat.le_of_ble_eq_true rfl⟩, hw _ mw_3_125, hw _ mw_s26⟩ rfl rfl rfl hl.1 rfl (Nat.le_of_ble_eq_true rfl) dX11_rather_58 ⟨Nat.zero_le _, Nat.zero_le _⟩) hP hD hS hA (fun u H locs h hP hD hS => ?_)
        obtain ⟨rs3, ra3⟩ := u
        have hP : va_P D vwCl (List.flatten ((cW L0 C aU aR aR2 h_images aS n0 aN y0 y1 y2 o0 us ua rs ra rs3 ra3 sa sl ns1 na1 nl y_isThere y_taken y_took o_of) ++ ([gI h_images C imf] ++ (wRail aJ C q.1 q.2 ++ [jA J k, jB J k])))) H := hP
        have hD : va_D A (List.flatten ((cW L0 C aU aR aR2 h_images aS n0 aN y0 y1 y2 o0 us ua rs ra rs3 ra3 sa sl ns1 na1 nl y_isThere y_taken y_took o_of) ++ ([gI h_images C imf] ++ (wRail aJ C q.1 q.2 ++ [jA J k, jB J k])))) := hD
        have hn279 : (Cond.fieldLinkNest "LockRail" 279 "LockRail$Rail" "thieves" "LLockRail$Thieves;" "LockRail").before args s = true := hN.f 64 rfl
        refine lv_aload_n hx hb dX11_rather_61 rfl (lv_at hl 2 rfl) ?_
        refine va_get (D := D) (ci := 11) (v := .ref (aR2 0)) (C := RX11) (T := TX11) (N := 8) hx hb hw inW_X11 hown hK hP 0 rfl rfl 2 (by decide) (hw _ mw_2_145) (fun _ h9 => h9) rfl dX11_rather_62 ?_
        refine va_getN (D := D) (ci := 4) (v := .ref (aR2 13)) (C := RX4) (T := TX4) (N := 16) hx hb hw inW_X4 hown hK hP 26 rfl rfl 6 (by decide) hn279 (fun _ h9 => h9) rfl dX11_rather_65 ?_
        refine lv_aload_n hx hb dX11_rather_68 rfl (lv_at hl 2 rfl) ?_
        refine va_get (D := D) (ci := 11) (v := .ref (aR 0)) (C := RX11) (T := TX11) (N := 8) hx hb hw inW_X11 hown hK hP 0 rfl rfl 1 (by decide) (hw _ mw_2_144) (fun _ h9 => h9) rfl dX11_rather_69 ?_
        refine va_getN (D := D) (ci := 4) (v := .ref (aR 13)) (C := RX4) (T := TX4) (N := 16) hx hb hw inW_X4 hown hK hP 4 rfl rfl 6 (by decide) hn279 (fun _ h9 => h9) rfl dX11_rather_72 ?_
        refine gs_V30_97 (rs_VN30_74 (As := [.ref (aR 13)]) (rest := []) ⟨hx, hb, hml, hown, hw⟩ hK hN hP hD (k_X9_copyFrom l D C _ (aR2 13) (aR2 14) (aR2 15) (aR2 16) (aR2 17) (aR2 18) (aR 13) (aR 14) (aR 15) (aR 16) (aR 17) (aR 18) (rs3 14) (ra3 9) (ra3 10) (ra3 11) (ra3 12) (ra3 13) (rs 14) (ra 9) (ra 10) (ra 11) (ra 12) (ra 13) h) ⟨va_cnB 1 hw (goodN mw_3_147) rfl rfl rfl (hN.m 70 rfl) (hw _ mw_1_8) (by decide +kernel) ⟨Nat.le_of_ble_eq_true rfl, Nat.le_of_ble_eq_true rfl⟩, hw _ mw_3_146, hw _ mw_s30⟩ rfl rfl rfl hl.1 rfl (Nat.le_of_ble_eq_true rfl) dX11_rather_75 ⟨Nat.zero_le _, Nat.zero_le _⟩) hP hD hS hA (fun u H locs h hP hD hS => ?_)
        obtain ⟨ct, t1, t2, t3, t4, t5⟩ := u
        have hP : va_P D vwCl (List.flatten ((cW L0 C aU aR aR2 h_images aS n0 aN y0 y1 y2 o0 us ua rs ra (rtS rs3 ct) (rtA ra3 t1 t2 t3 t4 t5) sa sl ns1 na1 nl y_isThere y_taken y_took o_of) ++ ([gI h_images C imf] ++ (wRail aJ C q.1 q.2 ++ [jA J k, jB J k])))) H := hP
        have hD : va_D A (List.flatten ((cW L0 C aU aR aR2 h_images aS n0 aN y0 y1 y2 o0 us ua rs ra (rtS rs3 ct) (rtA ra3 t1 t2 t3 t4 t5) sa sl ns1 na1 nl y_isThere y_taken y_took o_of) ++ ([gI h_images C imf] ++ (wRail aJ C q.1 q.2 ++ [jA J k, jB J k])))) := hD
        refine lv_aload_n hx hb dX11_rather_78 rfl (lv_at hl 2 rfl) ?_
        refine lv_aload_n hx hb dX11_rather_79 rfl (lv_at hl 2 rfl) ?_
        refine va_get (D := D) (ci := 11) (v := .ref (aR2 0)) (C := RX11) (T := TX11) (N := 8) hx hb hw inW_X11 hown hK hP 0 rfl rfl 2 (by decide) (hw _ mw_2_145) (fun _ h9 => h9) rfl dX11_rather_80 ?_
        refine lv_iload_n hx hb dX11_rather_83 rfl (lv_at hl 3 rfl) ?_
        refine gs_I30_98 (rs_V30_75 (As := [.ref (aR2 0), .int p1]) (rest := []) ⟨hx, hb, hml, hown, hw⟩ hK hN hP hD (k_X11_netTaken l D C _ L0 aR2 n0 aN (aU 0) (aR 0) (aR2 0) h_images (aS 0) y0 o0 (rtS rs3 ct) (rtA ra3 t1 t2 t3 t4 t5) ns1 na1 nl p1 h) (cwV 2 hw (goodV mw_5_147 mw_5_149 mw_s92 mw_1_1 mw_5_150) rfl rfl rfl (by decide +kernel) ⟨Nat.le_of_ble_eq_true rfl, Nat.le_of_ble_eq_true rfl⟩) rfl rfl rfl hl.1 rfl (Nat.le_of_ble_eq_true rfl) dX11_rather_84 ⟨Nat.zero_le _, Nat.zero_le _⟩) hP hD hS hA (fun tr1 u H locs h hP hD hS => ?_)
        obtain ⟨ns2, na2⟩ := u
        have hP : va_P D vwCl (List.flatten ((cW L0 C aU aR aR2 h_images aS n0 aN y0 y1 y2 o0 us ua rs ra (rtS rs3 ct) (rtA ra3 t1 t2 t3 t4 t5) sa sl ns2 na2 nl y_isThere y_taken y_took o_of) ++ ([gI h_images C imf] ++ (wRail aJ C q.1 q.2 ++ [jA J k, jB J k])))) H := hP
        have hD : va_D A (List.flatten ((cW L0 C aU aR aR2 h_images aS n0 aN y0 y1 y2 o0 us ua rs ra (rtS rs3 ct) (rtA ra3 t1 t2 t3 t4 t5) sa sl ns2 na2 nl y_isThere y_taken y_took o_of) ++ ([gI h_images C imf] ++ (wRail aJ C q.1 q.2 ++ [jA J k, jB J k])))) := hD
        refine lv_istore (lv' := [(5, .int tr1), (4, .int hr1), (3, .ref (aJ 0)), (0, .ref L0), (1, .int p1), (2, .int p2)]) hx hb dX11_rather_87 hl (by decide) rfl (fun ls hl => ?_)
        have hpq := (jo_perm (J := J) hk (X := (cW L0 C aU aR aR2 h_images aS n0 aN y0 y1 y2 o0 us ua rs ra (rtS rs3 ct) (rtA ra3 t1 t2 t3 t4 t5) sa sl ns2 na2 nl y_isThere y_taken y_took o_of)) (Y := [gI h_images C imf]) (R := wRail aJ C q.1 q.2) j3).symm
        have hP := pm_P hpq hP
        have hD := pm_D hpq hD
        have T94 : ((tr1 ≤ hr1) → post 0 (rtS rs3 ct) (rtA ra3 t1 t2 t3 t4 t5) ns2 na2) ∧ ((¬ tr1 ≤ hr1) → post 1 (rtS rs3 ct) (rtA ra3 t1 t2 t3 t4 t5) ns2 na2) → W p l e rmX11_rather s m args below meth c H locs 0 0 Q (F0 m 101 ls []) := by
          intro h
          refine lv_iload hx hb dX11_rather_101 (lv_at hl 0 rfl) ?_
          refine lv_iload hx hb dX11_rather_103 (lv_at hl 1 rfl) ?_
          refine lv_icmp_le (tgt := 112) hx hb dX11_rather_105 (by decide) (fun c5 => ?_) (fun c5 => ?_)
          · have h := h.1 c5
            refine lv_iconst (v := 0) hx hb dX11_rather_112 (by decide) ?_
            rw [← hQ]
            exact cRetI (v := 0) (rtS rs3 ct, rtA ra3 t1 t2 t3 t4 t5, ns2, na2) hx hb hr hlocks hS hP hD h dX11_rather_113
          · have h := h.2 c5
            refine lv_iconst (v := 1) hx hb dX11_rather_108 (by decide) ?_
            refine lv_goto (tgt := 113) hx hb dX11_rather_109 (by decide) ?_
            rw [← hQ]
            exact cRetI (v := 1) (rtS rs3 ct, rtA ra3 t1 t2 t3 t4 t5, ns2, na2) hx hb hr hlocks hS hP hD h dX11_rather_113
        refine lv_iload hx hb dX11_rather_89 (lv_at hl 1 rfl) ?_
        refine lv_if_ne (tgt := 101) hx hb dX11_rather_91 (by decide) (fun c3 => T94 (h.1 c3)) (fun c3 => ?_)
        refine lv_iload hx hb dX11_rather_94 (lv_at hl 0 rfl) ?_
        refine lv_if_ne (tgt := 101) hx hb dX11_rather_96 (by decide) (fun c4 => T94 ((h.2 c3).1 c4)) (fun c4 => ?_)
        refine lv_iconst (v := (-1)) hx hb dX11_rather_99 (by decide) ?_
        rw [← hQ]
        exact cRetI (v := (-1)) (rtS rs3 ct, rtA ra3 t1 t2 t3 t4 t5, ns2, na2) hx hb hr hlocks hS hP hD ((h.2 c3).2 c4) dX11_rather_100
    · have h := h.2 c2
      refine lv_bipush (v := (-2)) hx hb dX11_rather_18 (by decide) ?_
      rw [← hQ]
      exact cRetI (v := (-2)) (rs2, ra2, ns, na) hx hb hr hlocks hS hP hD h dX11_rather_20
