set_option maxHeartbeats 400000 in
set_option maxRecDepth 100000 in
theorem lc_47 {p : Program} {l : Launch} {e : Env} {s : State} {m : MethodId} {below : List Frame} {meth : Method} {c : Code} {b L : Nat} {xs : Nat → Int32} {D : va_G} {C : Nat → ClassId} {A : Nat → Prop} {H : Heap} {locs : List Loc} {cells slots : Nat} {Q : State → Prop} {ls : Array Slot} {L0 m0 : Nat} {i : Int32} {z : Prop} (hC : LC p s m c b L xs D C A) (hl : lv_has ls 4 [(3, .int i), (2, .ref m0), (1, .ref L0), (0, .ref b)]) (i1 : vp_in (i + 1) L) (i2 : vp_in (i + 2) L) (i3 : vp_in (i + 3) L) (i4 : vp_in (i + 4) L) (i5 : vp_in (i + 5) L) (hcs : cells ≤ 600000 ∧ slots ≤ room_1.slots) (hS : va_S A s.heap H locs) (hW : LSt z D C A L0 m0 H)  (kk : ∀ (H : Heap) (locs : List Loc), LSt False D C A L0 m0 H → va_S A s.heap H locs → W p l e room_1 s m #[Value.ref b] below meth c H locs cells slots Q (F0 m 1977 ls [])) : W p l e room_1 s m #[Value.ref b] below meth c H locs cells slots Q (F0 m 1561 ls []) := by
  obtain ⟨hx, hb, hml, hown, hw, hK, hN, hA, hX, hbl, hbA, hZ⟩ := hC
  obtain ⟨aU, aR, aR2, h_images, aS, n0, aN, y0, y1, y2, o0, aM, us, ua, rs, ra, rs2, ra2, sa, sl, ns, na, nl, y_isThere, y_taken, y_took, o_of, imf, J, im, ms, mw, ma, ml, hz, e0, hI, hJ, hP, hD⟩ := hW
  subst e0
  refine lv_aload_n hx hb dL_law_1561 rfl (lv_at hl 2 rfl) ?_
  refine lv_aload_n hx hb dL_law_1562 rfl (lv_at hl 3 rfl) ?_
  refine lv_iload_n hx hb dL_law_1563 rfl (lv_at hl 0 rfl) ?_
  refine lv_iconst (v := 1) hx hb dL_law_1564 (by decide) ?_
  refine lv_iadd hx hb dL_law_1565 ?_
  refine va_sld hx hb hX hbl hbA hS i1 dL_law_1566 ?_
  refine lv_aload_n hx hb dL_law_1567 rfl (lv_at hl 3 rfl) ?_
  refine lv_iload_n hx hb dL_law_1568 rfl (lv_at hl 0 rfl) ?_
  refine lv_iconst (v := 2) hx hb dL_law_1569 (by decide) ?_
  refine lv_iadd hx hb dL_law_1570 ?_
  refine va_sld hx hb hX hbl hbA hS i2 dL_law_1571 ?_
  refine lGoIim (cRunV (As := [.int (xs (i + 1).toNatClampNeg), .int (xs (i + 2).toNatClampNeg)]) (rest := []) ⟨hx, hb, hml, hown, hw⟩ hK hN hP hD [0, 1, 2, 3, 4] rfl rfl (met_img (k_X11_rather l D C _ L0 aU aR aR2 h_images aS n0 aN y0 y1 y2 o0 us ua rs ra rs2 ra2 sa sl ns na nl y_isThere y_taken y_took o_of imf J im (xs (i + 1).toNatClampNeg) (xs (i + 2).toNatClampNeg) hJ (q_rather hI rs2 (xs (i + 1).toNatClampNeg) (xs (i + 2).toNatClampNeg)))) (cwV 2 hw (goodV mw_5_140 mw_5_141 mw_5_142 mw_1_1 mw_5_143) rfl rfl rfl (by decide +kernel) ⟨Nat.le_of_ble_eq_true rfl, Nat.le_of_ble_eq_true rfl⟩) rfl rfl rfl hl.1 rfl (Nat.le_of_ble_eq_true rfl) dL_law_1572 hcs) hP hD hS hA (fun r1 u H locs h hP hD hS => ?_)
  obtain ⟨rs21, ra21, ns1, na1⟩ := u
  have hP : va_P D vwCl (List.flatten (lW L0 C aU aR aR2 h_images aS n0 aN y0 y1 y2 o0 aM us ua rs ra rs21 ra21 sa sl ns1 na1 nl y_isThere y_taken y_took o_of imf J ms mw ma ml)) H := hP
  have hD : va_D A (List.flatten (lW L0 C aU aR aR2 h_images aS n0 aN y0 y1 y2 o0 aM us ua rs ra rs21 ra21 sa sl ns1 na1 nl y_isThere y_taken y_took o_of imf J ms mw ma ml)) := hD
  refine lv_pop hx hb dL_law_1575 rfl ?_
  refine lv_aload_n hx hb dL_law_1576 rfl (lv_at hl 1 rfl) ?_
  refine lv_aload_n hx hb dL_law_1577 rfl (lv_at hl 3 rfl) ?_
  refine lv_iload_n hx hb dL_law_1578 rfl (lv_at hl 0 rfl) ?_
  refine lv_iconst (v := 1) hx hb dL_law_1579 (by decide) ?_
  refine lv_iadd hx hb dL_law_1580 ?_
  refine va_sld hx hb hX hbl hbA hS i1 dL_law_1581 ?_
  refine lv_aload_n hx hb dL_law_1582 rfl (lv_at hl 3 rfl) ?_
  refine lv_iload_n hx hb dL_law_1583 rfl (lv_at hl 0 rfl) ?_
  refine lv_iconst (v := 2) hx hb dL_law_1584 (by decide) ?_
  refine lv_iadd hx hb dL_law_1585 ?_
  refine va_sld hx hb hX hbl hbA hS i2 dL_law_1586 ?_
  refine lGoI12 (cRunV (As := [.int (xs (i + 1).toNatClampNeg), .int (xs (i + 2).toNatClampNeg)]) (rest := []) ⟨hx, hb, hml, hown, hw⟩ hK hN hP hD [5] rfl rfl (met_oneI (k_X12_rather l D C _ aM ms mw ma ml (xs (i + 1).toNatClampNeg) (xs (i + 2).toNatClampNeg) h)) (cwV 2 hw (goodV mw_9_31 mw_9_32 mw_9_33 mw_1_13 mw_9_34) rfl rfl rfl (by decide +kernel) ⟨Nat.le_of_ble_eq_true rfl, Nat.le_of_ble_eq_true rfl⟩) rfl rfl rfl hl.1 rfl (Nat.le_of_ble_eq_true rfl) dL_law_1587 hcs) hP hD hS hA (fun r2 ms2 H locs h hP hD hS => ?_)
  have hP : va_P D vwCl (List.flatten (lW L0 C aU aR aR2 h_images aS n0 aN y0 y1 y2 o0 aM us ua rs ra rs21 ra21 sa sl ns1 na1 nl y_isThere y_taken y_took o_of imf J ms2 mw ma ml)) H := hP
  have hD : va_D A (List.flatten (lW L0 C aU aR aR2 h_images aS n0 aN y0 y1 y2 o0 aM us ua rs ra rs21 ra21 sa sl ns1 na1 nl y_isThere y_taken y_took o_of imf J ms2 mw ma ml)) := hD
  refine lv_pop hx hb dL_law_1590 rfl ?_
  refine lv_goto (tgt := 1977) hx hb dL_law_1591 (by decide) ?_
  obtain ⟨-, hI⟩ := h
  exact kk H locs ⟨aU, aR, aR2, h_images, aS, n0, aN, y0, y1, y2, o0, aM, us, ua, rs, ra, rs21, ra21, sa, sl, ns1, na1, nl, y_isThere, y_taken, y_took, o_of, imf, J, im, ms2, mw, ma, ml, False.elim, rfl, hI, hJ, hP, hD⟩ hS
set_option maxHeartbeats 400000 in
set_option maxRecDepth 100000 in
theorem lc_54 {p : Program} {l : Launch} {e : Env} {s : State} {m : MethodId} {below : List Frame} {meth : Method} {c : Code} {b L : Nat} {xs : Nat → Int32} {D : va_G} {C : Nat → ClassId} {A : Nat → Prop} {H : Heap} {locs : List Loc} {cells slots : Nat} {Q : State → Prop} {ls : Array Slot} {L0 m0 : Nat} {i : Int32} {z : Prop} (hC : LC p s m c b L xs D C A) (hl : lv_has ls 4 [(3, .int i), (2, .ref m0), (1, .ref L0), (0, .ref b)]) (i1 : vp_in (i + 1) L) (i2 : vp_in (i + 2) L) (i3 : vp_in (i + 3) L) (i4 : vp_in (i + 4) L) (i5 : vp_in (i + 5) L) (hcs : cells + 22 ≤ 600000 ∧ slots + 163 ≤ room_1.slots) (hS : va_S A s.heap H locs) (hW : LSt z D C A L0 m0 H)  (kk : ∀ (H : Heap) (locs : List Loc), LSt False D C A L0 m0 H → va_S A s.heap H locs → W p l e room_1 s m #[Value.ref b] below meth c H locs (cells + 22) (slots + 163) Q (F0 m 1977 ls [])) : W p l e room_1 s m #[Value.ref b] below meth c H locs cells slots Q (F0 m 1752 ls []) := by
  obtain ⟨hx, hb, hml, hown, hw, hK, hN, hA, hX, hbl, hbA, hZ⟩ := hC
  obtain ⟨aU, aR, aR2, h_images, aS, n0, aN, y0, y1, y2, o0, aM, us, ua, rs, ra, rs2, ra2, sa, sl, ns, na, nl, y_isThere, y_taken, y_took, o_of, imf, J, im, ms, mw, ma, ml, hz, e0, hI, hJ, hP, hD⟩ := hW
  subst e0
  refine lv_aload_n hx hb dL_law_1752 rfl (lv_at hl 2 rfl) ?_
  refine lv_aload_n hx hb dL_law_1753 rfl (lv_at hl 3 rfl) ?_
  refine lv_iload_n hx hb dL_law_1754 rfl (lv_at hl 0 rfl) ?_
  refine lv_iconst (v := 1) hx hb dL_law_1755 (by decide) ?_
  refine lv_iadd hx hb dL_law_1756 ?_
  refine va_sld hx hb hX hbl hbA hS i1 dL_law_1757 ?_
  refine lGoIim (cRunV (As := [.int (xs (i + 1).toNatClampNeg)]) (rest := []) ⟨hx, hb, hml, hown, hw⟩ hK hN hP hD [0, 1, 2, 3, 4] rfl rfl (met_img (k_X11_keep l D C _ L0 aU aR aR2 h_images aS n0 aN y0 y1 y2 o0 us ua rs ra rs2 ra2 sa sl ns na nl y_isThere y_taken y_took o_of imf J im (xs (i + 1).toNatClampNeg) hJ (q_keep hI (xs (i + 1).toNatClampNeg)))) (cwV 1 hw (goodV mw_5_232 mw_5_233 mw_5_234 mw_1_1 mw_5_235) rfl rfl rfl (by decide +kernel) ⟨Nat.le_of_ble_eq_true rfl, Nat.le_of_ble_eq_true rfl⟩) rfl rfl rfl hl.1 rfl (Nat.le_of_ble_eq_true rfl) dL_law_1758 hcs) hP hD hS hA (fun r1 u H locs h hP hD hS => ?_)
  obtain ⟨imf1, J1, im1⟩ := u
  obtain ⟨h, hJ⟩ := h
  have hP : va_P D vwCl (List.flatten (lW L0 C aU aR aR2 h_images aS n0 aN y0 y1 y2 o0 aM us ua rs ra rs2 ra2 sa sl ns na nl y_isThere y_taken y_took o_of imf1 J1 ms mw ma ml)) H := hP
  have hD : va_D A (List.flatten (lW L0 C aU aR aR2 h_images aS n0 aN y0 y1 y2 o0 aM us ua rs ra rs2 ra2 sa sl ns na nl y_isThere y_taken y_took o_of imf1 J1 ms mw ma ml)) := hD
  refine lv_pop hx hb dL_law_1761 rfl ?_
  refine lv_aload_n hx hb dL_law_1762 rfl (lv_at hl 1 rfl) ?_
  refine lv_aload_n hx hb dL_law_1763 rfl (lv_at hl 3 rfl) ?_
  refine lv_iload_n hx hb dL_law_1764 rfl (lv_at hl 0 rfl) ?_
  refine lv_iconst (v := 1) hx hb dL_law_1765 (by decide) ?_
  refine lv_iadd hx hb dL_law_1766 ?_
  refine va_sld hx hb hX hbl hbA hS i1 dL_law_1767 ?_
  refine lGoI12 (cRunV (As := [.int (xs (i + 1).toNatClampNeg)]) (rest := []) ⟨hx, hb, hml, hown, hw⟩ hK hN hP hD [5] rfl rfl (met_oneI (k_X12_keep l D C _ aM ms mw ma ml (xs (i + 1).toNatClampNeg) h)) (cwV 1 hw (goodV mw_9_95 mw_9_96 mw_9_97 mw_1_13 mw_9_98) rfl rfl rfl (by decide +kernel) ⟨Nat.le_of_ble_eq_true rfl, Nat.le_of_ble_eq_true rfl⟩) rfl rfl rfl hl.1 rfl (Nat.le_of_ble_eq_true rfl) dL_law_1768 hcs) hP hD hS hA (fun r2 u H locs h hP hD hS => ?_)
  obtain ⟨ms2, ma2⟩ := u
  have hP : va_P D vwCl (List.flatten (lW L0 C aU aR aR2 h_images aS n0 aN y0 y1 y2 o0 aM us ua rs ra rs2 ra2 sa sl ns na nl y_isThere y_taken y_took o_of imf1 J1 ms2 mw ma2 ml)) H := hP
  have hD : va_D A (List.flatten (lW L0 C aU aR aR2 h_images aS n0 aN y0 y1 y2 o0 aM us ua rs ra rs2 ra2 sa sl ns na nl y_isThere y_taken y_took o_of imf1 J1 ms2 mw ma2 ml)) := hD
  refine lv_pop hx hb dL_law_1771 rfl ?_
  refine lv_goto (tgt := 1977) hx hb dL_law_1772 (by decide) ?_
  obtain ⟨-, hI⟩ := h
  exact kk H locs ⟨aU, aR, aR2, h_images, aS, n0, aN, y0, y1, y2, o0, aM, us, ua, rs, ra, rs2, ra2, sa, sl, ns, na, nl, y_isThere, y_taken, y_took, o_of, imf1, J1, im1, ms2, mw, ma2, ml, False.elim, rfl, hI, hJ, hP, hD⟩ hS
set_option maxHeartbeats 400000 in
set_option maxRecDepth 100000 in
theorem lc_55 {p : Program} {l : Launch} {e : Env} {s : State} {m : MethodId} {below : List Frame} {meth : Method} {c : Code} {b L : Nat} {xs : Nat → Int32} {D : va_G} {C : Nat → ClassId} {A : Nat → Prop} {H : Heap} {locs : List Loc} {cells slots : Nat} {Q : State → Prop} {ls : Array Slot} {L0 m0 : Nat} {i : Int32} {z : Prop} (hC : LC p s m c b L xs D C A) (hl : lv_has ls 4 [(3, .int i), (2, .ref m0), (1, .ref L0), (0, .ref b)]) (i1 : vp_in (i + 1) L) (i2 : vp_in (i + 2) L) (i3 : vp_in (i + 3) L) (i4 : vp_in (i + 4) L) (i5 : vp_in (i + 5) L) (hcs : cells ≤ 600000 ∧ slots ≤ room_1.slots) (hS : va_S A s.heap H locs) (hW : LSt z D C A L0 m0 H)  (kk : ∀ (H : Heap) (locs : List Loc), LSt False D C A L0 m0 H → va_S A s.heap H locs → W p l e room_1 s m #[Value.ref b] below meth c H locs cells slots Q (F0 m 1977 ls [])) : W p l e room_1 s m #[Value.ref b] below meth c H locs cells slots Q (F0 m 1775 ls []) := by
  obtain ⟨hx, hb, hml, hown, hw, hK, hN, hA, hX, hbl, hbA, hZ⟩ := hC
  obtain ⟨aU, aR, aR2, h_images, aS, n0, aN, y0, y1, y2, o0, aM, us, ua, rs, ra, rs2, ra2, sa, sl, ns, na, nl, y_isThere, y_taken, y_took, o_of, imf, J, im, ms, mw, ma, ml, hz, e0, hI, hJ, hP, hD⟩ := hW
  subst e0
  refine lv_aload_n hx hb dL_law_1775 rfl (lv_at hl 2 rfl) ?_
  refine lv_aload_n hx hb dL_law_1776 rfl (lv_at hl 3 rfl) ?_
  refine lv_iload_n hx hb dL_law_1777 rfl (lv_at hl 0 rfl) ?_
  refine lv_iconst (v := 1) hx hb dL_law_1778 (by decide) ?_
  refine lv_iadd hx hb dL_law_1779 ?_
  refine va_sld hx hb hX hbl hbA hS i1 dL_law_1780 ?_
  refine lGoIim (cRunV (As := [.int (xs (i + 1).toNatClampNeg)]) (rest := []) ⟨hx, hb, hml, hown, hw⟩ hK hN hP hD [0, 1, 2, 3, 4] rfl rfl (met_img (k_X11_back l D C _ L0 aU aR aR2 h_images aS n0 aN y0 y1 y2 o0 us ua rs ra rs2 ra2 sa sl ns na nl y_isThere y_taken y_took o_of imf J im (xs (i + 1).toNatClampNeg) hJ (q_back hI (xs (i + 1).toNatClampNeg)))) (cwV 1 hw (goodV mw_5_236 mw_5_237 mw_5_238 mw_1_1 mw_5_239) rfl rfl rfl (by decide +kernel) ⟨Nat.le_of_ble_eq_true rfl, Nat.le_of_ble_eq_true rfl⟩) rfl rfl rfl hl.1 rfl (Nat.le_of_ble_eq_true rfl) dL_law_1781 hcs) hP hD hS hA (fun r1 u H locs h hP hD hS => ?_)
  obtain ⟨rs1, ra1⟩ := u
  have hP : va_P D vwCl (List.flatten (lW L0 C aU aR aR2 h_images aS n0 aN y0 y1 y2 o0 aM us ua rs1 ra1 rs2 ra2 sa sl ns na nl y_isThere y_taken y_took o_of imf J ms mw ma ml)) H := hP
  have hD : va_D A (List.flatten (lW L0 C aU aR aR2 h_images aS n0 aN y0 y1 y2 o0 aM us ua rs1 ra1 rs2 ra2 sa sl ns na nl y_isThere y_taken y_took o_of imf J ms mw ma ml)) := hD
  refine lv_pop hx hb dL_law_1784 rfl ?_
  refine lv_aload_n hx hb dL_law_1785 rfl (lv_at hl 1 rfl) ?_
  refine lv_aload_n hx hb dL_law_1786 rfl (lv_at hl 3 rfl) ?_
  refine lv_iload_n hx hb dL_law_1787 rfl (lv_at hl 0 rfl) ?_
  refine lv_iconst (v := 1) hx hb dL_law_1788 (by decide) ?_
  refine lv_iadd hx hb dL_law_1789 ?_
  refine va_sld hx hb hX hbl hbA hS i1 dL_law_1790 ?_
  refine lGoI12 (cRunV (As := [.int (xs (i + 1).toNatClampNeg)]) (rest := []) ⟨hx, hb, hml, hown, hw⟩ hK hN hP hD [5] rfl rfl (met_oneI (k_X12_back l D C _ aM ms mw ma ml (xs (i + 1).toNatClampNeg) h)) (cwV 1 hw (goodV mw_9_99 mw_9_100 mw_9_101 mw_1_13 mw_9_102) rfl rfl rfl (by decide +kernel) ⟨Nat.le_of_ble_eq_true rfl, Nat.le_of_ble_eq_true rfl⟩) rfl rfl rfl hl.1 rfl (Nat.le_of_ble_eq_true rfl) dL_law_1791 hcs) hP hD hS hA (fun r2 u H locs h hP hD hS => ?_)
  obtain ⟨ms2, ma2⟩ := u
  have hP : va_P D vwCl (List.flatten (lW L0 C aU aR aR2 h_images aS n0 aN y0 y1 y2 o0 aM us ua rs1 ra1 rs2 ra2 sa sl ns na nl y_isThere y_taken y_took o_of imf J ms2 mw ma2 ml)) H := hP
  have hD : va_D A (List.flatten (lW L0 C aU aR aR2 h_images aS n0 aN y0 y1 y2 o0 aM us ua rs1 ra1 rs2 ra2 sa sl ns na nl y_isThere y_taken y_took o_of imf J ms2 mw ma2 ml)) := hD
  refine lv_pop hx hb dL_law_1794 rfl ?_
  refine lv_goto (tgt := 1977) hx hb dL_law_1795 (by decide) ?_
  obtain ⟨-, hI⟩ := h
  exact kk H locs ⟨aU, aR, aR2, h_images, aS, n0, aN, y0, y1, y2, o0, aM, us, ua, rs1, ra1, rs2, ra2, sa, sl, ns, na, nl, y_isThere, y_taken, y_took, o_of, imf, J, im, ms2, mw, ma2, ml, False.elim, rfl, hI, hJ, hP, hD⟩ hS
