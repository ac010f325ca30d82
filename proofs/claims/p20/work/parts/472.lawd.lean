set_option maxHeartbeats 400000 in
set_option maxRecDepth 100000 in
theorem lc_42 {p : Program} {l : Launch} {e : Env} {s : State} {m : MethodId} {below : List Frame} {meth : Method} {c : Code} {b L : Nat} {xs : Nat → Int32} {D : va_G} {C : Nat → ClassId} {A : Nat → Prop} {H : Heap} {locs : List Loc} {cells slots : Nat} {Q : State → Prop} {ls : Array Slot} {L0 m0 : Nat} {i : Int32} {z : Prop} (hC : LC p s m c b L xs D C A) (hl : lv_has ls 4 [(3, .int i), (2, .ref m0), (1, .ref L0), (0, .ref b)]) (i1 : vp_in (i + 1) L) (i2 : vp_in (i + 2) L) (i3 : vp_in (i + 3) L) (i4 : vp_in (i + 4) L) (i5 : vp_in (i + 5) L) (hcs : cells ≤ 600000 ∧ slots ≤ room_1.slots) (hS : va_S A s.heap H locs) (hW : LSt z D C A L0 m0 H)  (kk : ∀ (H : Heap) (locs : List Loc), LSt False D C A L0 m0 H → va_S A s.heap H locs → W p l e room_1 s m #[Value.ref b] below meth c H locs cells slots Q (F0 m 1977 ls [])) : W p l e room_1 s m #[Value.ref b] below meth c H locs cells slots Q (F0 m 1416 ls []) := by
  obtain ⟨hx, hb, hml, hown, hw, hK, hN, hA, hX, hbl, hbA, hZ⟩ := hC
  obtain ⟨aU, aR, aR2, h_images, aS, n0, aN, y0, y1, y2, o0, aM, us, ua, rs, ra, rs2, ra2, sa, sl, ns, na, nl, y_isThere, y_taken, y_took, o_of, imf, J, im, ms, mw, ma, ml, hz, e0, hI, hJ, hP, hD⟩ := hW
  subst e0
  refine lv_aload_n hx hb dL_law_1416 rfl (lv_at hl 2 rfl) ?_
  refine lv_aload_n hx hb dL_law_1417 rfl (lv_at hl 3 rfl) ?_
  refine lv_iload_n hx hb dL_law_1418 rfl (lv_at hl 0 rfl) ?_
  refine lv_iconst (v := 1) hx hb dL_law_1419 (by decide) ?_
  refine lv_iadd hx hb dL_law_1420 ?_
  refine va_sld hx hb hX hbl hbA hS i1 dL_law_1421 ?_
  refine lGoI11 (cRunV (As := [.int (xs (i + 1).toNatClampNeg)]) (rest := []) ⟨hx, hb, hml, hown, hw⟩ hK hN hP hD [0] rfl rfl (met_oneI (k_X11_lures l D C _ L0 aU aR aR2 aS n0 aN y0 y1 y2 o0 h_images us ua rs ra rs2 ra2 sa sl ns na nl y_isThere y_taken y_took o_of (xs (i + 1).toNatClampNeg) (q_lures hI (xs (i + 1).toNatClampNeg)))) (cwV 1 hw (goodV mw_5_93 mw_5_94 mw_5_95 mw_1_1 mw_5_96) rfl rfl rfl (by decide +kernel) ⟨Nat.le_of_ble_eq_true rfl, Nat.le_of_ble_eq_true rfl⟩) rfl rfl rfl hl.1 rfl (Nat.le_of_ble_eq_true rfl) dL_law_1422 hcs) hP hD hS hA (fun r1 u H locs h hP hD hS => ?_)
  obtain ⟨ns1, na1⟩ := u
  have hP : va_P D vwCl (List.flatten (lW L0 C aU aR aR2 h_images aS n0 aN y0 y1 y2 o0 aM us ua rs ra rs2 ra2 sa sl ns1 na1 nl y_isThere y_taken y_took o_of imf J ms mw ma ml)) H := hP
  have hD : va_D A (List.flatten (lW L0 C aU aR aR2 h_images aS n0 aN y0 y1 y2 o0 aM us ua rs ra rs2 ra2 sa sl ns1 na1 nl y_isThere y_taken y_took o_of imf J ms mw ma ml)) := hD
  refine lv_pop hx hb dL_law_1425 rfl ?_
  refine lv_aload_n hx hb dL_law_1426 rfl (lv_at hl 1 rfl) ?_
  refine lv_aload_n hx hb dL_law_1427 rfl (lv_at hl 3 rfl) ?_
  refine lv_iload_n hx hb dL_law_1428 rfl (lv_at hl 0 rfl) ?_
  refine lv_iconst (v := 1) hx hb dL_law_1429 (by decide) ?_
  refine lv_iadd hx hb dL_law_1430 ?_
  refine va_sld hx hb hX hbl hbA hS i1 dL_law_1431 ?_
  refine lGoI12 (cRunV (As := [.int (xs (i + 1).toNatClampNeg)]) (rest := []) ⟨hx, hb, hml, hown, hw⟩ hK hN hP hD [5] rfl rfl (met_oneI (k_X12_lures l D C _ aM ms mw ma ml (xs (i + 1).toNatClampNeg) h)) (cwV 1 hw (goodV mw_8_239 mw_9_0 mw_9_1 mw_1_13 mw_9_2) rfl rfl rfl (by decide +kernel) ⟨Nat.le_of_ble_eq_true rfl, Nat.le_of_ble_eq_true rfl⟩) rfl rfl rfl hl.1 rfl (Nat.le_of_ble_eq_true rfl) dL_law_1432 hcs) hP hD hS hA (fun r2 u H locs h hP hD hS => ?_)
  obtain ⟨ms2, ma2⟩ := u
  have hP : va_P D vwCl (List.flatten (lW L0 C aU aR aR2 h_images aS n0 aN y0 y1 y2 o0 aM us ua rs ra rs2 ra2 sa sl ns1 na1 nl y_isThere y_taken y_took o_of imf J ms2 mw ma2 ml)) H := hP
  have hD : va_D A (List.flatten (lW L0 C aU aR aR2 h_images aS n0 aN y0 y1 y2 o0 aM us ua rs ra rs2 ra2 sa sl ns1 na1 nl y_isThere y_taken y_took o_of imf J ms2 mw ma2 ml)) := hD
  refine lv_pop hx hb dL_law_1435 rfl ?_
  refine lv_goto (tgt := 1977) hx hb dL_law_1436 (by decide) ?_
  obtain ⟨-, hI⟩ := h
  exact kk H locs ⟨aU, aR, aR2, h_images, aS, n0, aN, y0, y1, y2, o0, aM, us, ua, rs, ra, rs2, ra2, sa, sl, ns1, na1, nl, y_isThere, y_taken, y_took, o_of, imf, J, im, ms2, mw, ma2, ml, False.elim, rfl, hI, hJ, hP, hD⟩ hS
set_option maxHeartbeats 400000 in
set_option maxRecDepth 100000 in
theorem lc_43 {p : Program} {l : Launch} {e : Env} {s : State} {m : MethodId} {below : List Frame} {meth : Method} {c : Code} {b L : Nat} {xs : Nat → Int32} {D : va_G} {C : Nat → ClassId} {A : Nat → Prop} {H : Heap} {locs : List Loc} {cells slots : Nat} {Q : State → Prop} {ls : Array Slot} {L0 m0 : Nat} {i : Int32} {z : Prop} (hC : LC p s m c b L xs D C A) (hl : lv_has ls 4 [(3, .int i), (2, .ref m0), (1, .ref L0), (0, .ref b)]) (i1 : vp_in (i + 1) L) (i2 : vp_in (i + 2) L) (i3 : vp_in (i + 3) L) (i4 : vp_in (i + 4) L) (i5 : vp_in (i + 5) L) (hcs : cells ≤ 600000 ∧ slots ≤ room_1.slots) (hS : va_S A s.heap H locs) (hW : LSt z D C A L0 m0 H)  (kk : ∀ (H : Heap) (locs : List Loc), LSt False D C A L0 m0 H → va_S A s.heap H locs → W p l e room_1 s m #[Value.ref b] below meth c H locs cells slots Q (F0 m 1977 ls [])) : W p l e room_1 s m #[Value.ref b] below meth c H locs cells slots Q (F0 m 1439 ls []) := by
  obtain ⟨hx, hb, hml, hown, hw, hK, hN, hA, hX, hbl, hbA, hZ⟩ := hC
  obtain ⟨aU, aR, aR2, h_images, aS, n0, aN, y0, y1, y2, o0, aM, us, ua, rs, ra, rs2, ra2, sa, sl, ns, na, nl, y_isThere, y_taken, y_took, o_of, imf, J, im, ms, mw, ma, ml, hz, e0, hI, hJ, hP, hD⟩ := hW
  subst e0
  refine lv_aload_n hx hb dL_law_1439 rfl (lv_at hl 2 rfl) ?_
  refine lv_aload_n hx hb dL_law_1440 rfl (lv_at hl 3 rfl) ?_
  refine lv_iload_n hx hb dL_law_1441 rfl (lv_at hl 0 rfl) ?_
  refine lv_iconst (v := 1) hx hb dL_law_1442 (by decide) ?_
  refine lv_iadd hx hb dL_law_1443 ?_
  refine va_sld hx hb hX hbl hbA hS i1 dL_law_1444 ?_
  refine lv_aload_n hx hb dL_law_1445 rfl (lv_at hl 3 rfl) ?_
  refine lv_iload_n hx hb dL_law_1446 rfl (lv_at hl 0 rfl) ?_
  refine lv_iconst (v := 2) hx hb dL_law_1447 (by decide) ?_
  refine lv_iadd hx hb dL_law_1448 ?_
  refine va_sld hx hb hX hbl hbA hS i2 dL_law_1449 ?_
  refine lv_aload_n hx hb dL_law_1450 rfl (lv_at hl 3 rfl) ?_
  refine lv_iload_n hx hb dL_law_1451 rfl (lv_at hl 0 rfl) ?_
  refine lv_iconst (v := 3) hx hb dL_law_1452 (by decide) ?_
  refine lv_iadd hx hb dL_law_1453 ?_
  refine va_sld hx hb hX hbl hbA hS i3 dL_law_1454 ?_
  refine lGoL11 (cRunV (As := [.int (xs (i + 1).toNatClampNeg), .int (xs (i + 2).toNatClampNeg), .int (xs (i + 3).toNatClampNeg)]) (rest := []) ⟨hx, hb, hml, hown, hw⟩ hK hN hP hD [0] rfl rfl (met_oneL (k_X11_cover l D C _ L0 aU aR aR2 aS n0 aN y0 y1 y2 o0 h_images us ua rs ra rs2 ra2 sa sl ns na nl y_isThere y_taken y_took o_of (xs (i + 1).toNatClampNeg) (xs (i + 2).toNatClampNeg) (xs (i + 3).toNatClampNeg) (q_cover hI rs2 mw (xs (i + 1).toNatClampNeg) (xs (i + 2).toNatClampNeg) (xs (i + 3).toNatClampNeg)))) (cwV 3 hw (goodV mw_5_101 mw_5_102 mw_5_103 mw_1_1 mw_5_104) rfl rfl rfl (by decide +kernel) ⟨Nat.le_of_ble_eq_true rfl, Nat.le_of_ble_eq_true rfl⟩) rfl rfl rfl hl.1 rfl (Nat.le_of_ble_eq_true rfl) dL_law_1455 hcs) hP hD hS hA (fun r1 u H locs h hP hD hS => ?_)
  obtain ⟨aN1, rs21, ra21, ns1, na1, nl1⟩ := u
  have hP : va_P D vwCl (List.flatten (lW L0 C aU aR aR2 h_images aS n0 aN1 y0 y1 y2 o0 aM us ua rs ra rs21 ra21 sa sl ns1 na1 nl1 y_isThere y_taken y_took o_of imf J ms mw ma ml)) H := hP
  have hD : va_D A (List.flatten (lW L0 C aU aR aR2 h_images aS n0 aN1 y0 y1 y2 o0 aM us ua rs ra rs21 ra21 sa sl ns1 na1 nl1 y_isThere y_taken y_took o_of imf J ms mw ma ml)) := hD
  refine lv_pop2_2 hx hb dL_law_1458 rfl ?_
  refine lv_aload_n hx hb dL_law_1459 rfl (lv_at hl 1 rfl) ?_
  refine lv_aload_n hx hb dL_law_1460 rfl (lv_at hl 3 rfl) ?_
  refine lv_iload_n hx hb dL_law_1461 rfl (lv_at hl 0 rfl) ?_
  refine lv_iconst (v := 1) hx hb dL_law_1462 (by decide) ?_
  refine lv_iadd hx hb dL_law_1463 ?_
  refine va_sld hx hb hX hbl hbA hS i1 dL_law_1464 ?_
  refine lv_aload_n hx hb dL_law_1465 rfl (lv_at hl 3 rfl) ?_
  refine lv_iload_n hx hb dL_law_1466 rfl (lv_at hl 0 rfl) ?_
  refine lv_iconst (v := 2) hx hb dL_law_1467 (by decide) ?_
  refine lv_iadd hx hb dL_law_1468 ?_
  refine va_sld hx hb hX hbl hbA hS i2 dL_law_1469 ?_
  refine lv_aload_n hx hb dL_law_1470 rfl (lv_at hl 3 rfl) ?_
  refine lv_iload_n hx hb dL_law_1471 rfl (lv_at hl 0 rfl) ?_
  refine lv_iconst (v := 3) hx hb dL_law_1472 (by decide) ?_
  refine lv_iadd hx hb dL_law_1473 ?_
  refine va_sld hx hb hX hbl hbA hS i3 dL_law_1474 ?_
  refine lGoL12 (cRunV (As := [.int (xs (i + 1).toNatClampNeg), .int (xs (i + 2).toNatClampNeg), .int (xs (i + 3).toNatClampNeg)]) (rest := []) ⟨hx, hb, hml, hown, hw⟩ hK hN hP hD [5] rfl rfl (met_oneL (k_X12_cover l D C _ aM ms mw ma ml (xs (i + 1).toNatClampNeg) (xs (i + 2).toNatClampNeg) (xs (i + 3).toNatClampNeg) h)) (cwV 3 hw (goodV mw_9_3 mw_9_4 mw_9_5 mw_1_13 mw_9_6) rfl rfl rfl (by decide +kernel) ⟨Nat.le_of_ble_eq_true rfl, Nat.le_of_ble_eq_true rfl⟩) rfl rfl rfl hl.1 rfl (Nat.le_of_ble_eq_true rfl) dL_law_1475 hcs) hP hD hS hA (fun r2 u H locs h hP hD hS => ?_)
  obtain ⟨ms2, mw2, ma2, ml2⟩ := u
  have hP : va_P D vwCl (List.flatten (lW L0 C aU aR aR2 h_images aS n0 aN1 y0 y1 y2 o0 aM us ua rs ra rs21 ra21 sa sl ns1 na1 nl1 y_isThere y_taken y_took o_of imf J ms2 mw2 ma2 ml2)) H := hP
  have hD : va_D A (List.flatten (lW L0 C aU aR aR2 h_images aS n0 aN1 y0 y1 y2 o0 aM us ua rs ra rs21 ra21 sa sl ns1 na1 nl1 y_isThere y_taken y_took o_of imf J ms2 mw2 ma2 ml2)) := hD
  refine lv_pop2_2 hx hb dL_law_1478 rfl ?_
  refine lv_goto (tgt := 1977) hx hb dL_law_1479 (by decide) ?_
  obtain ⟨-, hI⟩ := h
  exact kk H locs ⟨aU, aR, aR2, h_images, aS, n0, aN1, y0, y1, y2, o0, aM, us, ua, rs, ra, rs21, ra21, sa, sl, ns1, na1, nl1, y_isThere, y_taken, y_took, o_of, imf, J, im, ms2, mw2, ma2, ml2, False.elim, rfl, hI, hJ, hP, hD⟩ hS
set_option maxHeartbeats 400000 in
set_option maxRecDepth 100000 in
theorem lc_44 {p : Program} {l : Launch} {e : Env} {s : State} {m : MethodId} {below : List Frame} {meth : Method} {c : Code} {b L : Nat} {xs : Nat → Int32} {D : va_G} {C : Nat → ClassId} {A : Nat → Prop} {H : Heap} {locs : List Loc} {cells slots : Nat} {Q : State → Prop} {ls : Array Slot} {L0 m0 : Nat} {i : Int32} {z : Prop} (hC : LC p s m c b L xs D C A) (hl : lv_has ls 4 [(3, .int i), (2, .ref m0), (1, .ref L0), (0, .ref b)]) (i1 : vp_in (i + 1) L) (i2 : vp_in (i + 2) L) (i3 : vp_in (i + 3) L) (i4 : vp_in (i + 4) L) (i5 : vp_in (i + 5) L) (hcs : cells ≤ 600000 ∧ slots ≤ room_1.slots) (hS : va_S A s.heap H locs) (hW : LSt z D C A L0 m0 H)  (kk : ∀ (H : Heap) (locs : List Loc), LSt False D C A L0 m0 H → va_S A s.heap H locs → W p l e room_1 s m #[Value.ref b] below meth c H locs cells slots Q (F0 m 1977 ls [])) : W p l e room_1 s m #[Value.ref b] below meth c H locs cells slots Q (F0 m 1482 ls []) := by
  obtain ⟨hx, hb, hml, hown, hw, hK, hN, hA, hX, hbl, hbA, hZ⟩ := hC
  obtain ⟨aU, aR, aR2, h_images, aS, n0, aN, y0, y1, y2, o0, aM, us, ua, rs, ra, rs2, ra2, sa, sl, ns, na, nl, y_isThere, y_taken, y_took, o_of, imf, J, im, ms, mw, ma, ml, hz, e0, hI, hJ, hP, hD⟩ := hW
  subst e0
  refine lv_aload_n hx hb dL_law_1482 rfl (lv_at hl 2 rfl) ?_
  refine lv_aload_n hx hb dL_law_1483 rfl (lv_at hl 3 rfl) ?_
  refine lv_iload_n hx hb dL_law_1484 rfl (lv_at hl 0 rfl) ?_
  refine lv_iconst (v := 1) hx hb dL_law_1485 (by decide) ?_
  refine lv_iadd hx hb dL_law_1486 ?_
  refine va_sld hx hb hX hbl hbA hS i1 dL_law_1487 ?_
  refine lv_aload_n hx hb dL_law_1488 rfl (lv_at hl 3 rfl) ?_
  refine lv_iload_n hx hb dL_law_1489 rfl (lv_at hl 0 rfl) ?_
  refine lv_iconst (v := 2) hx hb dL_law_1490 (by decide) ?_
  refine lv_iadd hx hb dL_law_1491 ?_
  refine va_sld hx hb hX hbl hbA hS i2 dL_law_1492 ?_
  refine lv_aload_n hx hb dL_law_1493 rfl (lv_at hl 3 rfl) ?_
  refine lv_iload_n hx hb dL_law_1494 rfl (lv_at hl 0 rfl) ?_
  refine lv_iconst (v := 3) hx hb dL_law_1495 (by decide) ?_
  refine lv_iadd hx hb dL_law_1496 ?_
  refine va_sld hx hb hX hbl hbA hS i3 dL_law_1497 ?_
  refine lGoI11 (cRunV (As := [.int (xs (i + 1).toNatClampNeg), .int (xs (i + 2).toNatClampNeg), .int (xs (i + 3).toNatClampNeg)]) (rest := []) ⟨hx, hb, hml, hown, hw⟩ hK hN hP hD [0] rfl rfl (met_oneI (k_X11_careless l D C _ L0 aU aR aR2 aS n0 aN y0 y1 y2 o0 h_images us ua rs ra rs2 ra2 sa sl ns na nl y_isThere y_taken y_took o_of (xs (i + 1).toNatClampNeg) (xs (i + 2).toNatClampNeg) (xs (i + 3).toNatClampNeg) (q_careless hI rs2 mw (xs (i + 1).toNatClampNeg) (xs (i + 2).toNatClampNeg) (xs (i + 3).toNatClampNeg)))) (cwV 3 hw (goodV mw_5_119 mw_5_120 mw_5_121 mw_1_1 mw_5_122) rfl rfl rfl (by decide +kernel) ⟨Nat.le_of_ble_eq_true rfl, Nat.le_of_ble_eq_true rfl⟩) rfl rfl rfl hl.1 rfl (Nat.le_of_ble_eq_true rfl) dL_law_1498 hcs) hP hD hS hA (fun r1 u H locs h hP hD hS => ?_)
  obtain ⟨aN1, rs21, ra21, ns1, na1, nl1⟩ := u
  have hP : va_P D vwCl (List.flatten (lW L0 C aU aR aR2 h_images aS n0 aN1 y0 y1 y2 o0 aM us ua rs ra rs21 ra21 sa sl ns1 na1 nl1 y_isThere y_taken y_took o_of imf J ms mw ma ml)) H := hP
  have hD : va_D A (List.flatten (lW L0 C aU aR aR2 h_images aS n0 aN1 y0 y1 y2 o0 aM us ua rs ra rs21 ra21 sa sl ns1 na1 nl1 y_isThere y_taken y_took o_of imf J ms mw ma ml)) := hD
  refine lv_pop hx hb dL_law_1501 rfl ?_
  refine lv_aload_n hx hb dL_law_1502 rfl (lv_at hl 1 rfl) ?_
  refine lv_aload_n hx hb dL_law_1503 rfl (lv_at hl 3 rfl) ?_
  refine lv_iload_n hx hb dL_law_1504 rfl (lv_at hl 0 rfl) ?_
  refine lv_iconst (v := 1) hx hb dL_law_1505 (by decide) ?_
  refine lv_iadd hx hb dL_law_1506 ?_
  refine va_sld hx hb hX hbl hbA hS i1 dL_law_1507 ?_
  refine lv_aload_n hx hb dL_law_1508 rfl (lv_at hl 3 rfl) ?_
  refine lv_iload_n hx hb dL_law_1509 rfl (lv_at hl 0 rfl) ?_
  refine lv_iconst (v := 2) hx hb dL_law_1510 (by decide) ?_
  refine lv_iadd hx hb dL_law_1511 ?_
  refine va_sld hx hb hX hbl hbA hS i2 dL_law_1512 ?_
  refine lv_aload_n hx hb dL_law_1513 rfl (lv_at hl 3 rfl) ?_
  refine lv_iload_n hx hb dL_law_1514 rfl (lv_at hl 0 rfl) ?_
  refine lv_iconst (v := 3) hx hb dL_law_1515 (by decide) ?_
  refine lv_iadd hx hb dL_law_1516 ?_
  refine va_sld hx hb hX hbl hbA hS i3 dL_law_1517 ?_
  refine lGoI12 (cRunV (As := [.int (xs (i + 1).toNatClampNeg), .int (xs (i + 2).toNatClampNeg), .int (xs (i + 3).toNatClampNeg)]) (rest := []) ⟨hx, hb, hml, hown, hw⟩ hK hN hP hD [5] rfl rfl (met_oneI (k_X12_careless l D C _ aM ms mw ma ml (xs (i + 1).toNatClampNeg) (xs (i + 2).toNatClampNeg) (xs (i + 3).toNatClampNeg) h)) (cwV 3 hw (goodV mw_9_15 mw_9_16 mw_9_17 mw_1_13 mw_9_18) rfl rfl rfl (by decide +kernel) ⟨Nat.le_of_ble_eq_true rfl, Nat.le_of_ble_eq_true rfl⟩) rfl rfl rfl hl.1 rfl (Nat.le_of_ble_eq_true rfl) dL_law_1518 hcs) hP hD hS hA (fun r2 u H locs h hP hD hS => ?_)
  obtain ⟨ms2, mw2, ma2, ml2⟩ := u
  have hP : va_P D vwCl (List.flatten (lW L0 C aU aR aR2 h_images aS n0 aN1 y0 y1 y2 o0 aM us ua rs ra rs21 ra21 sa sl ns1 na1 nl1 y_isThere y_taken y_took o_of imf J ms2 mw2 ma2 ml2)) H := hP
  have hD : va_D A (List.flatten (lW L0 C aU aR aR2 h_images aS n0 aN1 y0 y1 y2 o0 aM us ua rs ra rs21 ra21 sa sl ns1 na1 nl1 y_isThere y_taken y_took o_of imf J ms2 mw2 ma2 ml2)) := hD
  refine lv_pop hx hb dL_law_1521 rfl ?_
  refine lv_goto (tgt := 1977) hx hb dL_law_1522 (by decide) ?_
  obtain ⟨-, hI⟩ := h
  exact kk H locs ⟨aU, aR, aR2, h_images, aS, n0, aN1, y0, y1, y2, o0, aM, us, ua, rs, ra, rs21, ra21, sa, sl, ns1, na1, nl1, y_isThere, y_taken, y_took, o_of, imf, J, im, ms2, mw2, ma2, ml2, False.elim, rfl, hI, hJ, hP, hD⟩ hS
set_option maxHeartbeats 400000 in
set_option maxRecDepth 100000 in
theorem lc_45 {p : Program} {l : Launch} {e : Env} {s : State} {m : MethodId} {below : List Frame} {meth : Method} {c : Code} {b L : Nat} {xs : Nat → Int32} {D : va_G} {C : Nat → ClassId} {A : Nat → Prop} {H : Heap} {locs : List Loc} {cells slots : Nat} {Q : State → Prop} {ls : Array Slot} {L0 m0 : Nat} {i : Int32} {z : Prop} (hC : LC p s m c b L xs D C A) (hl : lv_has ls 4 [(3, .int i), (2, .ref m0), (1, .ref L0), (0, .ref b)]) (i1 : vp_in (i + 1) L) (i2 : vp_in (i + 2) L) (i3 : vp_in (i + 3) L) (i4 : vp_in (i + 4) L) (i5 : vp_in (i + 5) L) (hcs : cells ≤ 600000 ∧ slots ≤ room_1.slots) (hS : va_S A s.heap H locs) (hW : LSt z D C A L0 m0 H)  (kk : ∀ (H : Heap) (locs : List Loc), LSt False D C A L0 m0 H → va_S A s.heap H locs → W p l e room_1 s m #[Value.ref b] below meth c H locs cells slots Q (F0 m 1977 ls [])) : W p l e room_1 s m #[Value.ref b] below meth c H locs cells slots Q (F0 m 1525 ls []) := by
  obtain ⟨hx, hb, hml, hown, hw, hK, hN, hA, hX, hbl, hbA, hZ⟩ := hC
  obtain ⟨aU, aR, aR2, h_images, aS, n0, aN, y0, y1, y2, o0, aM, us, ua, rs, ra, rs2, ra2, sa, sl, ns, na, nl, y_isThere, y_taken, y_took, o_of, imf, J, im, ms, mw, ma, ml, hz, e0, hI, hJ, hP, hD⟩ := hW
  subst e0
  refine lv_aload_n hx hb dL_law_1525 rfl (lv_at hl 2 rfl) ?_
  refine lv_aload_n hx hb dL_law_1526 rfl (lv_at hl 3 rfl) ?_
  refine lv_iload_n hx hb dL_law_1527 rfl (lv_at hl 0 rfl) ?_
  refine lv_iconst (v := 1) hx hb dL_law_1528 (by decide) ?_
  refine lv_iadd hx hb dL_law_1529 ?_
  refine va_sld hx hb hX hbl hbA hS i1 dL_law_1530 ?_
  refine lGoL11 (cRunV (As := [.int (xs (i + 1).toNatClampNeg)]) (rest := []) ⟨hx, hb, hml, hown, hw⟩ hK hN hP hD [0] rfl rfl (met_oneL (k_X11_law l D C _ L0 aU aR aR2 aS n0 aN y0 y1 y2 o0 h_images us ua rs ra rs2 ra2 sa sl ns na nl y_isThere y_taken y_took o_of (xs (i + 1).toNatClampNeg) (q_law hI rs2 (xs (i + 1).toNatClampNeg)))) (cwV 1 hw (goodV mw_5_123 mw_5_124 mw_5_125 mw_1_1 mw_5_126) rfl rfl rfl (by decide +kernel) ⟨Nat.le_of_ble_eq_true rfl, Nat.le_of_ble_eq_true rfl⟩) rfl rfl rfl hl.1 rfl (Nat.le_of_ble_eq_true rfl) dL_law_1531 hcs) hP hD hS hA (fun r1 u H locs h hP hD hS => ?_)
  obtain ⟨aN1, rs21, ra21, ns1, na1, nl1⟩ := u
  have hP : va_P D vwCl (List.flatten (lW L0 C aU aR aR2 h_images aS n0 aN1 y0 y1 y2 o0 aM us ua rs ra rs21 ra21 sa sl ns1 na1 nl1 y_isThere y_taken y_took o_of imf J ms mw ma ml)) H := hP
  have hD : va_D A (List.flatten (lW L0 C aU aR aR2 h_images aS n0 aN1 y0 y1 y2 o0 aM us ua rs ra rs21 ra21 sa sl ns1 na1 nl1 y_isThere y_taken y_took o_of imf J ms mw ma ml)) := hD
  refine lv_pop2_2 hx hb dL_law_1534 rfl ?_
  refine lv_aload_n hx hb dL_law_1535 rfl (lv_at hl 1 rfl) ?_
  refine lv_aload_n hx hb dL_law_1536 rfl (lv_at hl 3 rfl) ?_
  refine lv_iload_n hx hb dL_law_1537 rfl (lv_at hl 0 rfl) ?_
  refine lv_iconst (v := 1) hx hb dL_law_1538 (by decide) ?_
  refine lv_iadd hx hb dL_law_1539 ?_
  refine va_sld hx hb hX hbl hbA hS i1 dL_law_1540 ?_
  refine lGoL12 (cRunV (As := [.int (xs (i + 1).toNatClampNeg)]) (rest := []) ⟨hx, hb, hml, hown, hw⟩ hK hN hP hD [5] rfl rfl (met_oneL (k_X12_law l D C _ aM ms mw ma ml (xs (i + 1).toNatClampNeg) h)) (cwV 1 hw (goodV mw_9_19 mw_9_20 mw_9_21 mw_1_13 mw_9_22) rfl rfl rfl (by decide +kernel) ⟨Nat.le_of_ble_eq_true rfl, Nat.le_of_ble_eq_true rfl⟩) rfl rfl rfl hl.1 rfl (Nat.le_of_ble_eq_true rfl) dL_law_1541 hcs) hP hD hS hA (fun r2 u H locs h hP hD hS => ?_)
  obtain ⟨ms2, ma2, ml2⟩ := u
  have hP : va_P D vwCl (List.flatten (lW L0 C aU aR aR2 h_images aS n0 aN1 y0 y1 y2 o0 aM us ua rs ra rs21 ra21 sa sl ns1 na1 nl1 y_isThere y_taken y_took o_of imf J ms2 mw ma2 ml2)) H := hP
  have hD : va_D A (List.flatten (lW L0 C aU aR aR2 h_images aS n0 aN1 y0 y1 y2 o0 aM us ua rs ra rs21 ra21 sa sl ns1 na1 nl1 y_isThere y_taken y_took o_of imf J ms2 mw ma2 ml2)) := hD
  refine lv_pop2_2 hx hb dL_law_1544 rfl ?_
  refine lv_goto (tgt := 1977) hx hb dL_law_1545 (by decide) ?_
  obtain ⟨-, hI⟩ := h
  exact kk H locs ⟨aU, aR, aR2, h_images, aS, n0, aN1, y0, y1, y2, o0, aM, us, ua, rs, ra, rs21, ra21, sa, sl, ns1, na1, nl1, y_isThere, y_taken, y_took, o_of, imf, J, im, ms2, mw, ma2, ml2, False.elim, rfl, hI, hJ, hP, hD⟩ hS
set_option maxHeartbeats 400000 in
set_option maxRecDepth 100000 in
theorem lc_46 {p : Program} {l : Launch} {e : Env} {s : State} {m : MethodId} {below : List Frame} {meth : Method} {c : Code} {b L : Nat} {xs : Nat → Int32} {D : va_G} {C : Nat → ClassId} {A : Nat → Prop} {H : Heap} {locs : List Loc} {cells slots : Nat} {Q : State → Prop} {ls : Array Slot} {L0 m0 : Nat} {i : Int32} {z : Prop} (hC : LC p s m c b L xs D C A) (hl : lv_has ls 4 [(3, .int i), (2, .ref m0), (1, .ref L0), (0, .ref b)]) (i1 : vp_in (i + 1) L) (i2 : vp_in (i + 2) L) (i3 : vp_in (i + 3) L) (i4 : vp_in (i + 4) L) (i5 : vp_in (i + 5) L) (hcs : cells ≤ 600000 ∧ slots ≤ room_1.slots) (hS : va_S A s.heap H locs) (hW : LSt z D C A L0 m0 H)  (kk : ∀ (H : Heap) (locs : List Loc), LSt False D C A L0 m0 H → va_S A s.heap H locs → W p l e room_1 s m #[Value.ref b] below meth c H locs cells slots Q (F0 m 1977 ls [])) : W p l e room_1 s m #[Value.ref b] below meth c H locs cells slots Q (F0 m 1548 ls []) := by
  obtain ⟨hx, hb, hml, hown, hw, hK, hN, hA, hX, hbl, hbA, hZ⟩ := hC
  obtain ⟨aU, aR, aR2, h_images, aS, n0, aN, y0, y1, y2, o0, aM, us, ua, rs, ra, rs2, ra2, sa, sl, ns, na, nl, y_isThere, y_taken, y_took, o_of, imf, J, im, ms, mw, ma, ml, hz, e0, hI, hJ, hP, hD⟩ := hW
  subst e0
  refine lv_aload_n hx hb dL_law_1548 rfl (lv_at hl 2 rfl) ?_
  refine lGoI11 (cRunV (As := []) (rest := []) ⟨hx, hb, hml, hown, hw⟩ hK hN hP hD [0] rfl rfl (met_oneI (k_X11_laws l D C _ L0 aU aR aR2 aS n0 aN y0 y1 y2 o0 h_images us ua rs ra rs2 ra2 sa sl ns na nl y_isThere y_taken y_took o_of  (q_laws hI rs2))) (cwV 0 hw (goodV mw_5_136 mw_5_137 mw_5_138 mw_1_1 mw_5_139) rfl rfl rfl (by decide +kernel) ⟨Nat.le_of_ble_eq_true rfl, Nat.le_of_ble_eq_true rfl⟩) rfl rfl rfl hl.1 rfl (Nat.le_of_ble_eq_true rfl) dL_law_1549 hcs) hP hD hS hA (fun r1 u H locs h hP hD hS => ?_)
  obtain ⟨aN1, rs21, ra21, ns1, na1, nl1⟩ := u
  have hP : va_P D vwCl (List.flatten (lW L0 C aU aR aR2 h_images aS n0 aN1 y0 y1 y2 o0 aM us ua rs ra rs21 ra21 sa sl ns1 na1 nl1 y_isThere y_taken y_took o_of imf J ms mw ma ml)) H := hP
  have hD : va_D A (List.flatten (lW L0 C aU aR aR2 h_images aS n0 aN1 y0 y1 y2 o0 aM us ua rs ra rs21 ra21 sa sl ns1 na1 nl1 y_isThere y_taken y_took o_of imf J ms mw ma ml)) := hD
  refine lv_pop hx hb dL_law_1552 rfl ?_
  refine lv_aload_n hx hb dL_law_1553 rfl (lv_at hl 1 rfl) ?_
  refine lGoI12 (cRunV (As := []) (rest := []) ⟨hx, hb, hml, hown, hw⟩ hK hN hP hD [5] rfl rfl (met_oneI (k_X12_laws l D C _ aM ms mw ma ml  h)) (cwV 0 hw (goodV mw_9_27 mw_9_28 mw_9_29 mw_1_13 mw_9_30) rfl rfl rfl (by decide +kernel) ⟨Nat.le_of_ble_eq_true rfl, Nat.le_of_ble_eq_true rfl⟩) rfl rfl rfl hl.1 rfl (Nat.le_of_ble_eq_true rfl) dL_law_1554 hcs) hP hD hS hA (fun r2 u H locs h hP hD hS => ?_)
  obtain ⟨ms2, ma2, ml2⟩ := u
  have hP : va_P D vwCl (List.flatten (lW L0 C aU aR aR2 h_images aS n0 aN1 y0 y1 y2 o0 aM us ua rs ra rs21 ra21 sa sl ns1 na1 nl1 y_isThere y_taken y_took o_of imf J ms2 mw ma2 ml2)) H := hP
  have hD : va_D A (List.flatten (lW L0 C aU aR aR2 h_images aS n0 aN1 y0 y1 y2 o0 aM us ua rs ra rs21 ra21 sa sl ns1 na1 nl1 y_isThere y_taken y_took o_of imf J ms2 mw ma2 ml2)) := hD
  refine lv_pop hx hb dL_law_1557 rfl ?_
  refine lv_goto (tgt := 1977) hx hb dL_law_1558 (by decide) ?_
  obtain ⟨-, hI⟩ := h
  exact kk H locs ⟨aU, aR, aR2, h_images, aS, n0, aN1, y0, y1, y2, o0, aM, us, ua, rs, ra, rs21, ra21, sa, sl, ns1, na1, nl1, y_isThere, y_taken, y_took, o_of, imf, J, im, ms2, mw, ma2, ml2, False.elim, rfl, hI, hJ, hP, hD⟩ hS
set_option maxHeartbeats 400000 in
set_option maxRecDepth 100000 in
theorem lc_48 {p : Program} {l : Launch} {e : Env} {s : State} {m : MethodId} {below : List Frame} {meth : Method} {c : Code} {b L : Nat} {xs : Nat → Int32} {D : va_G} {C : Nat → ClassId} {A : Nat → Prop} {H : Heap} {locs : List Loc} {cells slots : Nat} {Q : State → Prop} {ls : Array Slot} {L0 m0 : Nat} {i : Int32} {z : Prop} (hC : LC p s m c b L xs D C A) (hl : lv_has ls 4 [(3, .int i), (2, .ref m0), (1, .ref L0), (0, .ref b)]) (i1 : vp_in (i + 1) L) (i2 : vp_in (i + 2) L) (i3 : vp_in (i + 3) L) (i4 : vp_in (i + 4) L) (i5 : vp_in (i + 5) L) (hcs : cells ≤ 600000 ∧ slots ≤ room_1.slots) (hS : va_S A s.heap H locs) (hW : LSt z D C A L0 m0 H)  (kk : ∀ (H : Heap) (locs : List Loc), LSt False D C A L0 m0 H → va_S A s.heap H locs → W p l e room_1 s m #[Value.ref b] below meth c H locs cells slots Q (F0 m 1977 ls [])) : W p l e room_1 s m #[Value.ref b] below meth c H locs cells slots Q (F0 m 1594 ls []) := by
  obtain ⟨hx, hb, hml, hown, hw, hK, hN, hA, hX, hbl, hbA, hZ⟩ := hC
  obtain ⟨aU, aR, aR2, h_images, aS, n0, aN, y0, y1, y2, o0, aM, us, ua, rs, ra, rs2, ra2, sa, sl, ns, na, nl, y_isThere, y_taken, y_took, o_of, imf, J, im, ms, mw, ma, ml, hz, e0, hI, hJ, hP, hD⟩ := hW
  subst e0
  refine lv_aload_n hx hb dL_law_1594 rfl (lv_at hl 2 rfl) ?_
  refine lv_aload_n hx hb dL_law_1595 rfl (lv_at hl 3 rfl) ?_
  refine lv_iload_n hx hb dL_law_1596 rfl (lv_at hl 0 rfl) ?_
  refine lv_iconst (v := 1) hx hb dL_law_1597 (by decide) ?_
  refine lv_iadd hx hb dL_law_1598 ?_
  refine va_sld hx hb hX hbl hbA hS i1 dL_law_1599 ?_
  refine lGoI11 (cRunV (As := [.int (xs (i + 1).toNatClampNeg)]) (rest := []) ⟨hx, hb, hml, hown, hw⟩ hK hN hP hD [0] rfl rfl (met_oneI (k_X11_run l D C _ L0 aU aR aR2 aS n0 aN y0 y1 y2 o0 h_images us ua rs ra rs2 ra2 sa sl ns na nl y_isThere y_taken y_took o_of (xs (i + 1).toNatClampNeg) (q_run hI mw (xs (i + 1).toNatClampNeg)))) (cwV 1 hw (goodV mw_5_153 mw_5_154 mw_5_155 mw_1_1 mw_5_156) rfl rfl rfl (by decide +kernel) ⟨Nat.le_of_ble_eq_true rfl, Nat.le_of_ble_eq_true rfl⟩) rfl rfl rfl hl.1 rfl (Nat.le_of_ble_eq_true rfl) dL_law_1600 hcs) hP hD hS hA (fun r1 u H locs h hP hD hS => ?_)
  obtain ⟨rs1, ra1, ns1, na1⟩ := u
  have hP : va_P D vwCl (List.flatten (lW L0 C aU aR aR2 h_images aS n0 aN y0 y1 y2 o0 aM us ua rs1 ra1 rs2 ra2 sa sl ns1 na1 nl y_isThere y_taken y_took o_of imf J ms mw ma ml)) H := hP
  have hD : va_D A (List.flatten (lW L0 C aU aR aR2 h_images aS n0 aN y0 y1 y2 o0 aM us ua rs1 ra1 rs2 ra2 sa sl ns1 na1 nl y_isThere y_taken y_took o_of imf J ms mw ma ml)) := hD
  refine lv_pop hx hb dL_law_1603 rfl ?_
  refine lv_aload_n hx hb dL_law_1604 rfl (lv_at hl 1 rfl) ?_
  refine lv_aload_n hx hb dL_law_1605 rfl (lv_at hl 3 rfl) ?_
  refine lv_iload_n hx hb dL_law_1606 rfl (lv_at hl 0 rfl) ?_
  refine lv_iconst (v := 1) hx hb dL_law_1607 (by decide) ?_
  refine lv_iadd hx hb dL_law_1608 ?_
  refine va_sld hx hb hX hbl hbA hS i1 dL_law_1609 ?_
  refine lGoI12 (cRunV (As := [.int (xs (i + 1).toNatClampNeg)]) (rest := []) ⟨hx, hb, hml, hown, hw⟩ hK hN hP hD [5] rfl rfl (met_oneI (k_X12_run l D C _ aM ms mw ma ml (xs (i + 1).toNatClampNeg) h)) (cwV 1 hw (goodV mw_9_39 mw_9_40 mw_9_41 mw_1_13 mw_9_42) rfl rfl rfl (by decide +kernel) ⟨Nat.le_of_ble_eq_true rfl, Nat.le_of_ble_eq_true rfl⟩) rfl rfl rfl hl.1 rfl (Nat.le_of_ble_eq_true rfl) dL_law_1610 hcs) hP hD hS hA (fun r2 u H locs h hP hD hS => ?_)
  obtain ⟨ms2, mw2, ma2⟩ := u
  have hP : va_P D vwCl (List.flatten (lW L0 C aU aR aR2 h_images aS n0 aN y0 y1 y2 o0 aM us ua rs1 ra1 rs2 ra2 sa sl ns1 na1 nl y_isThere y_taken y_took o_of imf J ms2 mw2 ma2 ml)) H := hP
  have hD : va_D A (List.flatten (lW L0 C aU aR aR2 h_images aS n0 aN y0 y1 y2 o0 aM us ua rs1 ra1 rs2 ra2 sa sl ns1 na1 nl y_isThere y_taken y_took o_of imf J ms2 mw2 ma2 ml)) := hD
  refine lv_pop hx hb dL_law_1613 rfl ?_
  refine lv_goto (tgt := 1977) hx hb dL_law_1614 (by decide) ?_
  obtain ⟨-, hI⟩ := h
  exact kk H locs ⟨aU, aR, aR2, h_images, aS, n0, aN, y0, y1, y2, o0, aM, us, ua, rs1, ra1, rs2, ra2, sa, sl, ns1, na1, nl, y_isThere, y_taken, y_took, o_of, imf, J, im, ms2, mw2, ma2, ml, False.elim, rfl, hI, hJ, hP, hD⟩ hS
set_option maxHeartbeats 400000 in
set_option maxRecDepth 100000 in
theorem lc_49 {p : Program} {l : Launch} {e : Env} {s : State} {m : MethodId} {below : List Frame} {meth : Method} {c : Code} {b L : Nat} {xs : Nat → Int32} {D : va_G} {C : Nat → ClassId} {A : Nat → Prop} {H : Heap} {locs : List Loc} {cells slots : Nat} {Q : State → Prop} {ls : Array Slot} {L0 m0 : Nat} {i : Int32} {z : Prop} (hC : LC p s m c b L xs D C A) (hl : lv_has ls 4 [(3, .int i), (2, .ref m0), (1, .ref L0), (0, .ref b)]) (i1 : vp_in (i + 1) L) (i2 : vp_in (i + 2) L) (i3 : vp_in (i + 3) L) (i4 : vp_in (i + 4) L) (i5 : vp_in (i + 5) L) (hcs : cells ≤ 600000 ∧ slots ≤ room_1.slots) (hS : va_S A s.heap H locs) (hW : LSt z D C A L0 m0 H)  (kk : ∀ (H : Heap) (locs : List Loc), LSt False D C A L0 m0 H → va_S A s.heap H locs → W p l e room_1 s m #[Value.ref b] below meth c H locs cells slots Q (F0 m 1977 ls [])) : W p l e room_1 s m #[Value.ref b] below meth c H locs cells slots Q (F0 m 1617 ls []) := by
  obtain ⟨hx, hb, hml, hown, hw, hK, hN, hA, hX, hbl, hbA, hZ⟩ := hC
  obtain ⟨aU, aR, aR2, h_images, aS, n0, aN, y0, y1, y2, o0, aM, us, ua, rs, ra, rs2, ra2, sa, sl, ns, na, nl, y_isThere, y_taken, y_took, o_of, imf, J, im, ms, mw, ma, ml, hz, e0, hI, hJ, hP, hD⟩ := hW
  subst e0
  refine lv_aload_n hx hb dL_law_1617 rfl (lv_at hl 2 rfl) ?_
  refine lv_aload_n hx hb dL_law_1618 rfl (lv_at hl 3 rfl) ?_
  refine lv_iload_n hx hb dL_law_1619 rfl (lv_at hl 0 rfl) ?_
  refine lv_iconst (v := 1) hx hb dL_law_1620 (by decide) ?_
  refine lv_iadd hx hb dL_law_1621 ?_
  refine va_sld hx hb hX hbl hbA hS i1 dL_law_1622 ?_
  refine lGoI11 (cRunV (As := [.int (xs (i + 1).toNatClampNeg)]) (rest := []) ⟨hx, hb, hml, hown, hw⟩ hK hN hP hD [0] rfl rfl (met_oneI (k_X11_told l D C _ L0 aU aR aR2 aS n0 aN y0 y1 y2 o0 h_images us ua rs ra rs2 ra2 sa sl ns na nl y_isThere y_taken y_took o_of (xs (i + 1).toNatClampNeg) (q_told hI (xs (i + 1).toNatClampNeg)))) (cwV 1 hw (goodV mw_5_177 mw_5_178 mw_5_179 mw_1_1 mw_5_180) rfl rfl rfl (by decide +kernel) ⟨Nat.le_of_ble_eq_true rfl, Nat.le_of_ble_eq_true rfl⟩) rfl rfl rfl hl.1 rfl (Nat.le_of_ble_eq_true rfl) dL_law_1623 hcs) hP hD hS hA (fun r1 u H locs h hP hD hS => ?_)
  obtain ⟨rs1, ra1, ns1, na1⟩ := u
  have hP : va_P D vwCl (List.flatten (lW L0 C aU aR aR2 h_images aS n0 aN y0 y1 y2 o0 aM us ua rs1 ra1 rs2 ra2 sa sl ns1 na1 nl y_isThere y_taken y_took o_of imf J ms mw ma ml)) H := hP
  have hD : va_D A (List.flatten (lW L0 C aU aR aR2 h_images aS n0 aN y0 y1 y2 o0 aM us ua rs1 ra1 rs2 ra2 sa sl ns1 na1 nl y_isThere y_taken y_took o_of imf J ms mw ma ml)) := hD
  refine lv_pop hx hb dL_law_1626 rfl ?_
  refine lv_aload_n hx hb dL_law_1627 rfl (lv_at hl 1 rfl) ?_
  refine lv_aload_n hx hb dL_law_1628 rfl (lv_at hl 3 rfl) ?_
  refine lv_iload_n hx hb dL_law_1629 rfl (lv_at hl 0 rfl) ?_
  refine lv_iconst (v := 1) hx hb dL_law_1630 (by decide) ?_
  refine lv_iadd hx hb dL_law_1631 ?_
  refine va_sld hx hb hX hbl hbA hS i1 dL_law_1632 ?_
  refine lGoI12 (cRunV (As := [.int (xs (i + 1).toNatClampNeg)]) (rest := []) ⟨hx, hb, hml, hown, hw⟩ hK hN hP hD [5] rfl rfl (met_oneI (k_X12_told l D C _ aM ms mw ma ml (xs (i + 1).toNatClampNeg) h)) (cwV 1 hw (goodV mw_9_75 mw_9_76 mw_9_77 mw_1_13 mw_9_78) rfl rfl rfl (by decide +kernel) ⟨Nat.le_of_ble_eq_true rfl, Nat.le_of_ble_eq_true rfl⟩) rfl rfl rfl hl.1 rfl (Nat.le_of_ble_eq_true rfl) dL_law_1633 hcs) hP hD hS hA (fun r2 u H locs h hP hD hS => ?_)
  obtain ⟨ms2, ma2⟩ := u
  have hP : va_P D vwCl (List.flatten (lW L0 C aU aR aR2 h_images aS n0 aN y0 y1 y2 o0 aM us ua rs1 ra1 rs2 ra2 sa sl ns1 na1 nl y_isThere y_taken y_took o_of imf J ms2 mw ma2 ml)) H := hP
  have hD : va_D A (List.flatten (lW L0 C aU aR aR2 h_images aS n0 aN y0 y1 y2 o0 aM us ua rs1 ra1 rs2 ra2 sa sl ns1 na1 nl y_isThere y_taken y_took o_of imf J ms2 mw ma2 ml)) := hD
  refine lv_pop hx hb dL_law_1636 rfl ?_
  refine lv_goto (tgt := 1977) hx hb dL_law_1637 (by decide) ?_
  obtain ⟨-, hI⟩ := h
  exact kk H locs ⟨aU, aR, aR2, h_images, aS, n0, aN, y0, y1, y2, o0, aM, us, ua, rs1, ra1, rs2, ra2, sa, sl, ns1, na1, nl, y_isThere, y_taken, y_took, o_of, imf, J, im, ms2, mw, ma2, ml, False.elim, rfl, hI, hJ, hP, hD⟩ hS
set_option maxHeartbeats 400000 in
set_option maxRecDepth 100000 in
theorem lc_50 {p : Program} {l : Launch} {e : Env} {s : State} {m : MethodId} {below : List Frame} {meth : Method} {c : Code} {b L : Nat} {xs : Nat → Int32} {D : va_G} {C : Nat → ClassId} {A : Nat → Prop} {H : Heap} {locs : List Loc} {cells slots : Nat} {Q : State → Prop} {ls : Array Slot} {L0 m0 : Nat} {i : Int32} {z : Prop} (hC : LC p s m c b L xs D C A) (hl : lv_has ls 4 [(3, .int i), (2, .ref m0), (1, .ref L0), (0, .ref b)]) (i1 : vp_in (i + 1) L) (i2 : vp_in (i + 2) L) (i3 : vp_in (i + 3) L) (i4 : vp_in (i + 4) L) (i5 : vp_in (i + 5) L) (hcs : cells ≤ 600000 ∧ slots ≤ room_1.slots) (hS : va_S A s.heap H locs) (hW : LSt z D C A L0 m0 H)  (kk : ∀ (H : Heap) (locs : List Loc), LSt False D C A L0 m0 H → va_S A s.heap H locs → W p l e room_1 s m #[Value.ref b] below meth c H locs cells slots Q (F0 m 1977 ls [])) : W p l e room_1 s m #[Value.ref b] below meth c H locs cells slots Q (F0 m 1640 ls []) := by
  obtain ⟨hx, hb, hml, hown, hw, hK, hN, hA, hX, hbl, hbA, hZ⟩ := hC
  obtain ⟨aU, aR, aR2, h_images, aS, n0, aN, y0, y1, y2, o0, aM, us, ua, rs, ra, rs2, ra2, sa, sl, ns, na, nl, y_isThere, y_taken, y_took, o_of, imf, J, im, ms, mw, ma, ml, hz, e0, hI, hJ, hP, hD⟩ := hW
  subst e0
  refine lv_aload_n hx hb dL_law_1640 rfl (lv_at hl 2 rfl) ?_
  refine lv_aload_n hx hb dL_law_1641 rfl (lv_at hl 3 rfl) ?_
  refine lv_iload_n hx hb dL_law_1642 rfl (lv_at hl 0 rfl) ?_
  refine lv_iconst (v := 1) hx hb dL_law_1643 (by decide) ?_
  refine lv_iadd hx hb dL_law_1644 ?_
  refine va_sld hx hb hX hbl hbA hS i1 dL_law_1645 ?_
  refine lGoI11 (cRunV (As := [.int (xs (i + 1).toNatClampNeg)]) (rest := []) ⟨hx, hb, hml, hown, hw⟩ hK hN hP hD [0] rfl rfl (met_oneI (k_X11_taken l D C _ L0 aU aR aR2 aS n0 aN y0 y1 y2 o0 h_images us ua rs ra rs2 ra2 sa sl ns na nl y_isThere y_taken y_took o_of (xs (i + 1).toNatClampNeg) (q_taken hI (xs (i + 1).toNatClampNeg)))) (cwV 1 hw (goodV mw_5_204 mw_5_205 mw_5_206 mw_1_1 mw_5_207) rfl rfl rfl (by decide +kernel) ⟨Nat.le_of_ble_eq_true rfl, Nat.le_of_ble_eq_true rfl⟩) rfl rfl rfl hl.1 rfl (Nat.le_of_ble_eq_true rfl) dL_law_1646 hcs) hP hD hS hA (fun r1 u H locs h hP hD hS => ?_)
  have hP : va_P D vwCl (List.flatten (lW L0 C aU aR aR2 h_images aS n0 aN y0 y1 y2 o0 aM us ua rs ra rs2 ra2 sa sl ns na nl y_isThere y_taken y_took o_of imf J ms mw ma ml)) H := hP
  have hD : va_D A (List.flatten (lW L0 C aU aR aR2 h_images aS n0 aN y0 y1 y2 o0 aM us ua rs ra rs2 ra2 sa sl ns na nl y_isThere y_taken y_took o_of imf J ms mw ma ml)) := hD
  refine lv_pop hx hb dL_law_1649 rfl ?_
  refine lv_aload_n hx hb dL_law_1650 rfl (lv_at hl 1 rfl) ?_
  refine lv_aload_n hx hb dL_law_1651 rfl (lv_at hl 3 rfl) ?_
  refine lv_iload_n hx hb dL_law_1652 rfl (lv_at hl 0 rfl) ?_
  refine lv_iconst (v := 1) hx hb dL_law_1653 (by decide) ?_
  refine lv_iadd hx hb dL_law_1654 ?_
  refine va_sld hx hb hX hbl hbA hS i1 dL_law_1655 ?_
  refine lGoI12 (cRunV (As := [.int (xs (i + 1).toNatClampNeg)]) (rest := []) ⟨hx, hb, hml, hown, hw⟩ hK hN hP hD [5] rfl rfl (met_oneI (k_X12_taken l D C _ aM ms mw ma ml (xs (i + 1).toNatClampNeg) h)) (cwV 1 hw (goodV mw_9_79 mw_9_80 mw_9_81 mw_1_13 mw_9_82) rfl rfl rfl (by decide +kernel) ⟨Nat.le_of_ble_eq_true rfl, Nat.le_of_ble_eq_true rfl⟩) rfl rfl rfl hl.1 rfl (Nat.le_of_ble_eq_true rfl) dL_law_1656 hcs) hP hD hS hA (fun r2 ms2 H locs h hP hD hS => ?_)
  have hP : va_P D vwCl (List.flatten (lW L0 C aU aR aR2 h_images aS n0 aN y0 y1 y2 o0 aM us ua rs ra rs2 ra2 sa sl ns na nl y_isThere y_taken y_took o_of imf J ms2 mw ma ml)) H := hP
  have hD : va_D A (List.flatten (lW L0 C aU aR aR2 h_images aS n0 aN y0 y1 y2 o0 aM us ua rs ra rs2 ra2 sa sl ns na nl y_isThere y_taken y_took o_of imf J ms2 mw ma ml)) := hD
  refine lv_pop hx hb dL_law_1659 rfl ?_
  refine lv_goto (tgt := 1977) hx hb dL_law_1660 (by decide) ?_
  obtain ⟨-, hI⟩ := h
  exact kk H locs ⟨aU, aR, aR2, h_images, aS, n0, aN, y0, y1, y2, o0, aM, us, ua, rs, ra, rs2, ra2, sa, sl, ns, na, nl, y_isThere, y_taken, y_took, o_of, imf, J, im, ms2, mw, ma, ml, False.elim, rfl, hI, hJ, hP, hD⟩ hS
set_option maxHeartbeats 400000 in
set_option maxRecDepth 100000 in
theorem lc_51 {p : Program} {l : Launch} {e : Env} {s : State} {m : MethodId} {below : List Frame} {meth : Method} {c : Code} {b L : Nat} {xs : Nat → Int32} {D : va_G} {C : Nat → ClassId} {A : Nat → Prop} {H : Heap} {locs : List Loc} {cells slots : Nat} {Q : State → Prop} {ls : Array Slot} {L0 m0 : Nat} {i : Int32} {z : Prop} (hC : LC p s m c b L xs D C A) (hl : lv_has ls 4 [(3, .int i), (2, .ref m0), (1, .ref L0), (0, .ref b)]) (i1 : vp_in (i + 1) L) (i2 : vp_in (i + 2) L) (i3 : vp_in (i + 3) L) (i4 : vp_in (i + 4) L) (i5 : vp_in (i + 5) L) (hcs : cells ≤ 600000 ∧ slots ≤ room_1.slots) (hS : va_S A s.heap H locs) (hW : LSt z D C A L0 m0 H)  (kk : ∀ (H : Heap) (locs : List Loc), LSt False D C A L0 m0 H → va_S A s.heap H locs → W p l e room_1 s m #[Value.ref b] below meth c H locs cells slots Q (F0 m 1977 ls [])) : W p l e room_1 s m #[Value.ref b] below meth c H locs cells slots Q (F0 m 1663 ls []) := by
  obtain ⟨hx, hb, hml, hown, hw, hK, hN, hA, hX, hbl, hbA, hZ⟩ := hC
  obtain ⟨aU, aR, aR2, h_images, aS, n0, aN, y0, y1, y2, o0, aM, us, ua, rs, ra, rs2, ra2, sa, sl, ns, na, nl, y_isThere, y_taken, y_took, o_of, imf, J, im, ms, mw, ma, ml, hz, e0, hI, hJ, hP, hD⟩ := hW
  subst e0
  refine lv_aload_n hx hb dL_law_1663 rfl (lv_at hl 2 rfl) ?_
  refine lv_aload_n hx hb dL_law_1664 rfl (lv_at hl 3 rfl) ?_
  refine lv_iload_n hx hb dL_law_1665 rfl (lv_at hl 0 rfl) ?_
  refine lv_iconst (v := 1) hx hb dL_law_1666 (by decide) ?_
  refine lv_iadd hx hb dL_law_1667 ?_
  refine va_sld hx hb hX hbl hbA hS i1 dL_law_1668 ?_
  refine lGoI11 (cRunV (As := [.int (xs (i + 1).toNatClampNeg)]) (rest := []) ⟨hx, hb, hml, hown, hw⟩ hK hN hP hD [0] rfl rfl (met_oneI (k_X11_took l D C _ L0 aU aR aR2 aS n0 aN y0 y1 y2 o0 h_images us ua rs ra rs2 ra2 sa sl ns na nl y_isThere y_taken y_took o_of (xs (i + 1).toNatClampNeg) (q_took hI (xs (i + 1).toNatClampNeg)))) (cwV 1 hw (goodV mw_5_208 mw_5_209 mw_5_210 mw_1_1 mw_5_211) rfl rfl rfl (by decide +kernel) ⟨Nat.le_of_ble_eq_true rfl, Nat.le_of_ble_eq_true rfl⟩) rfl rfl rfl hl.1 rfl (Nat.le_of_ble_eq_true rfl) dL_law_1669 hcs) hP hD hS hA (fun r1 u H locs h hP hD hS => ?_)
  have hP : va_P D vwCl (List.flatten (lW L0 C aU aR aR2 h_images aS n0 aN y0 y1 y2 o0 aM us ua rs ra rs2 ra2 sa sl ns na nl y_isThere y_taken y_took o_of imf J ms mw ma ml)) H := hP
  have hD : va_D A (List.flatten (lW L0 C aU aR aR2 h_images aS n0 aN y0 y1 y2 o0 aM us ua rs ra rs2 ra2 sa sl ns na nl y_isThere y_taken y_took o_of imf J ms mw ma ml)) := hD
  refine lv_pop hx hb dL_law_1672 rfl ?_
  refine lv_aload_n hx hb dL_law_1673 rfl (lv_at hl 1 rfl) ?_
  refine lv_aload_n hx hb dL_law_1674 rfl (lv_at hl 3 rfl) ?_
  refine lv_iload_n hx hb dL_law_1675 rfl (lv_at hl 0 rfl) ?_
  refine lv_iconst (v := 1) hx hb dL_law_1676 (by decide) ?_
  refine lv_iadd hx hb dL_law_1677 ?_
  refine va_sld hx hb hX hbl hbA hS i1 dL_law_1678 ?_
  refine lGoI12 (cRunV (As := [.int (xs (i + 1).toNatClampNeg)]) (rest := []) ⟨hx, hb, hml, hown, hw⟩ hK hN hP hD [5] rfl rfl (met_oneI (k_X12_took l D C _ aM ms mw ma ml (xs (i + 1).toNatClampNeg) h)) (cwV 1 hw (goodV mw_9_83 mw_9_84 mw_9_85 mw_1_13 mw_9_86) rfl rfl rfl (by decide +kernel) ⟨Nat.le_of_ble_eq_true rfl, Nat.le_of_ble_eq_true rfl⟩) rfl rfl rfl hl.1 rfl (Nat.le_of_ble_eq_true rfl) dL_law_1679 hcs) hP hD hS hA (fun r2 ms2 H locs h hP hD hS => ?_)
  have hP : va_P D vwCl (List.flatten (lW L0 C aU aR aR2 h_images aS n0 aN y0 y1 y2 o0 aM us ua rs ra rs2 ra2 sa sl ns na nl y_isThere y_taken y_took o_of imf J ms2 mw ma ml)) H := hP
  have hD : va_D A (List.flatten (lW L0 C aU aR aR2 h_images aS n0 aN y0 y1 y2 o0 aM us ua rs ra rs2 ra2 sa sl ns na nl y_isThere y_taken y_took o_of imf J ms2 mw ma ml)) := hD
  refine lv_pop hx hb dL_law_1682 rfl ?_
  refine lv_goto (tgt := 1977) hx hb dL_law_1683 (by decide) ?_
  obtain ⟨-, hI⟩ := h
  exact kk H locs ⟨aU, aR, aR2, h_images, aS, n0, aN, y0, y1, y2, o0, aM, us, ua, rs, ra, rs2, ra2, sa, sl, ns, na, nl, y_isThere, y_taken, y_took, o_of, imf, J, im, ms2, mw, ma, ml, False.elim, rfl, hI, hJ, hP, hD⟩ hS
set_option maxHeartbeats 400000 in
set_option maxRecDepth 100000 in
theorem lc_52 {p : Program} {l : Launch} {e : Env} {s : State} {m : MethodId} {below : List Frame} {meth : Method} {c : Code} {b L : Nat} {xs : Nat → Int32} {D : va_G} {C : Nat → ClassId} {A : Nat → Prop} {H : Heap} {locs : List Loc} {cells slots : Nat} {Q : State → Prop} {ls : Array Slot} {L0 m0 : Nat} {i : Int32} {z : Prop} (hC : LC p s m c b L xs D C A) (hl : lv_has ls 4 [(3, .int i), (2, .ref m0), (1, .ref L0), (0, .ref b)]) (i1 : vp_in (i + 1) L) (i2 : vp_in (i + 2) L) (i3 : vp_in (i + 3) L) (i4 : vp_in (i + 4) L) (i5 : vp_in (i + 5) L) (hcs : cells ≤ 600000 ∧ slots ≤ room_1.slots) (hS : va_S A s.heap H locs) (hW : LSt z D C A L0 m0 H)  (kk : ∀ (H : Heap) (locs : List Loc), LSt False D C A L0 m0 H → va_S A s.heap H locs → W p l e room_1 s m #[Value.ref b] below meth c H locs cells slots Q (F0 m 1977 ls [])) : W p l e room_1 s m #[Value.ref b] below meth c H locs cells slots Q (F0 m 1686 ls []) := by
  obtain ⟨hx, hb, hml, hown, hw, hK, hN, hA, hX, hbl, hbA, hZ⟩ := hC
  obtain ⟨aU, aR, aR2, h_images, aS, n0, aN, y0, y1, y2, o0, aM, us, ua, rs, ra, rs2, ra2, sa, sl, ns, na, nl, y_isThere, y_taken, y_took, o_of, imf, J, im, ms, mw, ma, ml, hz, e0, hI, hJ, hP, hD⟩ := hW
  subst e0
  refine lv_aload_n hx hb dL_law_1686 rfl (lv_at hl 2 rfl) ?_
  refine lv_aload_n hx hb dL_law_1687 rfl (lv_at hl 3 rfl) ?_
  refine lv_iload_n hx hb dL_law_1688 rfl (lv_at hl 0 rfl) ?_
  refine lv_iconst (v := 1) hx hb dL_law_1689 (by decide) ?_
  refine lv_iadd hx hb dL_law_1690 ?_
  refine va_sld hx hb hX hbl hbA hS i1 dL_law_1691 ?_
  refine lv_aload_n hx hb dL_law_1692 rfl (lv_at hl 3 rfl) ?_
  refine lv_iload_n hx hb dL_law_1693 rfl (lv_at hl 0 rfl) ?_
  refine lv_iconst (v := 2) hx hb dL_law_1694 (by decide) ?_
  refine lv_iadd hx hb dL_law_1695 ?_
  refine va_sld hx hb hX hbl hbA hS i2 dL_law_1696 ?_
  refine lv_aload_n hx hb dL_law_1697 rfl (lv_at hl 3 rfl) ?_
  refine lv_iload_n hx hb dL_law_1698 rfl (lv_at hl 0 rfl) ?_
  refine lv_iconst (v := 3) hx hb dL_law_1699 (by decide) ?_
  refine lv_iadd hx hb dL_law_1700 ?_
  refine va_sld hx hb hX hbl hbA hS i3 dL_law_1701 ?_
  refine lGoL11 (cRunV (As := [.int (xs (i + 1).toNatClampNeg), .int (xs (i + 2).toNatClampNeg), .int (xs (i + 3).toNatClampNeg)]) (rest := []) ⟨hx, hb, hml, hown, hw⟩ hK hN hP hD [0] rfl rfl (met_oneL (k_X11_years l D C _ L0 aU aR aR2 aS n0 aN y0 y1 y2 o0 h_images us ua rs ra rs2 ra2 sa sl ns na nl y_isThere y_taken y_took o_of (xs (i + 1).toNatClampNeg) (xs (i + 2).toNatClampNeg) (xs (i + 3).toNatClampNeg) (q_years hI mw y_taken y_took (xs (i + 1).toNatClampNeg) (xs (i + 2).toNatClampNeg) (xs (i + 3).toNatClampNeg)))) (cwV 3 hw (goodV mw_5_212 mw_5_213 mw_5_214 mw_1_1 mw_5_215) rfl rfl rfl (by decide +kernel) ⟨Nat.le_of_ble_eq_true rfl, Nat.le_of_ble_eq_true rfl⟩) rfl rfl rfl hl.1 rfl (Nat.le_of_ble_eq_true rfl) dL_law_1702 hcs) hP hD hS hA (fun r1 u H locs h hP hD hS => ?_)
  obtain ⟨ns1, na1, y_isThere1, y_taken1, y_took1⟩ := u
  have hP : va_P D vwCl (List.flatten (lW L0 C aU aR aR2 h_images aS n0 aN y0 y1 y2 o0 aM us ua rs ra rs2 ra2 sa sl ns1 na1 nl y_isThere1 y_taken1 y_took1 o_of imf J ms mw ma ml)) H := hP
  have hD : va_D A (List.flatten (lW L0 C aU aR aR2 h_images aS n0 aN y0 y1 y2 o0 aM us ua rs ra rs2 ra2 sa sl ns1 na1 nl y_isThere1 y_taken1 y_took1 o_of imf J ms mw ma ml)) := hD
  refine lv_pop2_2 hx hb dL_law_1705 rfl ?_
  refine lv_aload_n hx hb dL_law_1706 rfl (lv_at hl 1 rfl) ?_
  refine lv_aload_n hx hb dL_law_1707 rfl (lv_at hl 3 rfl) ?_
  refine lv_iload_n hx hb dL_law_1708 rfl (lv_at hl 0 rfl) ?_
  refine lv_iconst (v := 1) hx hb dL_law_1709 (by decide) ?_
  refine lv_iadd hx hb dL_law_1710 ?_
  refine va_sld hx hb hX hbl hbA hS i1 dL_law_1711 ?_
  refine lv_aload_n hx hb dL_law_1712 rfl (lv_at hl 3 rfl) ?_
  refine lv_iload_n hx hb dL_law_1713 rfl (lv_at hl 0 rfl) ?_
  refine lv_iconst (v := 2) hx hb dL_law_1714 (by decide) ?_
  refine lv_iadd hx hb dL_law_1715 ?_
  refine va_sld hx hb hX hbl hbA hS i2 dL_law_1716 ?_
  refine lv_aload_n hx hb dL_law_1717 rfl (lv_at hl 3 rfl) ?_
  refine lv_iload_n hx hb dL_law_1718 rfl (lv_at hl 0 rfl) ?_
  refine lv_iconst (v := 3) hx hb dL_law_1719 (by decide) ?_
  refine lv_iadd hx hb dL_law_1720 ?_
  refine va_sld hx hb hX hbl hbA hS i3 dL_law_1721 ?_
  refine lGoL12 (cRunV (As := [.int (xs (i + 1).toNatClampNeg), .int (xs (i + 2).toNatClampNeg), .int (xs (i + 3).toNatClampNeg)]) (rest := []) ⟨hx, hb, hml, hown, hw⟩ hK hN hP hD [5] rfl rfl (met_oneL (k_X12_years l D C _ aM ms mw ma ml (xs (i + 1).toNatClampNeg) (xs (i + 2).toNatClampNeg) (xs (i + 3).toNatClampNeg) h)) (cwV 3 hw (goodV mw_9_87 mw_9_88 mw_9_89 mw_1_13 mw_9_90) rfl rfl rfl (by decide +kernel) ⟨Nat.le_of_ble_eq_true rfl, Nat.le_of_ble_eq_true rfl⟩) rfl rfl rfl hl.1 rfl (Nat.le_of_ble_eq_true rfl) dL_law_1722 hcs) hP hD hS hA (fun r2 u H locs h hP hD hS => ?_)
  obtain ⟨ms2, mw2, ma2⟩ := u
  have hP : va_P D vwCl (List.flatten (lW L0 C aU aR aR2 h_images aS n0 aN y0 y1 y2 o0 aM us ua rs ra rs2 ra2 sa sl ns1 na1 nl y_isThere1 y_taken1 y_took1 o_of imf J ms2 mw2 ma2 ml)) H := hP
  have hD : va_D A (List.flatten (lW L0 C aU aR aR2 h_images aS n0 aN y0 y1 y2 o0 aM us ua rs ra rs2 ra2 sa sl ns1 na1 nl y_isThere1 y_taken1 y_took1 o_of imf J ms2 mw2 ma2 ml)) := hD
  refine lv_pop2_2 hx hb dL_law_1725 rfl ?_
  refine lv_goto (tgt := 1977) hx hb dL_law_1726 (by decide) ?_
  obtain ⟨-, hI⟩ := h
  exact kk H locs ⟨aU, aR, aR2, h_images, aS, n0, aN, y0, y1, y2, o0, aM, us, ua, rs, ra, rs2, ra2, sa, sl, ns1, na1, nl, y_isThere1, y_taken1, y_took1, o_of, imf, J, im, ms2, mw2, ma2, ml, False.elim, rfl, hI, hJ, hP, hD⟩ hS
set_option maxHeartbeats 400000 in
set_option maxRecDepth 100000 in
theorem lc_53 {p : Program} {l : Launch} {e : Env} {s : State} {m : MethodId} {below : List Frame} {meth : Method} {c : Code} {b L : Nat} {xs : Nat → Int32} {D : va_G} {C : Nat → ClassId} {A : Nat → Prop} {H : Heap} {locs : List Loc} {cells slots : Nat} {Q : State → Prop} {ls : Array Slot} {L0 m0 : Nat} {i : Int32} {z : Prop} (hC : LC p s m c b L xs D C A) (hl : lv_has ls 4 [(3, .int i), (2, .ref m0), (1, .ref L0), (0, .ref b)]) (i1 : vp_in (i + 1) L) (i2 : vp_in (i + 2) L) (i3 : vp_in (i + 3) L) (i4 : vp_in (i + 4) L) (i5 : vp_in (i + 5) L) (hcs : cells ≤ 600000 ∧ slots ≤ room_1.slots) (hS : va_S A s.heap H locs) (hW : LSt z D C A L0 m0 H)  (kk : ∀ (H : Heap) (locs : List Loc), LSt False D C A L0 m0 H → va_S A s.heap H locs → W p l e room_1 s m #[Value.ref b] below meth c H locs cells slots Q (F0 m 1977 ls [])) : W p l e room_1 s m #[Value.ref b] below meth c H locs cells slots Q (F0 m 1729 ls []) := by
  obtain ⟨hx, hb, hml, hown, hw, hK, hN, hA, hX, hbl, hbA, hZ⟩ := hC
  obtain ⟨aU, aR, aR2, h_images, aS, n0, aN, y0, y1, y2, o0, aM, us, ua, rs, ra, rs2, ra2, sa, sl, ns, na, nl, y_isThere, y_taken, y_took, o_of, imf, J, im, ms, mw, ma, ml, hz, e0, hI, hJ, hP, hD⟩ := hW
  subst e0
  refine lv_aload_n hx hb dL_law_1729 rfl (lv_at hl 2 rfl) ?_
  refine lv_aload_n hx hb dL_law_1730 rfl (lv_at hl 3 rfl) ?_
  refine lv_iload_n hx hb dL_law_1731 rfl (lv_at hl 0 rfl) ?_
  refine lv_iconst (v := 1) hx hb dL_law_1732 (by decide) ?_
  refine lv_iadd hx hb dL_law_1733 ?_
  refine va_sld hx hb hX hbl hbA hS i1 dL_law_1734 ?_
  refine lGoI11 (cRunV (As := [.int (xs (i + 1).toNatClampNeg)]) (rest := []) ⟨hx, hb, hml, hown, hw⟩ hK hN hP hD [0] rfl rfl (met_oneI (k_X11_count l D C _ L0 aU aR aR2 aS n0 aN y0 y1 y2 o0 h_images us ua rs ra rs2 ra2 sa sl ns na nl y_isThere y_taken y_took o_of (xs (i + 1).toNatClampNeg) (q_count hI (xs (i + 1).toNatClampNeg)))) (cwV 1 hw (goodV mw_5_223 mw_5_224 mw_5_225 mw_1_1 mw_5_226) rfl rfl rfl (by decide +kernel) ⟨Nat.le_of_ble_eq_true rfl, Nat.le_of_ble_eq_true rfl⟩) rfl rfl rfl hl.1 rfl (Nat.le_of_ble_eq_true rfl) dL_law_1735 hcs) hP hD hS hA (fun r1 u H locs h hP hD hS => ?_)
  have hP : va_P D vwCl (List.flatten (lW L0 C aU aR aR2 h_images aS n0 aN y0 y1 y2 o0 aM us ua rs ra rs2 ra2 sa sl ns na nl y_isThere y_taken y_took o_of imf J ms mw ma ml)) H := hP
  have hD : va_D A (List.flatten (lW L0 C aU aR aR2 h_images aS n0 aN y0 y1 y2 o0 aM us ua rs ra rs2 ra2 sa sl ns na nl y_isThere y_taken y_took o_of imf J ms mw ma ml)) := hD
  refine lv_pop hx hb dL_law_1738 rfl ?_
  refine lv_aload_n hx hb dL_law_1739 rfl (lv_at hl 1 rfl) ?_
  refine lv_aload_n hx hb dL_law_1740 rfl (lv_at hl 3 rfl) ?_
  refine lv_iload_n hx hb dL_law_1741 rfl (lv_at hl 0 rfl) ?_
  refine lv_iconst (v := 1) hx hb dL_law_1742 (by decide) ?_
  refine lv_iadd hx hb dL_law_1743 ?_
  refine va_sld hx hb hX hbl hbA hS i1 dL_law_1744 ?_
  refine lGoI12 (cRunV (As := [.int (xs (i + 1).toNatClampNeg)]) (rest := []) ⟨hx, hb, hml, hown, hw⟩ hK hN hP hD [5] rfl rfl (met_oneI (k_X12_count l D C _ aM ms mw ma ml (xs (i + 1).toNatClampNeg) h)) (cwV 1 hw (goodV mw_9_91 mw_9_92 mw_9_93 mw_1_13 mw_9_94) rfl rfl rfl (by decide +kernel) ⟨Nat.le_of_ble_eq_true rfl, Nat.le_of_ble_eq_true rfl⟩) rfl rfl rfl hl.1 rfl (Nat.le_of_ble_eq_true rfl) dL_law_1745 hcs) hP hD hS hA (fun r2 ms2 H locs h hP hD hS => ?_)
  have hP : va_P D vwCl (List.flatten (lW L0 C aU aR aR2 h_images aS n0 aN y0 y1 y2 o0 aM us ua rs ra rs2 ra2 sa sl ns na nl y_isThere y_taken y_took o_of imf J ms2 mw ma ml)) H := hP
  have hD : va_D A (List.flatten (lW L0 C aU aR aR2 h_images aS n0 aN y0 y1 y2 o0 aM us ua rs ra rs2 ra2 sa sl ns na nl y_isThere y_taken y_took o_of imf J ms2 mw ma ml)) := hD
  refine lv_pop hx hb dL_law_1748 rfl ?_
  refine lv_goto (tgt := 1977) hx hb dL_law_1749 (by decide) ?_
  obtain ⟨-, hI⟩ := h
  exact kk H locs ⟨aU, aR, aR2, h_images, aS, n0, aN, y0, y1, y2, o0, aM, us, ua, rs, ra, rs2, ra2, sa, sl, ns, na, nl, y_isThere, y_taken, y_took, o_of, imf, J, im, ms2, mw, ma, ml, False.elim, rfl, hI, hJ, hP, hD⟩ hS
set_option maxHeartbeats 400000 in
set_option maxRecDepth 100000 in
theorem lc_56 {p : Program} {l : Launch} {e : Env} {s : State} {m : MethodId} {below : List Frame} {meth : Method} {c : Code} {b L : Nat} {xs : Nat → Int32} {D : va_G} {C : Nat → ClassId} {A : Nat → Prop} {H : Heap} {locs : List Loc} {cells slots : Nat} {Q : State → Prop} {ls : Array Slot} {L0 m0 : Nat} {i : Int32} {z : Prop} (hC : LC p s m c b L xs D C A) (hl : lv_has ls 4 [(3, .int i), (2, .ref m0), (1, .ref L0), (0, .ref b)]) (i1 : vp_in (i + 1) L) (i2 : vp_in (i + 2) L) (i3 : vp_in (i + 3) L) (i4 : vp_in (i + 4) L) (i5 : vp_in (i + 5) L) (hcs : cells ≤ 600000 ∧ slots ≤ room_1.slots) (hS : va_S A s.heap H locs) (hW : LSt z D C A L0 m0 H)  (kk : ∀ (H : Heap) (locs : List Loc), LSt False D C A L0 m0 H → va_S A s.heap H locs → W p l e room_1 s m #[Value.ref b] below meth c H locs cells slots Q (F0 m 1977 ls [])) : W p l e room_1 s m #[Value.ref b] below meth c H locs cells slots Q (F0 m 1798 ls []) := by
  obtain ⟨hx, hb, hml, hown, hw, hK, hN, hA, hX, hbl, hbA, hZ⟩ := hC
  obtain ⟨aU, aR, aR2, h_images, aS, n0, aN, y0, y1, y2, o0, aM, us, ua, rs, ra, rs2, ra2, sa, sl, ns, na, nl, y_isThere, y_taken, y_took, o_of, imf, J, im, ms, mw, ma, ml, hz, e0, hI, hJ, hP, hD⟩ := hW
  subst e0
  refine lv_aload_n hx hb dL_law_1798 rfl (lv_at hl 2 rfl) ?_
  refine lv_aload_n hx hb dL_law_1799 rfl (lv_at hl 3 rfl) ?_
  refine lv_iload_n hx hb dL_law_1800 rfl (lv_at hl 0 rfl) ?_
  refine lv_iconst (v := 1) hx hb dL_law_1801 (by decide) ?_
  refine lv_iadd hx hb dL_law_1802 ?_
  refine va_sld hx hb hX hbl hbA hS i1 dL_law_1803 ?_
  refine lv_aload_n hx hb dL_law_1804 rfl (lv_at hl 3 rfl) ?_
  refine lv_iload_n hx hb dL_law_1805 rfl (lv_at hl 0 rfl) ?_
  refine lv_iconst (v := 2) hx hb dL_law_1806 (by decide) ?_
  refine lv_iadd hx hb dL_law_1807 ?_
  refine va_sld hx hb hX hbl hbA hS i2 dL_law_1808 ?_
  refine lv_aload_n hx hb dL_law_1809 rfl (lv_at hl 3 rfl) ?_
  refine lv_iload_n hx hb dL_law_1810 rfl (lv_at hl 0 rfl) ?_
  refine lv_iconst (v := 3) hx hb dL_law_1811 (by decide) ?_
  refine lv_iadd hx hb dL_law_1812 ?_
  refine va_sld hx hb hX hbl hbA hS i3 dL_law_1813 ?_
  refine lGoI11 (cRunV (As := [.int (xs (i + 1).toNatClampNeg), .int (xs (i + 2).toNatClampNeg), .int (xs (i + 3).toNatClampNeg)]) (rest := []) ⟨hx, hb, hml, hown, hw⟩ hK hN hP hD [0] rfl rfl (met_oneI (k_X11_row l D C _ L0 aU aR aR2 aS n0 aN y0 y1 y2 o0 h_images us ua rs ra rs2 ra2 sa sl ns na nl y_isThere y_taken y_took o_of (xs (i + 1).toNatClampNeg) (xs (i + 2).toNatClampNeg) (xs (i + 3).toNatClampNeg) (q_row hI (xs (i + 1).toNatClampNeg) (xs (i + 2).toNatClampNeg) (xs (i + 3).toNatClampNeg)))) (cwV 3 hw (goodV mw_6_0 mw_6_1 mw_6_2 mw_1_1 mw_6_3) rfl rfl rfl (by decide +kernel) ⟨Nat.le_of_ble_eq_true rfl, Nat.le_of_ble_eq_true rfl⟩) rfl rfl rfl hl.1 rfl (Nat.le_of_ble_eq_true rfl) dL_law_1814 hcs) hP hD hS hA (fun r1 u H locs h hP hD hS => ?_)
  obtain ⟨sa1, sl1⟩ := u
  have hP : va_P D vwCl (List.flatten (lW L0 C aU aR aR2 h_images aS n0 aN y0 y1 y2 o0 aM us ua rs ra rs2 ra2 sa1 sl1 ns na nl y_isThere y_taken y_took o_of imf J ms mw ma ml)) H := hP
  have hD : va_D A (List.flatten (lW L0 C aU aR aR2 h_images aS n0 aN y0 y1 y2 o0 aM us ua rs ra rs2 ra2 sa1 sl1 ns na nl y_isThere y_taken y_took o_of imf J ms mw ma ml)) := hD
  refine lv_pop hx hb dL_law_1817 rfl ?_
  refine lv_aload_n hx hb dL_law_1818 rfl (lv_at hl 1 rfl) ?_
  refine lv_aload_n hx hb dL_law_1819 rfl (lv_at hl 3 rfl) ?_
  refine lv_iload_n hx hb dL_law_1820 rfl (lv_at hl 0 rfl) ?_
  refine lv_iconst (v := 1) hx hb dL_law_1821 (by decide) ?_
  refine lv_iadd hx hb dL_law_1822 ?_
  refine va_sld hx hb hX hbl hbA hS i1 dL_law_1823 ?_
  refine lv_aload_n hx hb dL_law_1824 rfl (lv_at hl 3 rfl) ?_
  refine lv_iload_n hx hb dL_law_1825 rfl (lv_at hl 0 rfl) ?_
  refine lv_iconst (v := 2) hx hb dL_law_1826 (by decide) ?_
  refine lv_iadd hx hb dL_law_1827 ?_
  refine va_sld hx hb hX hbl hbA hS i2 dL_law_1828 ?_
  refine lv_aload_n hx hb dL_law_1829 rfl (lv_at hl 3 rfl) ?_
  refine lv_iload_n hx hb dL_law_1830 rfl (lv_at hl 0 rfl) ?_
  refine lv_iconst (v := 3) hx hb dL_law_1831 (by decide) ?_
  refine lv_iadd hx hb dL_law_1832 ?_
  refine va_sld hx hb hX hbl hbA hS i3 dL_law_1833 ?_
  refine lGoI12 (cRunV (As := [.int (xs (i + 1).toNatClampNeg), .int (xs (i + 2).toNatClampNeg), .int (xs (i + 3).toNatClampNeg)]) (rest := []) ⟨hx, hb, hml, hown, hw⟩ hK hN hP hD [5] rfl rfl (met_oneI (k_X12_row l D C _ aM ms mw ma ml (xs (i + 1).toNatClampNeg) (xs (i + 2).toNatClampNeg) (xs (i + 3).toNatClampNeg) h)) (cwV 3 hw (goodV mw_6_197 mw_6_198 mw_6_199 mw_1_13 mw_6_200) rfl rfl rfl (by decide +kernel) ⟨Nat.le_of_ble_eq_true rfl, Nat.le_of_ble_eq_true rfl⟩) rfl rfl rfl hl.1 rfl (Nat.le_of_ble_eq_true rfl) dL_law_1834 hcs) hP hD hS hA (fun r2 u H locs h hP hD hS => ?_)
  obtain ⟨ms2, ma2, ml2⟩ := u
  have hP : va_P D vwCl (List.flatten (lW L0 C aU aR aR2 h_images aS n0 aN y0 y1 y2 o0 aM us ua rs ra rs2 ra2 sa1 sl1 ns na nl y_isThere y_taken y_took o_of imf J ms2 mw ma2 ml2)) H := hP
  have hD : va_D A (List.flatten (lW L0 C aU aR aR2 h_images aS n0 aN y0 y1 y2 o0 aM us ua rs ra rs2 ra2 sa1 sl1 ns na nl y_isThere y_taken y_took o_of imf J ms2 mw ma2 ml2)) := hD
  refine lv_pop hx hb dL_law_1837 rfl ?_
  refine lv_goto (tgt := 1977) hx hb dL_law_1838 (by decide) ?_
  obtain ⟨-, hI⟩ := h
  exact kk H locs ⟨aU, aR, aR2, h_images, aS, n0, aN, y0, y1, y2, o0, aM, us, ua, rs, ra, rs2, ra2, sa1, sl1, ns, na, nl, y_isThere, y_taken, y_took, o_of, imf, J, im, ms2, mw, ma2, ml2, False.elim, rfl, hI, hJ, hP, hD⟩ hS
set_option maxHeartbeats 400000 in
set_option maxRecDepth 100000 in
theorem lc_57 {p : Program} {l : Launch} {e : Env} {s : State} {m : MethodId} {below : List Frame} {meth : Method} {c : Code} {b L : Nat} {xs : Nat → Int32} {D : va_G} {C : Nat → ClassId} {A : Nat → Prop} {H : Heap} {locs : List Loc} {cells slots : Nat} {Q : State → Prop} {ls : Array Slot} {L0 m0 : Nat} {i : Int32} {z : Prop} (hC : LC p s m c b L xs D C A) (hl : lv_has ls 4 [(3, .int i), (2, .ref m0), (1, .ref L0), (0, .ref b)]) (i1 : vp_in (i + 1) L) (i2 : vp_in (i + 2) L) (i3 : vp_in (i + 3) L) (i4 : vp_in (i + 4) L) (i5 : vp_in (i + 5) L) (hcs : cells ≤ 600000 ∧ slots ≤ room_1.slots) (hS : va_S A s.heap H locs) (hW : LSt z D C A L0 m0 H)  (kk : ∀ (H : Heap) (locs : List Loc), LSt False D C A L0 m0 H → va_S A s.heap H locs → W p l e room_1 s m #[Value.ref b] below meth c H locs cells slots Q (F0 m 1977 ls [])) : W p l e room_1 s m #[Value.ref b] below meth c H locs cells slots Q (F0 m 1841 ls []) := by
  obtain ⟨hx, hb, hml, hown, hw, hK, hN, hA, hX, hbl, hbA, hZ⟩ := hC
  obtain ⟨aU, aR, aR2, h_images, aS, n0, aN, y0, y1, y2, o0, aM, us, ua, rs, ra, rs2, ra2, sa, sl, ns, na, nl, y_isThere, y_taken, y_took, o_of, imf, J, im, ms, mw, ma, ml, hz, e0, hI, hJ, hP, hD⟩ := hW
  subst e0
  refine lv_aload_n hx hb dL_law_1841 rfl (lv_at hl 2 rfl) ?_
  refine lv_aload_n hx hb dL_law_1842 rfl (lv_at hl 3 rfl) ?_
  refine lv_iload_n hx hb dL_law_1843 rfl (lv_at hl 0 rfl) ?_
  refine lv_iconst (v := 1) hx hb dL_law_1844 (by decide) ?_
  refine lv_iadd hx hb dL_law_1845 ?_
  refine va_sld hx hb hX hbl hbA hS i1 dL_law_1846 ?_
  refine lv_aload_n hx hb dL_law_1847 rfl (lv_at hl 3 rfl) ?_
  refine lv_iload_n hx hb dL_law_1848 rfl (lv_at hl 0 rfl) ?_
  refine lv_iconst (v := 2) hx hb dL_law_1849 (by decide) ?_
  refine lv_iadd hx hb dL_law_1850 ?_
  refine va_sld hx hb hX hbl hbA hS i2 dL_law_1851 ?_
  refine lv_aload_n hx hb dL_law_1852 rfl (lv_at hl 3 rfl) ?_
  refine lv_iload_n hx hb dL_law_1853 rfl (lv_at hl 0 rfl) ?_
  refine lv_iconst (v := 3) hx hb dL_law_1854 (by decide) ?_
  refine lv_iadd hx hb dL_law_1855 ?_
  refine va_sld hx hb hX hbl hbA hS i3 dL_law_1856 ?_
  refine lv_i2l hx hb dL_law_1857 rfl ?_
  refine lv_bipush (v := 32) hx hb dL_law_1858 (by decide) ?_
  refine lv_lshl hx hb dL_law_1860 rfl ?_
  refine lv_aload_n hx hb dL_law_1861 rfl (lv_at hl 3 rfl) ?_
  refine lv_iload_n hx hb dL_law_1862 rfl (lv_at hl 0 rfl) ?_
  refine lv_iconst (v := 4) hx hb dL_law_1863 (by decide) ?_
  refine lv_iadd hx hb dL_law_1864 ?_
  refine va_sld hx hb hX hbl hbA hS i4 dL_law_1865 ?_
  refine lv_i2l hx hb dL_law_1866 rfl ?_
  refine lv_ldc2 (v := 4294967295) hx hb hown (hw _ mw_9_103) dL_law_1867 ?_
  refine lv_land hx hb dL_law_1870 ?_
  refine lv_lor hx hb dL_law_1871 ?_
  refine lGoI11 (cRunV (As := [.int (xs (i + 1).toNatClampNeg), .int (xs (i + 2).toNatClampNeg), .long (((xs (i + 3).toNatClampNeg).toInt64 <<< ((32 : Int32).toInt64 &&& 63)) ||| ((xs (i + 4).toNatClampNeg).toInt64 &&& 4294967295))]) (rest := []) ⟨hx, hb, hml, hown, hw⟩ hK hN hP hD [0] rfl rfl (met_oneI (k_X11_write l D C _ L0 aU aR aR2 aS n0 aN y0 y1 y2 o0 h_images us ua rs ra rs2 ra2 sa sl ns na nl y_isThere y_taken y_took o_of (xs (i + 1).toNatClampNeg) (xs (i + 2).toNatClampNeg) (((xs (i + 3).toNatClampNeg).toInt64 <<< ((32 : Int32).toInt64 &&& 63)) ||| ((xs (i + 4).toNatClampNeg).toInt64 &&& 4294967295)) (q_write hI (xs (i + 1).toNatClampNeg) (xs (i + 2).toNatClampNeg) (((xs (i + 3).toNatClampNeg).toInt64 <<< ((32 : Int32).toInt64 &&& 63)) ||| ((xs (i + 4).toNatClampNeg).toInt64 &&& 4294967295))))) (cwV 3 hw (goodV mw_6_8 mw_6_9 mw_6_10 mw_1_1 mw_6_11) rfl rfl rfl (by decide +kernel) ⟨Nat.le_of_ble_eq_true rfl, Nat.le_of_ble_eq_true rfl⟩) rfl rfl rfl hl.1 rfl (Nat.le_of_ble_eq_true rfl) dL_law_1872 hcs) hP hD hS hA (fun r1 sl1 H locs h hP hD hS => ?_)
  have hP : va_P D vwCl (List.flatten (lW L0 C aU aR aR2 h_images aS n0 aN y0 y1 y2 o0 aM us ua rs ra rs2 ra2 sa sl1 ns na nl y_isThere y_taken y_took o_of imf J ms mw ma ml)) H := hP
  have hD : va_D A (List.flatten (lW L0 C aU aR aR2 h_images aS n0 aN y0 y1 y2 o0 aM us ua rs ra rs2 ra2 sa sl1 ns na nl y_isThere y_taken y_took o_of imf J ms mw ma ml)) := hD
  refine lv_pop hx hb dL_law_1875 rfl ?_
  refine lv_aload_n hx hb dL_law_1876 rfl (lv_at hl 1 rfl) ?_
  refine lv_aload_n hx hb dL_law_1877 rfl (lv_at hl 3 rfl) ?_
  refine lv_iload_n hx hb dL_law_1878 rfl (lv_at hl 0 rfl) ?_
  refine lv_iconst (v := 1) hx hb dL_law_1879 (by decide) ?_
  refine lv_iadd hx hb dL_law_1880 ?_
  refine va_sld hx hb hX hbl hbA hS i1 dL_law_1881 ?_
  refine lv_aload_n hx hb dL_law_1882 rfl (lv_at hl 3 rfl) ?_
  refine lv_iload_n hx hb dL_law_1883 rfl (lv_at hl 0 rfl) ?_
  refine lv_iconst (v := 2) hx hb dL_law_1884 (by decide) ?_
  refine lv_iadd hx hb dL_law_1885 ?_
  refine va_sld hx hb hX hbl hbA hS i2 dL_law_1886 ?_
  refine lv_aload_n hx hb dL_law_1887 rfl (lv_at hl 3 rfl) ?_
  refine lv_iload_n hx hb dL_law_1888 rfl (lv_at hl 0 rfl) ?_
  refine lv_iconst (v := 3) hx hb dL_law_1889 (by decide) ?_
  refine lv_iadd hx hb dL_law_1890 ?_
  refine va_sld hx hb hX hbl hbA hS i3 dL_law_1891 ?_
  refine lv_i2l hx hb dL_law_1892 rfl ?_
  refine lv_bipush (v := 32) hx hb dL_law_1893 (by decide) ?_
  refine lv_lshl hx hb dL_law_1895 rfl ?_
  refine lv_aload_n hx hb dL_law_1896 rfl (lv_at hl 3 rfl) ?_
  refine lv_iload_n hx hb dL_law_1897 rfl (lv_at hl 0 rfl) ?_
  refine lv_iconst (v := 4) hx hb dL_law_1898 (by decide) ?_
  refine lv_iadd hx hb dL_law_1899 ?_
  refine va_sld hx hb hX hbl hbA hS i4 dL_law_1900 ?_
  refine lv_i2l hx hb dL_law_1901 rfl ?_
  refine lv_ldc2 (v := 4294967295) hx hb hown (hw _ mw_9_103) dL_law_1902 ?_
  refine lv_land hx hb dL_law_1905 ?_
  refine lv_lor hx hb dL_law_1906 ?_
  refine lGoI12 (cRunV (As := [.int (xs (i + 1).toNatClampNeg), .int (xs (i + 2).toNatClampNeg), .long (((xs (i + 3).toNatClampNeg).toInt64 <<< ((32 : Int32).toInt64 &&& 63)) ||| ((xs (i + 4).toNatClampNeg).toInt64 &&& 4294967295))]) (rest := []) ⟨hx, hb, hml, hown, hw⟩ hK hN hP hD [5] rfl rfl (met_oneI (k_X12_write l D C _ aM ms mw ma ml (xs (i + 1).toNatClampNeg) (xs (i + 2).toNatClampNeg) (((xs (i + 3).toNatClampNeg).toInt64 <<< ((32 : Int32).toInt64 &&& 63)) ||| ((xs (i + 4).toNatClampNeg).toInt64 &&& 4294967295)) h)) (cwV 3 hw (goodV mw_6_208 mw_6_209 mw_6_210 mw_1_13 mw_6_211) rfl rfl rfl (by decide +kernel) ⟨Nat.le_of_ble_eq_true rfl, Nat.le_of_ble_eq_true rfl⟩) rfl rfl rfl hl.1 rfl (Nat.le_of_ble_eq_true rfl) dL_law_1907 hcs) hP hD hS hA (fun r2 u H locs h hP hD hS => ?_)
  obtain ⟨ms2, ml2⟩ := u
  have hP : va_P D vwCl (List.flatten (lW L0 C aU aR aR2 h_images aS n0 aN y0 y1 y2 o0 aM us ua rs ra rs2 ra2 sa sl1 ns na nl y_isThere y_taken y_took o_of imf J ms2 mw ma ml2)) H := hP
  have hD : va_D A (List.flatten (lW L0 C aU aR aR2 h_images aS n0 aN y0 y1 y2 o0 aM us ua rs ra rs2 ra2 sa sl1 ns na nl y_isThere y_taken y_took o_of imf J ms2 mw ma ml2)) := hD
  refine lv_pop hx hb dL_law_1910 rfl ?_
  refine lv_goto (tgt := 1977) hx hb dL_law_1911 (by decide) ?_
  obtain ⟨-, hI⟩ := h
  exact kk H locs ⟨aU, aR, aR2, h_images, aS, n0, aN, y0, y1, y2, o0, aM, us, ua, rs, ra, rs2, ra2, sa, sl1, ns, na, nl, y_isThere, y_taken, y_took, o_of, imf, J, im, ms2, mw, ma, ml2, False.elim, rfl, hI, hJ, hP, hD⟩ hS
set_option maxHeartbeats 400000 in
set_option maxRecDepth 100000 in
theorem lc_58 {p : Program} {l : Launch} {e : Env} {s : State} {m : MethodId} {below : List Frame} {meth : Method} {c : Code} {b L : Nat} {xs : Nat → Int32} {D : va_G} {C : Nat → ClassId} {A : Nat → Prop} {H : Heap} {locs : List Loc} {cells slots : Nat} {Q : State → Prop} {ls : Array Slot} {L0 m0 : Nat} {i : Int32} {z : Prop} (hC : LC p s m c b L xs D C A) (hl : lv_has ls 4 [(3, .int i), (2, .ref m0), (1, .ref L0), (0, .ref b)]) (i1 : vp_in (i + 1) L) (i2 : vp_in (i + 2) L) (i3 : vp_in (i + 3) L) (i4 : vp_in (i + 4) L) (i5 : vp_in (i + 5) L) (hcs : cells ≤ 600000 ∧ slots ≤ room_1.slots) (hS : va_S A s.heap H locs) (hW : LSt z D C A L0 m0 H)  (kk : ∀ (H : Heap) (locs : List Loc), LSt False D C A L0 m0 H → va_S A s.heap H locs → W p l e room_1 s m #[Value.ref b] below meth c H locs cells slots Q (F0 m 1977 ls [])) : W p l e room_1 s m #[Value.ref b] below meth c H locs cells slots Q (F0 m 1914 ls []) := by
  obtain ⟨hx, hb, hml, hown, hw, hK, hN, hA, hX, hbl, hbA, hZ⟩ := hC
  obtain ⟨aU, aR, aR2, h_images, aS, n0, aN, y0, y1, y2, o0, aM, us, ua, rs, ra, rs2, ra2, sa, sl, ns, na, nl, y_isThere, y_taken, y_took, o_of, imf, J, im, ms, mw, ma, ml, hz, e0, hI, hJ, hP, hD⟩ := hW
  subst e0
  refine lv_aload_n hx hb dL_law_1914 rfl (lv_at hl 2 rfl) ?_
  refine lv_aload_n hx hb dL_law_1915 rfl (lv_at hl 3 rfl) ?_
  refine lv_iload_n hx hb dL_law_1916 rfl (lv_at hl 0 rfl) ?_
  refine lv_iconst (v := 1) hx hb dL_law_1917 (by decide) ?_
  refine lv_iadd hx hb dL_law_1918 ?_
  refine va_sld hx hb hX hbl hbA hS i1 dL_law_1919 ?_
  refine lv_aload_n hx hb dL_law_1920 rfl (lv_at hl 3 rfl) ?_
  refine lv_iload_n hx hb dL_law_1921 rfl (lv_at hl 0 rfl) ?_
  refine lv_iconst (v := 2) hx hb dL_law_1922 (by decide) ?_
  refine lv_iadd hx hb dL_law_1923 ?_
  refine va_sld hx hb hX hbl hbA hS i2 dL_law_1924 ?_
  refine lv_aload_n hx hb dL_law_1925 rfl (lv_at hl 3 rfl) ?_
  refine lv_iload_n hx hb dL_law_1926 rfl (lv_at hl 0 rfl) ?_
  refine lv_iconst (v := 3) hx hb dL_law_1927 (by decide) ?_
  refine lv_iadd hx hb dL_law_1928 ?_
  refine va_sld hx hb hX hbl hbA hS i3 dL_law_1929 ?_
  refine lv_aload_n hx hb dL_law_1930 rfl (lv_at hl 3 rfl) ?_
  refine lv_iload_n hx hb dL_law_1931 rfl (lv_at hl 0 rfl) ?_
  refine lv_iconst (v := 4) hx hb dL_law_1932 (by decide) ?_
  refine lv_iadd hx hb dL_law_1933 ?_
  refine va_sld hx hb hX hbl hbA hS i4 dL_law_1934 ?_
  refine lv_aload_n hx hb dL_law_1935 rfl (lv_at hl 3 rfl) ?_
  refine lv_iload_n hx hb dL_law_1936 rfl (lv_at hl 0 rfl) ?_
  refine lv_iconst (v := 5) hx hb dL_law_1937 (by decide) ?_
  refine lv_iadd hx hb dL_law_1938 ?_
  refine va_sld hx hb hX hbl hbA hS i5 dL_law_1939 ?_
  refine lGoI11 (cRunV (As := [.int (xs (i + 1).toNatClampNeg), .int (xs (i + 2).toNatClampNeg), .int (xs (i + 3).toNatClampNeg), .int (xs (i + 4).toNatClampNeg), .int (xs (i + 5).toNatClampNeg)]) (rest := []) ⟨hx, hb, hml, hown, hw⟩ hK hN hP hD [0] rfl rfl (met_oneI (k_X11_paste l D C _ L0 aU aR aR2 aS n0 aN y0 y1 y2 o0 h_images us ua rs ra rs2 ra2 sa sl ns na nl y_isThere y_taken y_took o_of (xs (i + 1).toNatClampNeg) (xs (i + 2).toNatClampNeg) (xs (i + 3).toNatClampNeg) (xs (i + 4).toNatClampNeg) (xs (i + 5).toNatClampNeg) (q_paste hI (xs (i + 1).toNatClampNeg) (xs (i + 2).toNatClampNeg) (xs (i + 3).toNatClampNeg) (xs (i + 4).toNatClampNeg) (xs (i + 5).toNatClampNeg)))) (cwV 5 hw (goodV mw_6_19 mw_6_20 mw_6_21 mw_1_1 mw_6_22) rfl rfl rfl (by decide +kernel) ⟨Nat.le_of_ble_eq_true rfl, Nat.le_of_ble_eq_true rfl⟩) rfl rfl rfl hl.1 rfl (Nat.le_of_ble_eq_true rfl) dL_law_1940 hcs) hP hD hS hA (fun r1 sl1 H locs h hP hD hS => ?_)
  have hP : va_P D vwCl (List.flatten (lW L0 C aU aR aR2 h_images aS n0 aN y0 y1 y2 o0 aM us ua rs ra rs2 ra2 sa sl1 ns na nl y_isThere y_taken y_took o_of imf J ms mw ma ml)) H := hP
  have hD : va_D A (List.flatten (lW L0 C aU aR aR2 h_images aS n0 aN y0 y1 y2 o0 aM us ua rs ra rs2 ra2 sa sl1 ns na nl y_isThere y_taken y_took o_of imf J ms mw ma ml)) := hD
  refine lv_pop hx hb dL_law_1943 rfl ?_
  refine lv_aload_n hx hb dL_law_1944 rfl (lv_at hl 1 rfl) ?_
  refine lv_aload_n hx hb dL_law_1945 rfl (lv_at hl 3 rfl) ?_
  refine lv_iload_n hx hb dL_law_1946 rfl (lv_at hl 0 rfl) ?_
  refine lv_iconst (v := 1) hx hb dL_law_1947 (by decide) ?_
  refine lv_iadd hx hb dL_law_1948 ?_
  refine va_sld hx hb hX hbl hbA hS i1 dL_law_1949 ?_
  refine lv_aload_n hx hb dL_law_1950 rfl (lv_at hl 3 rfl) ?_
  refine lv_iload_n hx hb dL_law_1951 rfl (lv_at hl 0 rfl) ?_
  refine lv_iconst (v := 2) hx hb dL_law_1952 (by decide) ?_
  refine lv_iadd hx hb dL_law_1953 ?_
  refine va_sld hx hb hX hbl hbA hS i2 dL_law_1954 ?_
  refine lv_aload_n hx hb dL_law_1955 rfl (lv_at hl 3 rfl) ?_
  refine lv_iload_n hx hb dL_law_1956 rfl (lv_at hl 0 rfl) ?_
  refine lv_iconst (v := 3) hx hb dL_law_1957 (by decide) ?_
  refine lv_iadd hx hb dL_law_1958 ?_
  refine va_sld hx hb hX hbl hbA hS i3 dL_law_1959 ?_
  refine lv_aload_n hx hb dL_law_1960 rfl (lv_at hl 3 rfl) ?_
  refine lv_iload_n hx hb dL_law_1961 rfl (lv_at hl 0 rfl) ?_
  refine lv_iconst (v := 4) hx hb dL_law_1962 (by decide) ?_
  refine lv_iadd hx hb dL_law_1963 ?_
  refine va_sld hx hb hX hbl hbA hS i4 dL_law_1964 ?_
  refine lv_aload_n hx hb dL_law_1965 rfl (lv_at hl 3 rfl) ?_
  refine lv_iload_n hx hb dL_law_1966 rfl (lv_at hl 0 rfl) ?_
  refine lv_iconst (v := 5) hx hb dL_law_1967 (by decide) ?_
  refine lv_iadd hx hb dL_law_1968 ?_
  refine va_sld hx hb hX hbl hbA hS i5 dL_law_1969 ?_
  refine lGoI12 (cRunV (As := [.int (xs (i + 1).toNatClampNeg), .int (xs (i + 2).toNatClampNeg), .int (xs (i + 3).toNatClampNeg), .int (xs (i + 4).toNatClampNeg), .int (xs (i + 5).toNatClampNeg)]) (rest := []) ⟨hx, hb, hml, hown, hw⟩ hK hN hP hD [5] rfl rfl (met_oneI (k_X12_paste l D C _ aM ms mw ma ml (xs (i + 1).toNatClampNeg) (xs (i + 2).toNatClampNeg) (xs (i + 3).toNatClampNeg) (xs (i + 4).toNatClampNeg) (xs (i + 5).toNatClampNeg) h)) (cwV 5 hw (goodV mw_6_215 mw_6_216 mw_6_217 mw_1_13 mw_6_218) rfl rfl rfl (by decide +kernel) ⟨Nat.le_of_ble_eq_true rfl, Nat.le_of_ble_eq_true rfl⟩) rfl rfl rfl hl.1 rfl (Nat.le_of_ble_eq_true rfl) dL_law_1970 hcs) hP hD hS hA (fun r2 u H locs h hP hD hS => ?_)
  obtain ⟨ms2, ml2⟩ := u
  have hP : va_P D vwCl (List.flatten (lW L0 C aU aR aR2 h_images aS n0 aN y0 y1 y2 o0 aM us ua rs ra rs2 ra2 sa sl1 ns na nl y_isThere y_taken y_took o_of imf J ms2 mw ma ml2)) H := hP
  have hD : va_D A (List.flatten (lW L0 C aU aR aR2 h_images aS n0 aN y0 y1 y2 o0 aM us ua rs ra rs2 ra2 sa sl1 ns na nl y_isThere y_taken y_took o_of imf J ms2 mw ma ml2)) := hD
  refine lv_pop hx hb dL_law_1973 rfl ?_
  refine lv_goto (tgt := 1977) hx hb dL_law_1974 (by decide) ?_
  obtain ⟨-, hI⟩ := h
  exact kk H locs ⟨aU, aR, aR2, h_images, aS, n0, aN, y0, y1, y2, o0, aM, us, ua, rs, ra, rs2, ra2, sa, sl1, ns, na, nl, y_isThere, y_taken, y_took, o_of, imf, J, im, ms2, mw, ma, ml2, False.elim, rfl, hI, hJ, hP, hD⟩ hS
