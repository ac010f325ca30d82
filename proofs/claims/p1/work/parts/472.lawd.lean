set_option maxHeartbeats 400000 in
set_option maxRecDepth 100000 in
theorem lc_42 {p : Program} {l : Launch} {e : Env} {s : State} {m : MethodId} {below : List Frame} {meth : Method} {c : Code} {b L : Nat} {xs : Nat → Int32} {D : va_G} {C : Nat → ClassId} {A : Nat → Prop} {H : Heap} {locs : List Loc} {cells slots : Nat} {Q : State → Prop} {ls : Array Slot} {L0 m0 : Nat} {i : Int32} {z : Prop} (hC : LC p s m c b L xs D C A) (hl : lv_has ls 4 [(3, .int i), (2, .ref m0), (1, .ref L0), (0, .ref b)]) (i1 : vp_in (i + 1) L) (i2 : vp_in (i + 2) L) (i3 : vp_in (i + 3) L) (i4 : vp_in (i + 4) L) (i5 : vp_in (i + 5) L) (hcs : cells ≤ 600000 ∧ slots ≤ room_1.slots) (hS : va_S A s.heap H locs) (hW : LSt z D C A L0 m0 H)  (kk : ∀ (H : Heap) (locs : List Loc), LSt False D C A L0 m0 H → va_S A s.heap H locs → W p l e room_1 s m #[Value.ref b] below meth c H locs cells slots Q (F0 m 1996 ls [])) : W p l e room_1 s m #[Value.ref b] below meth c H locs cells slots Q (F0 m 1432 ls []) := by
  obtain ⟨hx, hb, hml, hown, hw, hK, hN, hA, hX, hbl, hbA, hZ⟩ := hC
  obtain ⟨aU, aR, aR2, h_images, aS, n0, aN, y0, y1, y2, o0, aM, us, ua, rs, ra, rs2, ra2, sa, sl, ns, na, nl, y_isThere, y_taken, y_took, o_of, imf, J, im, ms, mw, ma, ml, hz, e0, hI, hJ, hP, hD⟩ := hW
  subst e0
  refine lv_aload_n hx hb dL_law_1432 rfl (lv_at hl 2 rfl) ?_
  refine lv_aload_n hx hb dL_law_1433 rfl (lv_at hl 3 rfl) ?_
  refine lv_iload_n hx hb dL_law_1434 rfl (lv_at hl 0 rfl) ?_
  refine lv_iconst (v := 1) hx hb dL_law_1435 (by decide) ?_
  refine lv_iadd hx hb dL_law_1436 ?_
  refine va_sld hx hb hX hbl hbA hS i1 dL_law_1437 ?_
  refine lGoI11 (cRunV (As := [.int (xs (i + 1).toNatClampNeg)]) (rest := []) ⟨hx, hb, hml, hown, hw⟩ hK hN hP hD [0] rfl rfl (met_oneI (k_X11_lures l D C _ L0 aU aR aR2 aS n0 aN y0 y1 y2 o0 h_images us ua rs ra rs2 ra2 sa sl ns na nl y_isThere y_taken y_took o_of (xs (i + 1).toNatClampNeg) (q_lures hI (xs (i + 1).toNatClampNeg)))) (cwV 1 hw (goodV mw_5_93 mw_5_94 mw_5_95 mw_1_1 mw_5_96) rfl rfl rfl (by decide +kernel) ⟨Nat.le_of_ble_eq_true rfl, Nat.le_of_ble_eq_true rfl⟩) rfl rfl rfl hl.1 rfl (Nat.le_of_ble_eq_true rfl) dL_law_1438 hcs) hP hD hS hA (fun r1 u H locs h hP hD hS => ?_)
  obtain ⟨ns1, na1⟩ := u
  have hP : va_P D vwCl (List.flatten (lW L0 C aU aR aR2 h_images aS n0 aN y0 y1 y2 o0 aM us ua rs ra rs2 ra2 sa sl ns1 na1 nl y_isThere y_taken y_took o_of imf J ms mw ma ml)) H := hP
  have hD : va_D A (List.flatten (lW L0 C aU aR aR2 h_images aS n0 aN y0 y1 y2 o0 aM us ua rs ra rs2 ra2 sa sl ns1 na1 nl y_isThere y_taken y_took o_of imf J ms mw ma ml)) := hD
  refine lv_aload_n hx hb dL_law_1441 rfl (lv_at hl 1 rfl) ?_
  refine lv_aload_n hx hb dL_law_1442 rfl (lv_at hl 3 rfl) ?_
  refine lv_iload_n hx hb dL_law_1443 rfl (lv_at hl 0 rfl) ?_
  refine lv_iconst (v := 1) hx hb dL_law_1444 (by decide) ?_
  refine lv_iadd hx hb dL_law_1445 ?_
  refine va_sld hx hb hX hbl hbA hS i1 dL_law_1446 ?_
  refine lGoI12 (cRunV (As := [.int (xs (i + 1).toNatClampNeg)]) (rest := [.int r1]) ⟨hx, hb, hml, hown, hw⟩ hK hN hP hD [5] rfl rfl (met_oneI (k_X12_lures l D C _ aM ms mw ma ml (xs (i + 1).toNatClampNeg) h)) (cwV 1 hw (goodV mw_8_239 mw_9_0 mw_9_1 mw_1_13 mw_9_2) rfl rfl rfl (by decide +kernel) ⟨Nat.le_of_ble_eq_true rfl, Nat.le_of_ble_eq_true rfl⟩) rfl rfl rfl hl.1 rfl (Nat.le_of_ble_eq_true rfl) dL_law_1447 hcs) hP hD hS hA (fun r2 u H locs h hP hD hS => ?_)
  obtain ⟨ms2, ma2⟩ := u
  have hP : va_P D vwCl (List.flatten (lW L0 C aU aR aR2 h_images aS n0 aN y0 y1 y2 o0 aM us ua rs ra rs2 ra2 sa sl ns1 na1 nl y_isThere y_taken y_took o_of imf J ms2 mw ma2 ml)) H := hP
  have hD : va_D A (List.flatten (lW L0 C aU aR aR2 h_images aS n0 aN y0 y1 y2 o0 aM us ua rs ra rs2 ra2 sa sl ns1 na1 nl y_isThere y_taken y_took o_of imf J ms2 mw ma2 ml)) := hD
  obtain ⟨er, hI⟩ := h
  refine lv_icmp_eq (tgt := 1996) hx hb dL_law_1450 (by decide) (fun _ => ?_) (fun c9 => absurd er c9)
  exact kk H locs ⟨aU, aR, aR2, h_images, aS, n0, aN, y0, y1, y2, o0, aM, us, ua, rs, ra, rs2, ra2, sa, sl, ns1, na1, nl, y_isThere, y_taken, y_took, o_of, imf, J, im, ms2, mw, ma2, ml, False.elim, rfl, hI, hJ, hP, hD⟩ hS
set_option maxHeartbeats 400000 in
set_option maxRecDepth 100000 in
theorem lc_43 {p : Program} {l : Launch} {e : Env} {s : State} {m : MethodId} {below : List Frame} {meth : Method} {c : Code} {b L : Nat} {xs : Nat → Int32} {D : va_G} {C : Nat → ClassId} {A : Nat → Prop} {H : Heap} {locs : List Loc} {cells slots : Nat} {Q : State → Prop} {ls : Array Slot} {L0 m0 : Nat} {i : Int32} {z : Prop} (hC : LC p s m c b L xs D C A) (hl : lv_has ls 4 [(3, .int i), (2, .ref m0), (1, .ref L0), (0, .ref b)]) (i1 : vp_in (i + 1) L) (i2 : vp_in (i + 2) L) (i3 : vp_in (i + 3) L) (i4 : vp_in (i + 4) L) (i5 : vp_in (i + 5) L) (hcs : cells ≤ 600000 ∧ slots ≤ room_1.slots) (hS : va_S A s.heap H locs) (hW : LSt z D C A L0 m0 H)  (kk : ∀ (H : Heap) (locs : List Loc), LSt False D C A L0 m0 H → va_S A s.heap H locs → W p l e room_1 s m #[Value.ref b] below meth c H locs cells slots Q (F0 m 1996 ls [])) : W p l e room_1 s m #[Value.ref b] below meth c H locs cells slots Q (F0 m 1455 ls []) := by
  obtain ⟨hx, hb, hml, hown, hw, hK, hN, hA, hX, hbl, hbA, hZ⟩ := hC
  obtain ⟨aU, aR, aR2, h_images, aS, n0, aN, y0, y1, y2, o0, aM, us, ua, rs, ra, rs2, ra2, sa, sl, ns, na, nl, y_isThere, y_taken, y_took, o_of, imf, J, im, ms, mw, ma, ml, hz, e0, hI, hJ, hP, hD⟩ := hW
  subst e0
  refine lv_aload_n hx hb dL_law_1455 rfl (lv_at hl 2 rfl) ?_
  refine lv_aload_n hx hb dL_law_1456 rfl (lv_at hl 3 rfl) ?_
  refine lv_iload_n hx hb dL_law_1457 rfl (lv_at hl 0 rfl) ?_
  refine lv_iconst (v := 1) hx hb dL_law_1458 (by decide) ?_
  refine lv_iadd hx hb dL_law_1459 ?_
  refine va_sld hx hb hX hbl hbA hS i1 dL_law_1460 ?_
  refine lv_aload_n hx hb dL_law_1461 rfl (lv_at hl 3 rfl) ?_
  refine lv_iload_n hx hb dL_law_1462 rfl (lv_at hl 0 rfl) ?_
  refine lv_iconst (v := 2) hx hb dL_law_1463 (by decide) ?_
  refine lv_iadd hx hb dL_law_1464 ?_
  refine va_sld hx hb hX hbl hbA hS i2 dL_law_1465 ?_
  refine lv_aload_n hx hb dL_law_1466 rfl (lv_at hl 3 rfl) ?_
  refine lv_iload_n hx hb dL_law_1467 rfl (lv_at hl 0 rfl) ?_
  refine lv_iconst (v := 3) hx hb dL_law_1468 (by decide) ?_
  refine lv_iadd hx hb dL_law_1469 ?_
  refine va_sld hx hb hX hbl hbA hS i3 dL_law_1470 ?_
  refine lGoL11 (cRunV (As := [.int (xs (i + 1).toNatClampNeg), .int (xs (i + 2).toNatClampNeg), .int (xs (i + 3).toNatClampNeg)]) (rest := []) ⟨hx, hb, hml, hown, hw⟩ hK hN hP hD [0] rfl rfl (met_oneL (k_X11_cover l D C _ L0 aU aR aR2 aS n0 aN y0 y1 y2 o0 h_images us ua rs ra rs2 ra2 sa sl ns na nl y_isThere y_taken y_took o_of (xs (i + 1).toNatClampNeg) (xs (i + 2).toNatClampNeg) (xs (i + 3).toNatClampNeg) (q_cover hI rs2 mw (xs (i + 1).toNatClampNeg) (xs (i + 2).toNatClampNeg) (xs (i + 3).toNatClampNeg)))) (cwV 3 hw (goodV mw_5_101 mw_5_102 mw_5_103 mw_1_1 mw_5_104) rfl rfl rfl (by decide +kernel) ⟨Nat.le_of_ble_eq_true rfl, Nat.le_of_ble_eq_true rfl⟩) rfl rfl rfl hl.1 rfl (Nat.le_of_ble_eq_true rfl) dL_law_1471 hcs) hP hD hS hA (fun r1 u H locs h hP hD hS => ?_)
  obtain ⟨aN1, rs21, ra21, ns1, na1, nl1⟩ := u
  have hP : va_P D vwCl (List.flatten (lW L0 C aU aR aR2 h_images aS n0 aN1 y0 y1 y2 o0 aM us ua rs ra rs21 ra21 sa sl ns1 na1 nl1 y_isThere y_taken y_took o_of imf J ms mw ma ml)) H := hP
  have hD : va_D A (List.flatten (lW L0 C aU aR aR2 h_images aS n0 aN1 y0 y1 y2 o0 aM us ua rs ra rs21 ra21 sa sl ns1 na1 nl1 y_isThere y_taken y_took o_of imf J ms mw ma ml)) := hD
  refine lv_aload_n hx hb dL_law_1474 rfl (lv_at hl 1 rfl) ?_
  refine lv_aload_n hx hb dL_law_1475 rfl (lv_at hl 3 rfl) ?_
  refine lv_iload_n hx hb dL_law_1476 rfl (lv_at hl 0 rfl) ?_
  refine lv_iconst (v := 1) hx hb dL_law_1477 (by decide) ?_
  refine lv_iadd hx hb dL_law_1478 ?_
  refine va_sld hx hb hX hbl hbA hS i1 dL_law_1479 ?_
  refine lv_aload_n hx hb dL_law_1480 rfl (lv_at hl 3 rfl) ?_
  refine lv_iload_n hx hb dL_law_1481 rfl (lv_at hl 0 rfl) ?_
  refine lv_iconst (v := 2) hx hb dL_law_1482 (by decide) ?_
  refine lv_iadd hx hb dL_law_1483 ?_
  refine va_sld hx hb hX hbl hbA hS i2 dL_law_1484 ?_
  refine lv_aload_n hx hb dL_law_1485 rfl (lv_at hl 3 rfl) ?_
  refine lv_iload_n hx hb dL_law_1486 rfl (lv_at hl 0 rfl) ?_
  refine lv_iconst (v := 3) hx hb dL_law_1487 (by decide) ?_
  refine lv_iadd hx hb dL_law_1488 ?_
  refine va_sld hx hb hX hbl hbA hS i3 dL_law_1489 ?_
  refine lGoL12 (cRunV (As := [.int (xs (i + 1).toNatClampNeg), .int (xs (i + 2).toNatClampNeg), .int (xs (i + 3).toNatClampNeg)]) (rest := [.long r1]) ⟨hx, hb, hml, hown, hw⟩ hK hN hP hD [5] rfl rfl (met_oneL (k_X12_cover l D C _ aM ms mw ma ml (xs (i + 1).toNatClampNeg) (xs (i + 2).toNatClampNeg) (xs (i + 3).toNatClampNeg) h)) (cwV 3 hw (goodV mw_9_3 mw_9_4 mw_9_5 mw_1_13 mw_9_6) rfl rfl rfl (by decide +kernel) ⟨Nat.le_of_ble_eq_true rfl, Nat.le_of_ble_eq_true rfl⟩) rfl rfl rfl hl.1 rfl (Nat.le_of_ble_eq_true rfl) dL_law_1490 hcs) hP hD hS hA (fun r2 u H locs h hP hD hS => ?_)
  obtain ⟨ms2, mw2, ma2, ml2⟩ := u
  have hP : va_P D vwCl (List.flatten (lW L0 C aU aR aR2 h_images aS n0 aN1 y0 y1 y2 o0 aM us ua rs ra rs21 ra21 sa sl ns1 na1 nl1 y_isThere y_taken y_took o_of imf J ms2 mw2 ma2 ml2)) H := hP
  have hD : va_D A (List.flatten (lW L0 C aU aR aR2 h_images aS n0 aN1 y0 y1 y2 o0 aM us ua rs ra rs21 ra21 sa sl ns1 na1 nl1 y_isThere y_taken y_took o_of imf J ms2 mw2 ma2 ml2)) := hD
  refine W.lcmp hx hb dL_law_1493 ?_
  obtain ⟨er, hI⟩ := h
  refine lv_if_eq (tgt := 1996) hx hb dL_law_1494 (by decide) (fun _ => ?_) (fun c9 => absurd ((lg_cmp_eq _ _).mpr er) c9)
  exact kk H locs ⟨aU, aR, aR2, h_images, aS, n0, aN1, y0, y1, y2, o0, aM, us, ua, rs, ra, rs21, ra21, sa, sl, ns1, na1, nl1, y_isThere, y_taken, y_took, o_of, imf, J, im, ms2, mw2, ma2, ml2, False.elim, rfl, hI, hJ, hP, hD⟩ hS
set_option maxHeartbeats 400000 in
set_option maxRecDepth 100000 in
theorem lc_44 {p : Program} {l : Launch} {e : Env} {s : State} {m : MethodId} {below : List Frame} {meth : Method} {c : Code} {b L : Nat} {xs : Nat → Int32} {D : va_G} {C : Nat → ClassId} {A : Nat → Prop} {H : Heap} {locs : List Loc} {cells slots : Nat} {Q : State → Prop} {ls : Array Slot} {L0 m0 : Nat} {i : Int32} {z : Prop} (hC : LC p s m c b L xs D C A) (hl : lv_has ls 4 [(3, .int i), (2, .ref m0), (1, .ref L0), (0, .ref b)]) (i1 : vp_in (i + 1) L) (i2 : vp_in (i + 2) L) (i3 : vp_in (i + 3) L) (i4 : vp_in (i + 4) L) (i5 : vp_in (i + 5) L) (hcs : cells ≤ 600000 ∧ slots ≤ room_1.slots) (hS : va_S A s.heap H locs) (hW : LSt z D C A L0 m0 H)  (kk : ∀ (H : Heap) (locs : List Loc), LSt False D C A L0 m0 H → va_S A s.heap H locs → W p l e room_1 s m #[Value.ref b] below meth c H locs cells slots Q (F0 m 1996 ls [])) : W p l e room_1 s m #[Value.ref b] below meth c H locs cells slots Q (F0 m 1499 ls []) := by
  obtain ⟨hx, hb, hml, hown, hw, hK, hN, hA, hX, hbl, hbA, hZ⟩ := hC
  obtain ⟨aU, aR, aR2, h_images, aS, n0, aN, y0, y1, y2, o0, aM, us, ua, rs, ra, rs2, ra2, sa, sl, ns, na, nl, y_isThere, y_taken, y_took, o_of, imf, J, im, ms, mw, ma, ml, hz, e0, hI, hJ, hP, hD⟩ := hW
  subst e0
  refine lv_aload_n hx hb dL_law_1499 rfl (lv_at hl 2 rfl) ?_
  refine lv_aload_n hx hb dL_law_1500 rfl (lv_at hl 3 rfl) ?_
  refine lv_iload_n hx hb dL_law_1501 rfl (lv_at hl 0 rfl) ?_
  refine lv_iconst (v := 1) hx hb dL_law_1502 (by decide) ?_
  refine lv_iadd hx hb dL_law_1503 ?_
  refine va_sld hx hb hX hbl hbA hS i1 dL_law_1504 ?_
  refine lv_aload_n hx hb dL_law_1505 rfl (lv_at hl 3 rfl) ?_
  refine lv_iload_n hx hb dL_law_1506 rfl (lv_at hl 0 rfl) ?_
  refine lv_iconst (v := 2) hx hb dL_law_1507 (by decide) ?_
  refine lv_iadd hx hb dL_law_1508 ?_
  refine va_sld hx hb hX hbl hbA hS i2 dL_law_1509 ?_
  refine lv_aload_n hx hb dL_law_1510 rfl (lv_at hl 3 rfl) ?_
  refine lv_iload_n hx hb dL_law_1511 rfl (lv_at hl 0 rfl) ?_
  refine lv_iconst (v := 3) hx hb dL_law_1512 (by decide) ?_
  refine lv_iadd hx hb dL_law_1513 ?_
  refine va_sld hx hb hX hbl hbA hS i3 dL_law_1514 ?_
  refine lGoI11 (cRunV (As := [.int (xs (i + 1).toNatClampNeg), .int (xs (i + 2).toNatClampNeg), .int (xs (i + 3).toNatClampNeg)]) (rest := []) ⟨hx, hb, hml, hown, hw⟩ hK hN hP hD [0] rfl rfl (met_oneI (k_X11_careless l D C _ L0 aU aR aR2 aS n0 aN y0 y1 y2 o0 h_images us ua rs ra rs2 ra2 sa sl ns na nl y_isThere y_taken y_took o_of (xs (i + 1).toNatClampNeg) (xs (i + 2).toNatClampNeg) (xs (i + 3).toNatClampNeg) (q_careless hI rs2 mw (xs (i + 1).toNatClampNeg) (xs (i + 2).toNatClampNeg) (xs (i + 3).toNatClampNeg)))) (cwV 3 hw (goodV mw_5_119 mw_5_120 mw_5_121 mw_1_1 mw_5_122) rfl rfl rfl (by decide +kernel) ⟨Nat.le_of_ble_eq_true rfl, Nat.le_of_ble_eq_true rfl⟩) rfl rfl rfl hl.1 rfl (Nat.le_of_ble_eq_true rfl) dL_law_1515 hcs) hP hD hS hA (fun r1 u H locs h hP hD hS => ?_)
  obtain ⟨aN1, rs21, ra21, ns1, na1, nl1⟩ := u
  have hP : va_P D vwCl (List.flatten (lW L0 C aU aR aR2 h_images aS n0 aN1 y0 y1 y2 o0 aM us ua rs ra rs21 ra21 sa sl ns1 na1 nl1 y_isThere y_taken y_took o_of imf J ms mw ma ml)) H := hP
  have hD : va_D A (List.flatten (lW L0 C aU aR aR2 h_images aS n0 aN1 y0 y1 y2 o0 aM us ua rs ra rs21 ra21 sa sl ns1 na1 nl1 y_isThere y_taken y_took o_of imf J ms mw ma ml)) := hD
  refine lv_aload_n hx hb dL_law_1518 rfl (lv_at hl 1 rfl) ?_
  refine lv_aload_n hx hb dL_law_1519 rfl (lv_at hl 3 rfl) ?_
  refine lv_iload_n hx hb dL_law_1520 rfl (lv_at hl 0 rfl) ?_
  refine lv_iconst (v := 1) hx hb dL_law_1521 (by decide) ?_
  refine lv_iadd hx hb dL_law_1522 ?_
  refine va_sld hx hb hX hbl hbA hS i1 dL_law_1523 ?_
  refine lv_aload_n hx hb dL_law_1524 rfl (lv_at hl 3 rfl) ?_
  refine lv_iload_n hx hb dL_law_1525 rfl (lv_at hl 0 rfl) ?_
  refine lv_iconst (v := 2) hx hb dL_law_1526 (by decide) ?_
  refine lv_iadd hx hb dL_law_1527 ?_
  refine va_sld hx hb hX hbl hbA hS i2 dL_law_1528 ?_
  refine lv_aload_n hx hb dL_law_1529 rfl (lv_at hl 3 rfl) ?_
  refine lv_iload_n hx hb dL_law_1530 rfl (lv_at hl 0 rfl) ?_
  refine lv_iconst (v := 3) hx hb dL_law_1531 (by decide) ?_
  refine lv_iadd hx hb dL_law_1532 ?_
  refine va_sld hx hb hX hbl hbA hS i3 dL_law_1533 ?_
  refine lGoI12 (cRunV (As := [.int (xs (i + 1).toNatClampNeg), .int (xs (i + 2).toNatClampNeg), .int (xs (i + 3).toNatClampNeg)]) (rest := [.int r1]) ⟨hx, hb, hml, hown, hw⟩ hK hN hP hD [5] rfl rfl (met_oneI (k_X12_careless l D C _ aM ms mw ma ml (xs (i + 1).toNatClampNeg) (xs (i + 2).toNatClampNeg) (xs (i + 3).toNatClampNeg) h)) (cwV 3 hw (goodV mw_9_15 mw_9_16 mw_9_17 mw_1_13 mw_9_18) rfl rfl rfl (by decide +kernel) ⟨Nat.le_of_ble_eq_true rfl, Nat.le_of_ble_eq_true rfl⟩) rfl rfl rfl hl.1 rfl (Nat.le_of_ble_eq_true rfl) dL_law_1534 hcs) hP hD hS hA (fun r2 u H locs h hP hD hS => ?_)
  obtain ⟨ms2, mw2, ma2, ml2⟩ := u
  have hP : va_P D vwCl (List.flatten (lW L0 C aU aR aR2 h_images aS n0 aN1 y0 y1 y2 o0 aM us ua rs ra rs21 ra21 sa sl ns1 na1 nl1 y_isThere y_taken y_took o_of imf J ms2 mw2 ma2 ml2)) H := hP
  have hD : va_D A (List.flatten (lW L0 C aU aR aR2 h_images aS n0 aN1 y0 y1 y2 o0 aM us ua rs ra rs21 ra21 sa sl ns1 na1 nl1 y_isThere y_taken y_took o_of imf J ms2 mw2 ma2 ml2)) := hD
  obtain ⟨er, hI⟩ := h
  refine lv_icmp_eq (tgt := 1996) hx hb dL_law_1537 (by decide) (fun _ => ?_) (fun c9 => absurd er c9)
  exact kk H locs ⟨aU, aR, aR2, h_images, aS, n0, aN1, y0, y1, y2, o0, aM, us, ua, rs, ra, rs21, ra21, sa, sl, ns1, na1, nl1, y_isThere, y_taken, y_took, o_of, imf, J, im, ms2, mw2, ma2, ml2, False.elim, rfl, hI, hJ, hP, hD⟩ hS
set_option maxHeartbeats 400000 in
set_option maxRecDepth 100000 in
theorem lc_45 {p : Program} {l : Launch} {e : Env} {s : State} {m : MethodId} {below : List Frame} {meth : Method} {c : Code} {b L : Nat} {xs : Nat → Int32} {D : va_G} {C : Nat → ClassId} {A : Nat → Prop} {H : Heap} {locs : List Loc} {cells slots : Nat} {Q : State → Prop} {ls : Array Slot} {L0 m0 : Nat} {i : Int32} {z : Prop} (hC : LC p s m c b L xs D C A) (hl : lv_has ls 4 [(3, .int i), (2, .ref m0), (1, .ref L0), (0, .ref b)]) (i1 : vp_in (i + 1) L) (i2 : vp_in (i + 2) L) (i3 : vp_in (i + 3) L) (i4 : vp_in (i + 4) L) (i5 : vp_in (i + 5) L) (hcs : cells ≤ 600000 ∧ slots ≤ room_1.slots) (hS : va_S A s.heap H locs) (hW : LSt z D C A L0 m0 H)  (kk : ∀ (H : Heap) (locs : List Loc), LSt False D C A L0 m0 H → va_S A s.heap H locs → W p l e room_1 s m #[Value.ref b] below meth c H locs cells slots Q (F0 m 1996 ls [])) : W p l e room_1 s m #[Value.ref b] below meth c H locs cells slots Q (F0 m 1542 ls []) := by
  obtain ⟨hx, hb, hml, hown, hw, hK, hN, hA, hX, hbl, hbA, hZ⟩ := hC
  obtain ⟨aU, aR, aR2, h_images, aS, n0, aN, y0, y1, y2, o0, aM, us, ua, rs, ra, rs2, ra2, sa, sl, ns, na, nl, y_isThere, y_taken, y_took, o_of, imf, J, im, ms, mw, ma, ml, hz, e0, hI, hJ, hP, hD⟩ := hW
  subst e0
  refine lv_aload_n hx hb dL_law_1542 rfl (lv_at hl 2 rfl) ?_
  refine lv_aload_n hx hb dL_law_1543 rfl (lv_at hl 3 rfl) ?_
  refine lv_iload_n hx hb dL_law_1544 rfl (lv_at hl 0 rfl) ?_
  refine lv_iconst (v := 1) hx hb dL_law_1545 (by decide) ?_
  refine lv_iadd hx hb dL_law_1546 ?_
  refine va_sld hx hb hX hbl hbA hS i1 dL_law_1547 ?_
  refine lGoL11 (cRunV (As := [.int (xs (i + 1).toNatClampNeg)]) (rest := []) ⟨hx, hb, hml, hown, hw⟩ hK hN hP hD [0] rfl rfl (met_oneL (k_X11_law l D C _ L0 aU aR aR2 aS n0 aN y0 y1 y2 o0 h_images us ua rs ra rs2 ra2 sa sl ns na nl y_isThere y_taken y_took o_of (xs (i + 1).toNatClampNeg) (q_law hI rs2 (xs (i + 1).toNatClampNeg)))) (cwV 1 hw (goodV mw_5_123 mw_5_124 mw_5_125 mw_1_1 mw_5_126) rfl rfl rfl (by decide +kernel) ⟨Nat.le_of_ble_eq_true rfl, Nat.le_of_ble_eq_true rfl⟩) rfl rfl rfl hl.1 rfl (Nat.le_of_ble_eq_true rfl) dL_law_1548 hcs) hP hD hS hA (fun r1 u H locs h hP hD hS => ?_)
  obtain ⟨aN1, rs21, ra21, ns1, na1, nl1⟩ := u
  have hP : va_P D vwCl (List.flatten (lW L0 C aU aR aR2 h_images aS n0 aN1 y0 y1 y2 o0 aM us ua rs ra rs21 ra21 sa sl ns1 na1 nl1 y_isThere y_taken y_took o_of imf J ms mw ma ml)) H := hP
  have hD : va_D A (List.flatten (lW L0 C aU aR aR2 h_images aS n0 aN1 y0 y1 y2 o0 aM us ua rs ra rs21 ra21 sa sl ns1 na1 nl1 y_isThere y_taken y_took o_of imf J ms mw ma ml)) := hD
  refine lv_aload_n hx hb dL_law_1551 rfl (lv_at hl 1 rfl) ?_
  refine lv_aload_n hx hb dL_law_1552 rfl (lv_at hl 3 rfl) ?_
  refine lv_iload_n hx hb dL_law_1553 rfl (lv_at hl 0 rfl) ?_
  refine lv_iconst (v := 1) hx hb dL_law_1554 (by decide) ?_
  refine lv_iadd hx hb dL_law_1555 ?_
  refine va_sld hx hb hX hbl hbA hS i1 dL_law_1556 ?_
  refine lGoL12 (cRunV (As := [.int (xs (i + 1).toNatClampNeg)]) (rest := [.long r1]) ⟨hx, hb, hml, hown, hw⟩ hK hN hP hD [5] rfl rfl (met_oneL (k_X12_law l D C _ aM ms mw ma ml (xs (i + 1).toNatClampNeg) h)) (cwV 1 hw (goodV mw_9_19 mw_9_20 mw_9_21 mw_1_13 mw_9_22) rfl rfl rfl (by decide +kernel) ⟨Nat.le_of_ble_eq_true rfl, Nat.le_of_ble_eq_true rfl⟩) rfl rfl rfl hl.1 rfl (Nat.le_of_ble_eq_true rfl) dL_law_1557 hcs) hP hD hS hA (fun r2 u H locs h hP hD hS => ?_)
  obtain ⟨ms2, ma2, ml2⟩ := u
  have hP : va_P D vwCl (List.flatten (lW L0 C aU aR aR2 h_images aS n0 aN1 y0 y1 y2 o0 aM us ua rs ra rs21 ra21 sa sl ns1 na1 nl1 y_isThere y_taken y_took o_of imf J ms2 mw ma2 ml2)) H := hP
  have hD : va_D A (List.flatten (lW L0 C aU aR aR2 h_images aS n0 aN1 y0 y1 y2 o0 aM us ua rs ra rs21 ra21 sa sl ns1 na1 nl1 y_isThere y_taken y_took o_of imf J ms2 mw ma2 ml2)) := hD
  refine W.lcmp hx hb dL_law_1560 ?_
  obtain ⟨er, hI⟩ := h
  refine lv_if_eq (tgt := 1996) hx hb dL_law_1561 (by decide) (fun _ => ?_) (fun c9 => absurd ((lg_cmp_eq _ _).mpr er) c9)
  exact kk H locs ⟨aU, aR, aR2, h_images, aS, n0, aN1, y0, y1, y2, o0, aM, us, ua, rs, ra, rs21, ra21, sa, sl, ns1, na1, nl1, y_isThere, y_taken, y_took, o_of, imf, J, im, ms2, mw, ma2, ml2, False.elim, rfl, hI, hJ, hP, hD⟩ hS
set_option maxHeartbeats 400000 in
set_option maxRecDepth 100000 in
theorem lc_46 {p : Program} {l : Launch} {e : Env} {s : State} {m : MethodId} {below : List Frame} {meth : Method} {c : Code} {b L : Nat} {xs : Nat → Int32} {D : va_G} {C : Nat → ClassId} {A : Nat → Prop} {H : Heap} {locs : List Loc} {cells slots : Nat} {Q : State → Prop} {ls : Array Slot} {L0 m0 : Nat} {i : Int32} {z : Prop} (hC : LC p s m c b L xs D C A) (hl : lv_has ls 4 [(3, .int i), (2, .ref m0), (1, .ref L0), (0, .ref b)]) (i1 : vp_in (i + 1) L) (i2 : vp_in (i + 2) L) (i3 : vp_in (i + 3) L) (i4 : vp_in (i + 4) L) (i5 : vp_in (i + 5) L) (hcs : cells ≤ 600000 ∧ slots ≤ room_1.slots) (hS : va_S A s.heap H locs) (hW : LSt z D C A L0 m0 H)  (kk : ∀ (H : Heap) (locs : List Loc), LSt False D C A L0 m0 H → va_S A s.heap H locs → W p l e room_1 s m #[Value.ref b] below meth c H locs cells slots Q (F0 m 1996 ls [])) : W p l e room_1 s m #[Value.ref b] below meth c H locs cells slots Q (F0 m 1566 ls []) := by
  obtain ⟨hx, hb, hml, hown, hw, hK, hN, hA, hX, hbl, hbA, hZ⟩ := hC
  obtain ⟨aU, aR, aR2, h_images, aS, n0, aN, y0, y1, y2, o0, aM, us, ua, rs, ra, rs2, ra2, sa, sl, ns, na, nl, y_isThere, y_taken, y_took, o_of, imf, J, im, ms, mw, ma, ml, hz, e0, hI, hJ, hP, hD⟩ := hW
  subst e0
  refine lv_aload_n hx hb dL_law_1566 rfl (lv_at hl 2 rfl) ?_
  refine lGoI11 (cRunV (As := []) (rest := []) ⟨hx, hb, hml, hown, hw⟩ hK hN hP hD [0] rfl rfl (met_oneI (k_X11_laws l D C _ L0 aU aR aR2 aS n0 aN y0 y1 y2 o0 h_images us ua rs ra rs2 ra2 sa sl ns na nl y_isThere y_taken y_took o_of  (q_laws hI rs2))) (cwV 0 hw (goodV mw_5_136 mw_5_137 mw_5_138 mw_1_1 mw_5_139) rfl rfl rfl (by decide +kernel) ⟨Nat.le_of_ble_eq_true rfl, Nat.le_of_ble_eq_true rfl⟩) rfl rfl rfl hl.1 rfl (Nat.le_of_ble_eq_true rfl) dL_law_1567 hcs) hP hD hS hA (fun r1 u H locs h hP hD hS => ?_)
  obtain ⟨aN1, rs21, ra21, ns1, na1, nl1⟩ := u
  have hP : va_P D vwCl (List.flatten (lW L0 C aU aR aR2 h_images aS n0 aN1 y0 y1 y2 o0 aM us ua rs ra rs21 ra21 sa sl ns1 na1 nl1 y_isThere y_taken y_took o_of imf J ms mw ma ml)) H := hP
  have hD : va_D A (List.flatten (lW L0 C aU aR aR2 h_images aS n0 aN1 y0 y1 y2 o0 aM us ua rs ra rs21 ra21 sa sl ns1 na1 nl1 y_isThere y_taken y_took o_of imf J ms mw ma ml)) := hD
  refine lv_aload_n hx hb dL_law_1570 rfl (lv_at hl 1 rfl) ?_
  refine lGoI12 (cRunV (As := []) (rest := [.int r1]) ⟨hx, hb, hml, hown, hw⟩ hK hN hP hD [5] rfl rfl (met_oneI (k_X12_laws l D C _ aM ms mw ma ml  h)) (cwV 0 hw (goodV mw_9_27 mw_9_28 mw_9_29 mw_1_13 mw_9_30) rfl rfl rfl (by decide +kernel) ⟨Nat.le_of_ble_eq_true rfl, Nat.le_of_ble_eq_true rfl⟩) rfl rfl rfl hl.1 rfl (Nat.le_of_ble_eq_true rfl) dL_law_1571 hcs) hP hD hS hA (fun r2 u H locs h hP hD hS => ?_)
  obtain ⟨ms2, ma2, ml2⟩ := u
  have hP : va_P D vwCl (List.flatten (lW L0 C aU aR aR2 h_images aS n0 aN1 y0 y1 y2 o0 aM us ua rs ra rs21 ra21 sa sl ns1 na1 nl1 y_isThere y_taken y_took o_of imf J ms2 mw ma2 ml2)) H := hP
  have hD : va_D A (List.flatten (lW L0 C aU aR aR2 h_images aS n0 aN1 y0 y1 y2 o0 aM us ua rs ra rs21 ra21 sa sl ns1 na1 nl1 y_isThere y_taken y_took o_of imf J ms2 mw ma2 ml2)) := hD
  obtain ⟨er, hI⟩ := h
  refine lv_icmp_eq (tgt := 1996) hx hb dL_law_1574 (by decide) (fun _ => ?_) (fun c9 => absurd er c9)
  exact kk H locs ⟨aU, aR, aR2, h_images, aS, n0, aN1, y0, y1, y2, o0, aM, us, ua, rs, ra, rs21, ra21, sa, sl, ns1, na1, nl1, y_isThere, y_taken, y_took, o_of, imf, J, im, ms2, mw, ma2, ml2, False.elim, rfl, hI, hJ, hP, hD⟩ hS
set_option maxHeartbeats 400000 in
set_option maxRecDepth 100000 in
theorem lc_48 {p : Program} {l : Launch} {e : Env} {s : State} {m : MethodId} {below : List Frame} {meth : Method} {c : Code} {b L : Nat} {xs : Nat → Int32} {D : va_G} {C : Nat → ClassId} {A : Nat → Prop} {H : Heap} {locs : List Loc} {cells slots : Nat} {Q : State → Prop} {ls : Array Slot} {L0 m0 : Nat} {i : Int32} {z : Prop} (hC : LC p s m c b L xs D C A) (hl : lv_has ls 4 [(3, .int i), (2, .ref m0), (1, .ref L0), (0, .ref b)]) (i1 : vp_in (i + 1) L) (i2 : vp_in (i + 2) L) (i3 : vp_in (i + 3) L) (i4 : vp_in (i + 4) L) (i5 : vp_in (i + 5) L) (hcs : cells ≤ 600000 ∧ slots ≤ room_1.slots) (hS : va_S A s.heap H locs) (hW : LSt z D C A L0 m0 H)  (kk : ∀ (H : Heap) (locs : List Loc), LSt False D C A L0 m0 H → va_S A s.heap H locs → W p l e room_1 s m #[Value.ref b] below meth c H locs cells slots Q (F0 m 1996 ls [])) : W p l e room_1 s m #[Value.ref b] below meth c H locs cells slots Q (F0 m 1612 ls []) := by
  obtain ⟨hx, hb, hml, hown, hw, hK, hN, hA, hX, hbl, hbA, hZ⟩ := hC
  obtain ⟨aU, aR, aR2, h_images, aS, n0, aN, y0, y1, y2, o0, aM, us, ua, rs, ra, rs2, ra2, sa, sl, ns, na, nl, y_isThere, y_taken, y_took, o_of, imf, J, im, ms, mw, ma, ml, hz, e0, hI, hJ, hP, hD⟩ := hW
  subst e0
  refine lv_aload_n hx hb dL_law_1612 rfl (lv_at hl 2 rfl) ?_
  refine lv_aload_n hx hb dL_law_1613 rfl (lv_at hl 3 rfl) ?_
  refine lv_iload_n hx hb dL_law_1614 rfl (lv_at hl 0 rfl) ?_
  refine lv_iconst (v := 1) hx hb dL_law_1615 (by decide) ?_
  refine lv_iadd hx hb dL_law_1616 ?_
  refine va_sld hx hb hX hbl hbA hS i1 dL_law_1617 ?_
  refine lGoI11 (cRunV (As := [.int (xs (i + 1).toNatClampNeg)]) (rest := []) ⟨hx, hb, hml, hown, hw⟩ hK hN hP hD [0] rfl rfl (met_oneI (k_X11_run l D C _ L0 aU aR aR2 aS n0 aN y0 y1 y2 o0 h_images us ua rs ra rs2 ra2 sa sl ns na nl y_isThere y_taken y_took o_of (xs (i + 1).toNatClampNeg) (q_run hI mw (xs (i + 1).toNatClampNeg)))) (cwV 1 hw (goodV mw_5_153 mw_5_154 mw_5_155 mw_1_1 mw_5_156) rfl rfl rfl (by decide +kernel) ⟨Nat.le_of_ble_eq_true rfl, Nat.le_of_ble_eq_true rfl⟩) rfl rfl rfl hl.1 rfl (Nat.le_of_ble_eq_true rfl) dL_law_1618 hcs) hP hD hS hA (fun r1 u H locs h hP hD hS => ?_)
  obtain ⟨rs1, ra1, ns1, na1⟩ := u
  have hP : va_P D vwCl (List.flatten (lW L0 C aU aR aR2 h_images aS n0 aN y0 y1 y2 o0 aM us ua rs1 ra1 rs2 ra2 sa sl ns1 na1 nl y_isThere y_taken y_took o_of imf J ms mw ma ml)) H := hP
  have hD : va_D A (List.flatten (lW L0 C aU aR aR2 h_images aS n0 aN y0 y1 y2 o0 aM us ua rs1 ra1 rs2 ra2 sa sl ns1 na1 nl y_isThere y_taken y_took o_of imf J ms mw ma ml)) := hD
  refine lv_aload_n hx hb dL_law_1621 rfl (lv_at hl 1 rfl) ?_
  refine lv_aload_n hx hb dL_law_1622 rfl (lv_at hl 3 rfl) ?_
  refine lv_iload_n hx hb dL_law_1623 rfl (lv_at hl 0 rfl) ?_
  refine lv_iconst (v := 1) hx hb dL_law_1624 (by decide) ?_
  refine lv_iadd hx hb dL_law_1625 ?_
  refine va_sld hx hb hX hbl hbA hS i1 dL_law_1626 ?_
  refine lGoI12 (cRunV (As := [.int (xs (i + 1).toNatClampNeg)]) (rest := [.int r1]) ⟨hx, hb, hml, hown, hw⟩ hK hN hP hD [5] rfl rfl (met_oneI (k_X12_run l D C _ aM ms mw ma ml (xs (i + 1).toNatClampNeg) h)) (cwV 1 hw (goodV mw_9_39 mw_9_40 mw_9_41 mw_1_13 mw_9_42) rfl rfl rfl (by decide +kernel) ⟨Nat.le_of_ble_eq_true rfl, Nat.le_of_ble_eq_true rfl⟩) rfl rfl rfl hl.1 rfl (Nat.le_of_ble_eq_true rfl) dL_law_1627 hcs) hP hD hS hA (fun r2 u H locs h hP hD hS => ?_)
  obtain ⟨ms2, mw2, ma2⟩ := u
  have hP : va_P D vwCl (List.flatten (lW L0 C aU aR aR2 h_images aS n0 aN y0 y1 y2 o0 aM us ua rs1 ra1 rs2 ra2 sa sl ns1 na1 nl y_isThere y_taken y_took o_of imf J ms2 mw2 ma2 ml)) H := hP
  have hD : va_D A (List.flatten (lW L0 C aU aR aR2 h_images aS n0 aN y0 y1 y2 o0 aM us ua rs1 ra1 rs2 ra2 sa sl ns1 na1 nl y_isThere y_taken y_took o_of imf J ms2 mw2 ma2 ml)) := hD
  obtain ⟨er, hI⟩ := h
  refine lv_icmp_eq (tgt := 1996) hx hb dL_law_1630 (by decide) (fun _ => ?_) (fun c9 => absurd er c9)
  exact kk H locs ⟨aU, aR, aR2, h_images, aS, n0, aN, y0, y1, y2, o0, aM, us, ua, rs1, ra1, rs2, ra2, sa, sl, ns1, na1, nl, y_isThere, y_taken, y_took, o_of, imf, J, im, ms2, mw2, ma2, ml, False.elim, rfl, hI, hJ, hP, hD⟩ hS
set_option maxHeartbeats 400000 in
set_option maxRecDepth 100000 in
theorem lc_49 {p : Program} {l : Launch} {e : Env} {s : State} {m : MethodId} {below : List Frame} {meth : Method} {c : Code} {b L : Nat} {xs : Nat → Int32} {D : va_G} {C : Nat → ClassId} {A : Nat → Prop} {H : Heap} {locs : List Loc} {cells slots : Nat} {Q : State → Prop} {ls : Array Slot} {L0 m0 : Nat} {i : Int32} {z : Prop} (hC : LC p s m c b L xs D C A) (hl : lv_has ls 4 [(3, .int i), (2, .ref m0), (1, .ref L0), (0, .ref b)]) (i1 : vp_in (i + 1) L) (i2 : vp_in (i + 2) L) (i3 : vp_in (i + 3) L) (i4 : vp_in (i + 4) L) (i5 : vp_in (i + 5) L) (hcs : cells ≤ 600000 ∧ slots ≤ room_1.slots) (hS : va_S A s.heap H locs) (hW : LSt z D C A L0 m0 H)  (kk : ∀ (H : Heap) (locs : List Loc), LSt False D C A L0 m0 H → va_S A s.heap H locs → W p l e room_1 s m #[Value.ref b] below meth c H locs cells slots Q (F0 m 1996 ls [])) : W p l e room_1 s m #[Value.ref b] below meth c H locs cells slots Q (F0 m 1635 ls []) := by
  obtain ⟨hx, hb, hml, hown, hw, hK, hN, hA, hX, hbl, hbA, hZ⟩ := hC
  obtain ⟨aU, aR, aR2, h_images, aS, n0, aN, y0, y1, y2, o0, aM, us, ua, rs, ra, rs2, ra2, sa, sl, ns, na, nl, y_isThere, y_taken, y_took, o_of, imf, J, im, ms, mw, ma, ml, hz, e0, hI, hJ, hP, hD⟩ := hW
  subst e0
  refine lv_aload_n hx hb dL_law_1635 rfl (lv_at hl 2 rfl) ?_
  refine lv_aload_n hx hb dL_law_1636 rfl (lv_at hl 3 rfl) ?_
  refine lv_iload_n hx hb dL_law_1637 rfl (lv_at hl 0 rfl) ?_
  refine lv_iconst (v := 1) hx hb dL_law_1638 (by decide) ?_
  refine lv_iadd hx hb dL_law_1639 ?_
  refine va_sld hx hb hX hbl hbA hS i1 dL_law_1640 ?_
  refine lGoI11 (cRunV (As := [.int (xs (i + 1).toNatClampNeg)]) (rest := []) ⟨hx, hb, hml, hown, hw⟩ hK hN hP hD [0] rfl rfl (met_oneI (k_X11_told l D C _ L0 aU aR aR2 aS n0 aN y0 y1 y2 o0 h_images us ua rs ra rs2 ra2 sa sl ns na nl y_isThere y_taken y_took o_of (xs (i + 1).toNatClampNeg) (q_told hI (xs (i + 1).toNatClampNeg)))) (cwV 1 hw (goodV mw_5_177 mw_5_178 mw_5_179 mw_1_1 mw_5_180) rfl rfl rfl (by decide +kernel) ⟨Nat.le_of_ble_eq_true rfl, Nat.le_of_ble_eq_true rfl⟩) rfl rfl rfl hl.1 rfl (Nat.le_of_ble_eq_true rfl) dL_law_1641 hcs) hP hD hS hA (fun r1 u H locs h hP hD hS => ?_)
  obtain ⟨rs1, ra1, ns1, na1⟩ := u
  have hP : va_P D vwCl (List.flatten (lW L0 C aU aR aR2 h_images aS n0 aN y0 y1 y2 o0 aM us ua rs1 ra1 rs2 ra2 sa sl ns1 na1 nl y_isThere y_taken y_took o_of imf J ms mw ma ml)) H := hP
  have hD : va_D A (List.flatten (lW L0 C aU aR aR2 h_images aS n0 aN y0 y1 y2 o0 aM us ua rs1 ra1 rs2 ra2 sa sl ns1 na1 nl y_isThere y_taken y_took o_of imf J ms mw ma ml)) := hD
  refine lv_aload_n hx hb dL_law_1644 rfl (lv_at hl 1 rfl) ?_
  refine lv_aload_n hx hb dL_law_1645 rfl (lv_at hl 3 rfl) ?_
  refine lv_iload_n hx hb dL_law_1646 rfl (lv_at hl 0 rfl) ?_
  refine lv_iconst (v := 1) hx hb dL_law_1647 (by decide) ?_
  refine lv_iadd hx hb dL_law_1648 ?_
  refine va_sld hx hb hX hbl hbA hS i1 dL_law_1649 ?_
  refine lGoI12 (cRunV (As := [.int (xs (i + 1).toNatClampNeg)]) (rest := [.int r1]) ⟨hx, hb, hml, hown, hw⟩ hK hN hP hD [5] rfl rfl (met_oneI (k_X12_told l D C _ aM ms mw ma ml (xs (i + 1).toNatClampNeg) h)) (cwV 1 hw (goodV mw_9_75 mw_9_76 mw_9_77 mw_1_13 mw_9_78) rfl rfl rfl (by decide +kernel) ⟨Nat.le_of_ble_eq_true rfl, Nat.le_of_ble_eq_true rfl⟩) rfl rfl rfl hl.1 rfl (Nat.le_of_ble_eq_true rfl) dL_law_1650 hcs) hP hD hS hA (fun r2 u H locs h hP hD hS => ?_)
  obtain ⟨ms2, ma2⟩ := u
  have hP : va_P D vwCl (List.flatten (lW L0 C aU aR aR2 h_images aS n0 aN y0 y1 y2 o0 aM us ua rs1 ra1 rs2 ra2 sa sl ns1 na1 nl y_isThere y_taken y_took o_of imf J ms2 mw ma2 ml)) H := hP
  have hD : va_D A (List.flatten (lW L0 C aU aR aR2 h_images aS n0 aN y0 y1 y2 o0 aM us ua rs1 ra1 rs2 ra2 sa sl ns1 na1 nl y_isThere y_taken y_took o_of imf J ms2 mw ma2 ml)) := hD
  obtain ⟨er, hI⟩ := h
  refine lv_icmp_eq (tgt := 1996) hx hb dL_law_1653 (by decide) (fun _ => ?_) (fun c9 => absurd er c9)
  exact kk H locs ⟨aU, aR, aR2, h_images, aS, n0, aN, y0, y1, y2, o0, aM, us, ua, rs1, ra1, rs2, ra2, sa, sl, ns1, na1, nl, y_isThere, y_taken, y_took, o_of, imf, J, im, ms2, mw, ma2, ml, False.elim, rfl, hI, hJ, hP, hD⟩ hS
set_option maxHeartbeats 400000 in
set_option maxRecDepth 100000 in
theorem lc_50 {p : Program} {l : Launch} {e : Env} {s : State} {m : MethodId} {below : List Frame} {meth : Method} {c : Code} {b L : Nat} {xs : Nat → Int32} {D : va_G} {C : Nat → ClassId} {A : Nat → Prop} {H : Heap} {locs : List Loc} {cells slots : Nat} {Q : State → Prop} {ls : Array Slot} {L0 m0 : Nat} {i : Int32} {z : Prop} (hC : LC p s m c b L xs D C A) (hl : lv_has ls 4 [(3, .int i), (2, .ref m0), (1, .ref L0), (0, .ref b)]) (i1 : vp_in (i + 1) L) (i2 : vp_in (i + 2) L) (i3 : vp_in (i + 3) L) (i4 : vp_in (i + 4) L) (i5 : vp_in (i + 5) L) (hcs : cells ≤ 600000 ∧ slots ≤ room_1.slots) (hS : va_S A s.heap H locs) (hW : LSt z D C A L0 m0 H)  (kk : ∀ (H : Heap) (locs : List Loc), LSt False D C A L0 m0 H → va_S A s.heap H locs → W p l e room_1 s m #[Value.ref b] below meth c H locs cells slots Q (F0 m 1996 ls [])) : W p l e room_1 s m #[Value.ref b] below meth c H locs cells slots Q (F0 m 1658 ls []) := by
  obtain ⟨hx, hb, hml, hown, hw, hK, hN, hA, hX, hbl, hbA, hZ⟩ := hC
  obtain ⟨aU, aR, aR2, h_images, aS, n0, aN, y0, y1, y2, o0, aM, us, ua, rs, ra, rs2, ra2, sa, sl, ns, na, nl, y_isThere, y_taken, y_took, o_of, imf, J, im, ms, mw, ma, ml, hz, e0, hI, hJ, hP, hD⟩ := hW
  subst e0
  refine lv_aload_n hx hb dL_law_1658 rfl (lv_at hl 2 rfl) ?_
  refine lv_aload_n hx hb dL_law_1659 rfl (lv_at hl 3 rfl) ?_
  refine lv_iload_n hx hb dL_law_1660 rfl (lv_at hl 0 rfl) ?_
  refine lv_iconst (v := 1) hx hb dL_law_1661 (by decide) ?_
  refine lv_iadd hx hb dL_law_1662 ?_
  refine va_sld hx hb hX hbl hbA hS i1 dL_law_1663 ?_
  refine lGoI11 (cRunV (As := [.int (xs (i + 1).toNatClampNeg)]) (rest := []) ⟨hx, hb, hml, hown, hw⟩ hK hN hP hD [0] rfl rfl (met_oneI (k_X11_taken l D C _ L0 aU aR aR2 aS n0 aN y0 y1 y2 o0 h_images us ua rs ra rs2 ra2 sa sl ns na nl y_isThere y_taken y_took o_of (xs (i + 1).toNatClampNeg) (q_taken hI (xs (i + 1).toNatClampNeg)))) (cwV 1 hw (goodV mw_5_204 mw_5_205 mw_5_206 mw_1_1 mw_5_207) rfl rfl rfl (by decide +kernel) ⟨Nat.le_of_ble_eq_true rfl, Nat.le_of_ble_eq_true rfl⟩) rfl rfl rfl hl.1 rfl (Nat.le_of_ble_eq_true rfl) dL_law_1664 hcs) hP hD hS hA (fun r1 u H locs h hP hD hS => ?_)
  have hP : va_P D vwCl (List.flatten (lW L0 C aU aR aR2 h_images aS n0 aN y0 y1 y2 o0 aM us ua rs ra rs2 ra2 sa sl ns na nl y_isThere y_taken y_took o_of imf J ms mw ma ml)) H := hP
  have hD : va_D A (List.flatten (lW L0 C aU aR aR2 h_images aS n0 aN y0 y1 y2 o0 aM us ua rs ra rs2 ra2 sa sl ns na nl y_isThere y_taken y_took o_of imf J ms mw ma ml)) := hD
  refine lv_aload_n hx hb dL_law_1667 rfl (lv_at hl 1 rfl) ?_
  refine lv_aload_n hx hb dL_law_1668 rfl (lv_at hl 3 rfl) ?_
  refine lv_iload_n hx hb dL_law_1669 rfl (lv_at hl 0 rfl) ?_
  refine lv_iconst (v := 1) hx hb dL_law_1670 (by decide) ?_
  refine lv_iadd hx hb dL_law_1671 ?_
  refine va_sld hx hb hX hbl hbA hS i1 dL_law_1672 ?_
  refine lGoI12 (cRunV (As := [.int (xs (i + 1).toNatClampNeg)]) (rest := [.int r1]) ⟨hx, hb, hml, hown, hw⟩ hK hN hP hD [5] rfl rfl (met_oneI (k_X12_taken l D C _ aM ms mw ma ml (xs (i + 1).toNatClampNeg) h)) (cwV 1 hw (goodV mw_9_79 mw_9_80 mw_9_81 mw_1_13 mw_9_82) rfl rfl rfl (by decide +kernel) ⟨Nat.le_of_ble_eq_true rfl, Nat.le_of_ble_eq_true rfl⟩) rfl rfl rfl hl.1 rfl (Nat.le_of_ble_eq_true rfl) dL_law_1673 hcs) hP hD hS hA (fun r2 ms2 H locs h hP hD hS => ?_)
  have hP : va_P D vwCl (List.flatten (lW L0 C aU aR aR2 h_images aS n0 aN y0 y1 y2 o0 aM us ua rs ra rs2 ra2 sa sl ns na nl y_isThere y_taken y_took o_of imf J ms2 mw ma ml)) H := hP
  have hD : va_D A (List.flatten (lW L0 C aU aR aR2 h_images aS n0 aN y0 y1 y2 o0 aM us ua rs ra rs2 ra2 sa sl ns na nl y_isThere y_taken y_took o_of imf J ms2 mw ma ml)) := hD
  obtain ⟨er, hI⟩ := h
  refine lv_icmp_eq (tgt := 1996) hx hb dL_law_1676 (by decide) (fun _ => ?_) (fun c9 => absurd er c9)
  exact kk H locs ⟨aU, aR, aR2, h_images, aS, n0, aN, y0, y1, y2, o0, aM, us, ua, rs, ra, rs2, ra2, sa, sl, ns, na, nl, y_isThere, y_taken, y_took, o_of, imf, J, im, ms2, mw, ma, ml, False.elim, rfl, hI, hJ, hP, hD⟩ hS
set_option maxHeartbeats 400000 in
set_option maxRecDepth 100000 in
theorem lc_51 {p : Program} {l : Launch} {e : Env} {s : State} {m : MethodId} {below : List Frame} {meth : Method} {c : Code} {b L : Nat} {xs : Nat → Int32} {D : va_G} {C : Nat → ClassId} {A : Nat → Prop} {H : Heap} {locs : List Loc} {cells slots : Nat} {Q : State → Prop} {ls : Array Slot} {L0 m0 : Nat} {i : Int32} {z : Prop} (hC : LC p s m c b L xs D C A) (hl : lv_has ls 4 [(3, .int i), (2, .ref m0), (1, .ref L0), (0, .ref b)]) (i1 : vp_in (i + 1) L) (i2 : vp_in (i + 2) L) (i3 : vp_in (i + 3) L) (i4 : vp_in (i + 4) L) (i5 : vp_in (i + 5) L) (hcs : cells ≤ 600000 ∧ slots ≤ room_1.slots) (hS : va_S A s.heap H locs) (hW : LSt z D C A L0 m0 H)  (kk : ∀ (H : Heap) (locs : List Loc), LSt False D C A L0 m0 H → va_S A s.heap H locs → W p l e room_1 s m #[Value.ref b] below meth c H locs cells slots Q (F0 m 1996 ls [])) : W p l e room_1 s m #[Value.ref b] below meth c H locs cells slots Q (F0 m 1681 ls []) := by
  obtain ⟨hx, hb, hml, hown, hw, hK, hN, hA, hX, hbl, hbA, hZ⟩ := hC
  obtain ⟨aU, aR, aR2, h_images, aS, n0, aN, y0, y1, y2, o0, aM, us, ua, rs, ra, rs2, ra2, sa, sl, ns, na, nl, y_isThere, y_taken, y_took, o_of, imf, J, im, ms, mw, ma, ml, hz, e0, hI, hJ, hP, hD⟩ := hW
  subst e0
  refine lv_aload_n hx hb dL_law_1681 rfl (lv_at hl 2 rfl) ?_
  refine lv_aload_n hx hb dL_law_1682 rfl (lv_at hl 3 rfl) ?_
  refine lv_iload_n hx hb dL_law_1683 rfl (lv_at hl 0 rfl) ?_
  refine lv_iconst (v := 1) hx hb dL_law_1684 (by decide) ?_
  refine lv_iadd hx hb dL_law_1685 ?_
  refine va_sld hx hb hX hbl hbA hS i1 dL_law_1686 ?_
  refine lGoI11 (cRunV (As := [.int (xs (i + 1).toNatClampNeg)]) (rest := []) ⟨hx, hb, hml, hown, hw⟩ hK hN hP hD [0] rfl rfl (met_oneI (k_X11_took l D C _ L0 aU aR aR2 aS n0 aN y0 y1 y2 o0 h_images us ua rs ra rs2 ra2 sa sl ns na nl y_isThere y_taken y_took o_of (xs (i + 1).toNatClampNeg) (q_took hI (xs (i + 1).toNatClampNeg)))) (cwV 1 hw (goodV mw_5_208 mw_5_209 mw_5_210 mw_1_1 mw_5_211) rfl rfl rfl (by decide +kernel) ⟨Nat.le_of_ble_eq_true rfl, Nat.le_of_ble_eq_true rfl⟩) rfl rfl rfl hl.1 rfl (Nat.le_of_ble_eq_true rfl) dL_law_1687 hcs) hP hD hS hA (fun r1 u H locs h hP hD hS => ?_)
  have hP : va_P D vwCl (List.flatten (lW L0 C aU aR aR2 h_images aS n0 aN y0 y1 y2 o0 aM us ua rs ra rs2 ra2 sa sl ns na nl y_isThere y_taken y_took o_of imf J ms mw ma ml)) H := hP
  have hD : va_D A (List.flatten (lW L0 C aU aR aR2 h_images aS n0 aN y0 y1 y2 o0 aM us ua rs ra rs2 ra2 sa sl ns na nl y_isThere y_taken y_took o_of imf J ms mw ma ml)) := hD
  refine lv_aload_n hx hb dL_law_1690 rfl (lv_at hl 1 rfl) ?_
  refine lv_aload_n hx hb dL_law_1691 rfl (lv_at hl 3 rfl) ?_
  refine lv_iload_n hx hb dL_law_1692 rfl (lv_at hl 0 rfl) ?_
  refine lv_iconst (v := 1) hx hb dL_law_1693 (by decide) ?_
  refine lv_iadd hx hb dL_law_1694 ?_
  refine va_sld hx hb hX hbl hbA hS i1 dL_law_1695 ?_
  refine lGoI12 (cRunV (As := [.int (xs (i + 1).toNatClampNeg)]) (rest := [.int r1]) ⟨hx, hb, hml, hown, hw⟩ hK hN hP hD [5] rfl rfl (met_oneI (k_X12_took l D C _ aM ms mw ma ml (xs (i + 1).toNatClampNeg) h)) (cwV 1 hw (goodV mw_9_83 mw_9_84 mw_9_85 mw_1_13 mw_9_86) rfl rfl rfl (by decide +kernel) ⟨Nat.le_of_ble_eq_true rfl, Nat.le_of_ble_eq_true rfl⟩) rfl rfl rfl hl.1 rfl (Nat.le_of_ble_eq_true rfl) dL_law_1696 hcs) hP hD hS hA (fun r2 ms2 H locs h hP hD hS => ?_)
  have hP : va_P D vwCl (List.flatten (lW L0 C aU aR aR2 h_images aS n0 aN y0 y1 y2 o0 aM us ua rs ra rs2 ra2 sa sl ns na nl y_isThere y_taken y_took o_of imf J ms2 mw ma ml)) H := hP
  have hD : va_D A (List.flatten (lW L0 C aU aR aR2 h_images aS n0 aN y0 y1 y2 o0 aM us ua rs ra rs2 ra2 sa sl ns na nl y_isThere y_taken y_took o_of imf J ms2 mw ma ml)) := hD
  obtain ⟨er, hI⟩ := h
  refine lv_icmp_eq (tgt := 1996) hx hb dL_law_1699 (by decide) (fun _ => ?_) (fun c9 => absurd er c9)
  exact kk H locs ⟨aU, aR, aR2, h_images, aS, n0, aN, y0, y1, y2, o0, aM, us, ua, rs, ra, rs2, ra2, sa, sl, ns, na, nl, y_isThere, y_taken, y_took, o_of, imf, J, im, ms2, mw, ma, ml, False.elim, rfl, hI, hJ, hP, hD⟩ hS
set_option maxHeartbeats 400000 in
set_option maxRecDepth 100000 in
theorem lc_52 {p : Program} {l : Launch} {e : Env} {s : State} {m : MethodId} {below : List Frame} {meth : Method} {c : Code} {b L : Nat} {xs : Nat → Int32} {D : va_G} {C : Nat → ClassId} {A : Nat → Prop} {H : Heap} {locs : List Loc} {cells slots : Nat} {Q : State → Prop} {ls : Array Slot} {L0 m0 : Nat} {i : Int32} {z : Prop} (hC : LC p s m c b L xs D C A) (hl : lv_has ls 4 [(3, .int i), (2, .ref m0), (1, .ref L0), (0, .ref b)]) (i1 : vp_in (i + 1) L) (i2 : vp_in (i + 2) L) (i3 : vp_in (i + 3) L) (i4 : vp_in (i + 4) L) (i5 : vp_in (i + 5) L) (hcs : cells ≤ 600000 ∧ slots ≤ room_1.slots) (hS : va_S A s.heap H locs) (hW : LSt z D C A L0 m0 H)  (kk : ∀ (H : Heap) (locs : List Loc), LSt False D C A L0 m0 H → va_S A s.heap H locs → W p l e room_1 s m #[Value.ref b] below meth c H locs cells slots Q (F0 m 1996 ls [])) : W p l e room_1 s m #[Value.ref b] below meth c H locs cells slots Q (F0 m 1704 ls []) := by
  obtain ⟨hx, hb, hml, hown, hw, hK, hN, hA, hX, hbl, hbA, hZ⟩ := hC
  obtain ⟨aU, aR, aR2, h_images, aS, n0, aN, y0, y1, y2, o0, aM, us, ua, rs, ra, rs2, ra2, sa, sl, ns, na, nl, y_isThere, y_taken, y_took, o_of, imf, J, im, ms, mw, ma, ml, hz, e0, hI, hJ, hP, hD⟩ := hW
  subst e0
  refine lv_aload_n hx hb dL_law_1704 rfl (lv_at hl 2 rfl) ?_
  refine lv_aload_n hx hb dL_law_1705 rfl (lv_at hl 3 rfl) ?_
  refine lv_iload_n hx hb dL_law_1706 rfl (lv_at hl 0 rfl) ?_
  refine lv_iconst (v := 1) hx hb dL_law_1707 (by decide) ?_
  refine lv_iadd hx hb dL_law_1708 ?_
  refine va_sld hx hb hX hbl hbA hS i1 dL_law_1709 ?_
  refine lv_aload_n hx hb dL_law_1710 rfl (lv_at hl 3 rfl) ?_
  refine lv_iload_n hx hb dL_law_1711 rfl (lv_at hl 0 rfl) ?_
  refine lv_iconst (v := 2) hx hb dL_law_1712 (by decide) ?_
  refine lv_iadd hx hb dL_law_1713 ?_
  refine va_sld hx hb hX hbl hbA hS i2 dL_law_1714 ?_
  refine lv_aload_n hx hb dL_law_1715 rfl (lv_at hl 3 rfl) ?_
  refine lv_iload_n hx hb dL_law_1716 rfl (lv_at hl 0 rfl) ?_
  refine lv_iconst (v := 3) hx hb dL_law_1717 (by decide) ?_
  refine lv_iadd hx hb dL_law_1718 ?_
  refine va_sld hx hb hX hbl hbA hS i3 dL_law_1719 ?_
  refine lGoL11 (cRunV (As := [.int (xs (i + 1).toNatClampNeg), .int (xs (i + 2).toNatClampNeg), .int (xs (i + 3).toNatClampNeg)]) (rest := []) ⟨hx, hb, hml, hown, hw⟩ hK hN hP hD [0] rfl rfl (met_oneL (k_X11_years l D C _ L0 aU aR aR2 aS n0 aN y0 y1 y2 o0 h_images us ua rs ra rs2 ra2 sa sl ns na nl y_isThere y_taken y_took o_of (xs (i + 1).toNatClampNeg) (xs (i + 2).toNatClampNeg) (xs (i + 3).toNatClampNeg) (q_years hI mw y_taken y_took (xs (i + 1).toNatClampNeg) (xs (i + 2).toNatClampNeg) (xs (i + 3).toNatClampNeg)))) (cwV 3 hw (goodV mw_5_212 mw_5_213 mw_5_214 mw_1_1 mw_5_215) rfl rfl rfl (by decide +kernel) ⟨Nat.le_of_ble_eq_true rfl, Nat.le_of_ble_eq_true rfl⟩) rfl rfl rfl hl.1 rfl (Nat.le_of_ble_eq_true rfl) dL_law_1720 hcs) hP hD hS hA (fun r1 u H locs h hP hD hS => ?_)
  obtain ⟨ns1, na1, y_isThere1, y_taken1, y_took1⟩ := u
  have hP : va_P D vwCl (List.flatten (lW L0 C aU aR aR2 h_images aS n0 aN y0 y1 y2 o0 aM us ua rs ra rs2 ra2 sa sl ns1 na1 nl y_isThere1 y_taken1 y_took1 o_of imf J ms mw ma ml)) H := hP
  have hD : va_D A (List.flatten (lW L0 C aU aR aR2 h_images aS n0 aN y0 y1 y2 o0 aM us ua rs ra rs2 ra2 sa sl ns1 na1 nl y_isThere1 y_taken1 y_took1 o_of imf J ms mw ma ml)) := hD
  refine lv_aload_n hx hb dL_law_1723 rfl (lv_at hl 1 rfl) ?_
  refine lv_aload_n hx hb dL_law_1724 rfl (lv_at hl 3 rfl) ?_
  refine lv_iload_n hx hb dL_law_1725 rfl (lv_at hl 0 rfl) ?_
  refine lv_iconst (v := 1) hx hb dL_law_1726 (by decide) ?_
  refine lv_iadd hx hb dL_law_1727 ?_
  refine va_sld hx hb hX hbl hbA hS i1 dL_law_1728 ?_
  refine lv_aload_n hx hb dL_law_1729 rfl (lv_at hl 3 rfl) ?_
  refine lv_iload_n hx hb dL_law_1730 rfl (lv_at hl 0 rfl) ?_
  refine lv_iconst (v := 2) hx hb dL_law_1731 (by decide) ?_
  refine lv_iadd hx hb dL_law_1732 ?_
  refine va_sld hx hb hX hbl hbA hS i2 dL_law_1733 ?_
  refine lv_aload_n hx hb dL_law_1734 rfl (lv_at hl 3 rfl) ?_
  refine lv_iload_n hx hb dL_law_1735 rfl (lv_at hl 0 rfl) ?_
  refine lv_iconst (v := 3) hx hb dL_law_1736 (by decide) ?_
  refine lv_iadd hx hb dL_law_1737 ?_
  refine va_sld hx hb hX hbl hbA hS i3 dL_law_1738 ?_
  refine lGoL12 (cRunV (As := [.int (xs (i + 1).toNatClampNeg), .int (xs (i + 2).toNatClampNeg), .int (xs (i + 3).toNatClampNeg)]) (rest := [.long r1]) ⟨hx, hb, hml, hown, hw⟩ hK hN hP hD [5] rfl rfl (met_oneL (k_X12_years l D C _ aM ms mw ma ml (xs (i + 1).toNatClampNeg) (xs (i + 2).toNatClampNeg) (xs (i + 3).toNatClampNeg) h)) (cwV 3 hw (goodV mw_9_87 mw_9_88 mw_9_89 mw_1_13 mw_9_90) rfl rfl rfl (by decide +kernel) ⟨Nat.le_of_ble_eq_true rfl, Nat.le_of_ble_eq_true rfl⟩) rfl rfl rfl hl.1 rfl (Nat.le_of_ble_eq_true rfl) dL_law_1739 hcs) hP hD hS hA (fun r2 u H locs h hP hD hS => ?_)
  obtain ⟨ms2, mw2, ma2⟩ := u
  have hP : va_P D vwCl (List.flatten (lW L0 C aU aR aR2 h_images aS n0 aN y0 y1 y2 o0 aM us ua rs ra rs2 ra2 sa sl ns1 na1 nl y_isThere1 y_taken1 y_took1 o_of imf J ms2 mw2 ma2 ml)) H := hP
  have hD : va_D A (List.flatten (lW L0 C aU aR aR2 h_images aS n0 aN y0 y1 y2 o0 aM us ua rs ra rs2 ra2 sa sl ns1 na1 nl y_isThere1 y_taken1 y_took1 o_of imf J ms2 mw2 ma2 ml)) := hD
  refine W.lcmp hx hb dL_law_1742 ?_
  obtain ⟨er, hI⟩ := h
  refine lv_if_eq (tgt := 1996) hx hb dL_law_1743 (by decide) (fun _ => ?_) (fun c9 => absurd ((lg_cmp_eq _ _).mpr er) c9)
  exact kk H locs ⟨aU, aR, aR2, h_images, aS, n0, aN, y0, y1, y2, o0, aM, us, ua, rs, ra, rs2, ra2, sa, sl, ns1, na1, nl, y_isThere1, y_taken1, y_took1, o_of, imf, J, im, ms2, mw2, ma2, ml, False.elim, rfl, hI, hJ, hP, hD⟩ hS
set_option maxHeartbeats 400000 in
set_option maxRecDepth 100000 in
theorem lc_53 {p : Program} {l : Launch} {e : Env} {s : State} {m : MethodId} {below : List Frame} {meth : Method} {c : Code} {b L : Nat} {xs : Nat → Int32} {D : va_G} {C : Nat → ClassId} {A : Nat → Prop} {H : Heap} {locs : List Loc} {cells slots : Nat} {Q : State → Prop} {ls : Array Slot} {L0 m0 : Nat} {i : Int32} {z : Prop} (hC : LC p s m c b L xs D C A) (hl : lv_has ls 4 [(3, .int i), (2, .ref m0), (1, .ref L0), (0, .ref b)]) (i1 : vp_in (i + 1) L) (i2 : vp_in (i + 2) L) (i3 : vp_in (i + 3) L) (i4 : vp_in (i + 4) L) (i5 : vp_in (i + 5) L) (hcs : cells ≤ 600000 ∧ slots ≤ room_1.slots) (hS : va_S A s.heap H locs) (hW : LSt z D C A L0 m0 H)  (kk : ∀ (H : Heap) (locs : List Loc), LSt False D C A L0 m0 H → va_S A s.heap H locs → W p l e room_1 s m #[Value.ref b] below meth c H locs cells slots Q (F0 m 1996 ls [])) : W p l e room_1 s m #[Value.ref b] below meth c H locs cells slots Q (F0 m 1748 ls []) := by
  obtain ⟨hx, hb, hml, hown, hw, hK, hN, hA, hX, hbl, hbA, hZ⟩ := hC
  obtain ⟨aU, aR, aR2, h_images, aS, n0, aN, y0, y1, y2, o0, aM, us, ua, rs, ra, rs2, ra2, sa, sl, ns, na, nl, y_isThere, y_taken, y_took, o_of, imf, J, im, ms, mw, ma, ml, hz, e0, hI, hJ, hP, hD⟩ := hW
  subst e0
  refine lv_aload_n hx hb dL_law_1748 rfl (lv_at hl 2 rfl) ?_
  refine lv_aload_n hx hb dL_law_1749 rfl (lv_at hl 3 rfl) ?_
  refine lv_iload_n hx hb dL_law_1750 rfl (lv_at hl 0 rfl) ?_
  refine lv_iconst (v := 1) hx hb dL_law_1751 (by decide) ?_
  refine lv_iadd hx hb dL_law_1752 ?_
  refine va_sld hx hb hX hbl hbA hS i1 dL_law_1753 ?_
  refine lGoI11 (cRunV (As := [.int (xs (i + 1).toNatClampNeg)]) (rest := []) ⟨hx, hb, hml, hown, hw⟩ hK hN hP hD [0] rfl rfl (met_oneI (k_X11_count l D C _ L0 aU aR aR2 aS n0 aN y0 y1 y2 o0 h_images us ua rs ra rs2 ra2 sa sl ns na nl y_isThere y_taken y_took o_of (xs (i + 1).toNatClampNeg) (q_count hI (xs (i + 1).toNatClampNeg)))) (cwV 1 hw (goodV mw_5_223 mw_5_224 mw_5_225 mw_1_1 mw_5_226) rfl rfl rfl (by decide +kernel) ⟨Nat.le_of_ble_eq_true rfl, Nat.le_of_ble_eq_true rfl⟩) rfl rfl rfl hl.1 rfl (Nat.le_of_ble_eq_true rfl) dL_law_1754 hcs) hP hD hS hA (fun r1 u H locs h hP hD hS => ?_)
  have hP : va_P D vwCl (List.flatten (lW L0 C aU aR aR2 h_images aS n0 aN y0 y1 y2 o0 aM us ua rs ra rs2 ra2 sa sl ns na nl y_isThere y_taken y_took o_of imf J ms mw ma ml)) H := hP
  have hD : va_D A (List.flatten (lW L0 C aU aR aR2 h_images aS n0 aN y0 y1 y2 o0 aM us ua rs ra rs2 ra2 sa sl ns na nl y_isThere y_taken y_took o_of imf J ms mw ma ml)) := hD
  refine lv_aload_n hx hb dL_law_1757 rfl (lv_at hl 1 rfl) ?_
  refine lv_aload_n hx hb dL_law_1758 rfl (lv_at hl 3 rfl) ?_
  refine lv_iload_n hx hb dL_law_1759 rfl (lv_at hl 0 rfl) ?_
  refine lv_iconst (v := 1) hx hb dL_law_1760 (by decide) ?_
  refine lv_iadd hx hb dL_law_1761 ?_
  refine va_sld hx hb hX hbl hbA hS i1 dL_law_1762 ?_
  refine lGoI12 (cRunV (As := [.int (xs (i + 1).toNatClampNeg)]) (rest := [.int r1]) ⟨hx, hb, hml, hown, hw⟩ hK hN hP hD [5] rfl rfl (met_oneI (k_X12_count l D C _ aM ms mw ma ml (xs (i + 1).toNatClampNeg) h)) (cwV 1 hw (goodV mw_9_91 mw_9_92 mw_9_93 mw_1_13 mw_9_94) rfl rfl rfl (by decide +kernel) ⟨Nat.le_of_ble_eq_true rfl, Nat.le_of_ble_eq_true rfl⟩) rfl rfl rfl hl.1 rfl (Nat.le_of_ble_eq_true rfl) dL_law_1763 hcs) hP hD hS hA (fun r2 ms2 H locs h hP hD hS => ?_)
  have hP : va_P D vwCl (List.flatten (lW L0 C aU aR aR2 h_images aS n0 aN y0 y1 y2 o0 aM us ua rs ra rs2 ra2 sa sl ns na nl y_isThere y_taken y_took o_of imf J ms2 mw ma ml)) H := hP
  have hD : va_D A (List.flatten (lW L0 C aU aR aR2 h_images aS n0 aN y0 y1 y2 o0 aM us ua rs ra rs2 ra2 sa sl ns na nl y_isThere y_taken y_took o_of imf J ms2 mw ma ml)) := hD
  obtain ⟨er, hI⟩ := h
  refine lv_icmp_eq (tgt := 1996) hx hb dL_law_1766 (by decide) (fun _ => ?_) (fun c9 => absurd er c9)
  exact kk H locs ⟨aU, aR, aR2, h_images, aS, n0, aN, y0, y1, y2, o0, aM, us, ua, rs, ra, rs2, ra2, sa, sl, ns, na, nl, y_isThere, y_taken, y_took, o_of, imf, J, im, ms2, mw, ma, ml, False.elim, rfl, hI, hJ, hP, hD⟩ hS
set_option maxHeartbeats 400000 in
set_option maxRecDepth 100000 in
theorem lc_56 {p : Program} {l : Launch} {e : Env} {s : State} {m : MethodId} {below : List Frame} {meth : Method} {c : Code} {b L : Nat} {xs : Nat → Int32} {D : va_G} {C : Nat → ClassId} {A : Nat → Prop} {H : Heap} {locs : List Loc} {cells slots : Nat} {Q : State → Prop} {ls : Array Slot} {L0 m0 : Nat} {i : Int32} {z : Prop} (hC : LC p s m c b L xs D C A) (hl : lv_has ls 4 [(3, .int i), (2, .ref m0), (1, .ref L0), (0, .ref b)]) (i1 : vp_in (i + 1) L) (i2 : vp_in (i + 2) L) (i3 : vp_in (i + 3) L) (i4 : vp_in (i + 4) L) (i5 : vp_in (i + 5) L) (hcs : cells ≤ 600000 ∧ slots ≤ room_1.slots) (hS : va_S A s.heap H locs) (hW : LSt z D C A L0 m0 H)  (kk : ∀ (H : Heap) (locs : List Loc), LSt False D C A L0 m0 H → va_S A s.heap H locs → W p l e room_1 s m #[Value.ref b] below meth c H locs cells slots Q (F0 m 1996 ls [])) : W p l e room_1 s m #[Value.ref b] below meth c H locs cells slots Q (F0 m 1817 ls []) := by
  obtain ⟨hx, hb, hml, hown, hw, hK, hN, hA, hX, hbl, hbA, hZ⟩ := hC
  obtain ⟨aU, aR, aR2, h_images, aS, n0, aN, y0, y1, y2, o0, aM, us, ua, rs, ra, rs2, ra2, sa, sl, ns, na, nl, y_isThere, y_taken, y_took, o_of, imf, J, im, ms, mw, ma, ml, hz, e0, hI, hJ, hP, hD⟩ := hW
  subst e0
  refine lv_aload_n hx hb dL_law_1817 rfl (lv_at hl 2 rfl) ?_
  refine lv_aload_n hx hb dL_law_1818 rfl (lv_at hl 3 rfl) ?_
  refine lv_iload_n hx hb dL_law_1819 rfl (lv_at hl 0 rfl) ?_
  refine lv_iconst (v := 1) hx hb dL_law_1820 (by decide) ?_
  refine lv_iadd hx hb dL_law_1821 ?_
  refine va_sld hx hb hX hbl hbA hS i1 dL_law_1822 ?_
  refine lv_aload_n hx hb dL_law_1823 rfl (lv_at hl 3 rfl) ?_
  refine lv_iload_n hx hb dL_law_1824 rfl (lv_at hl 0 rfl) ?_
  refine lv_iconst (v := 2) hx hb dL_law_1825 (by decide) ?_
  refine lv_iadd hx hb dL_law_1826 ?_
  refine va_sld hx hb hX hbl hbA hS i2 dL_law_1827 ?_
  refine lv_aload_n hx hb dL_law_1828 rfl (lv_at hl 3 rfl) ?_
  refine lv_iload_n hx hb dL_law_1829 rfl (lv_at hl 0 rfl) ?_
  refine lv_iconst (v := 3) hx hb dL_law_1830 (by decide) ?_
  refine lv_iadd hx hb dL_law_1831 ?_
  refine va_sld hx hb hX hbl hbA hS i3 dL_law_1832 ?_
  refine lGoI11 (cRunV (As := [.int (xs (i + 1).toNatClampNeg), .int (xs (i + 2).toNatClampNeg), .int (xs (i + 3).toNatClampNeg)]) (rest := []) ⟨hx, hb, hml, hown, hw⟩ hK hN hP hD [0] rfl rfl (met_oneI (k_X11_row l D C _ L0 aU aR aR2 aS n0 aN y0 y1 y2 o0 h_images us ua rs ra rs2 ra2 sa sl ns na nl y_isThere y_taken y_took o_of (xs (i + 1).toNatClampNeg) (xs (i + 2).toNatClampNeg) (xs (i + 3).toNatClampNeg) (q_row hI (xs (i + 1).toNatClampNeg) (xs (i + 2).toNatClampNeg) (xs (i + 3).toNatClampNeg)))) (cwV 3 hw (goodV mw_6_0 mw_6_1 mw_6_2 mw_1_1 mw_6_3) rfl rfl rfl (by decide +kernel) ⟨Nat.le_of_ble_eq_true rfl, Nat.le_of_ble_eq_true rfl⟩) rfl rfl rfl hl.1 rfl (Nat.le_of_ble_eq_true rfl) dL_law_1833 hcs) hP hD hS hA (fun r1 u H locs h hP hD hS => ?_)
  obtain ⟨sa1, sl1⟩ := u
  have hP : va_P D vwCl (List.flatten (lW L0 C aU aR aR2 h_images aS n0 aN y0 y1 y2 o0 aM us ua rs ra rs2 ra2 sa1 sl1 ns na nl y_isThere y_taken y_took o_of imf J ms mw ma ml)) H := hP
  have hD : va_D A (List.flatten (lW L0 C aU aR aR2 h_images aS n0 aN y0 y1 y2 o0 aM us ua rs ra rs2 ra2 sa1 sl1 ns na nl y_isThere y_taken y_took o_of imf J ms mw ma ml)) := hD
  refine lv_aload_n hx hb dL_law_1836 rfl (lv_at hl 1 rfl) ?_
  refine lv_aload_n hx hb dL_law_1837 rfl (lv_at hl 3 rfl) ?_
  refine lv_iload_n hx hb dL_law_1838 rfl (lv_at hl 0 rfl) ?_
  refine lv_iconst (v := 1) hx hb dL_law_1839 (by decide) ?_
  refine lv_iadd hx hb dL_law_1840 ?_
  refine va_sld hx hb hX hbl hbA hS i1 dL_law_1841 ?_
  refine lv_aload_n hx hb dL_law_1842 rfl (lv_at hl 3 rfl) ?_
  refine lv_iload_n hx hb dL_law_1843 rfl (lv_at hl 0 rfl) ?_
  refine lv_iconst (v := 2) hx hb dL_law_1844 (by decide) ?_
  refine lv_iadd hx hb dL_law_1845 ?_
  refine va_sld hx hb hX hbl hbA hS i2 dL_law_1846 ?_
  refine lv_aload_n hx hb dL_law_1847 rfl (lv_at hl 3 rfl) ?_
  refine lv_iload_n hx hb dL_law_1848 rfl (lv_at hl 0 rfl) ?_
  refine lv_iconst (v := 3) hx hb dL_law_1849 (by decide) ?_
  refine lv_iadd hx hb dL_law_1850 ?_
  refine va_sld hx hb hX hbl hbA hS i3 dL_law_1851 ?_
  refine lGoI12 (cRunV (As := [.int (xs (i + 1).toNatClampNeg), .int (xs (i + 2).toNatClampNeg), .int (xs (i + 3).toNatClampNeg)]) (rest := [.int r1]) ⟨hx, hb, hml, hown, hw⟩ hK hN hP hD [5] rfl rfl (met_oneI (k_X12_row l D C _ aM ms mw ma ml (xs (i + 1).toNatClampNeg) (xs (i + 2).toNatClampNeg) (xs (i + 3).toNatClampNeg) h)) (cwV 3 hw (goodV mw_6_197 mw_6_198 mw_6_199 mw_1_13 mw_6_200) rfl rfl rfl (by decide +kernel) ⟨Nat.le_of_ble_eq_true rfl, Nat.le_of_ble_eq_true rfl⟩) rfl rfl rfl hl.1 rfl (Nat.le_of_ble_eq_true rfl) dL_law_1852 hcs) hP hD hS hA (fun r2 u H locs h hP hD hS => ?_)
  obtain ⟨ms2, ma2, ml2⟩ := u
  have hP : va_P D vwCl (List.flatten (lW L0 C aU aR aR2 h_images aS n0 aN y0 y1 y2 o0 aM us ua rs ra rs2 ra2 sa1 sl1 ns na nl y_isThere y_taken y_took o_of imf J ms2 mw ma2 ml2)) H := hP
  have hD : va_D A (List.flatten (lW L0 C aU aR aR2 h_images aS n0 aN y0 y1 y2 o0 aM us ua rs ra rs2 ra2 sa1 sl1 ns na nl y_isThere y_taken y_took o_of imf J ms2 mw ma2 ml2)) := hD
  obtain ⟨er, hI⟩ := h
  refine lv_icmp_eq (tgt := 1996) hx hb dL_law_1855 (by decide) (fun _ => ?_) (fun c9 => absurd er c9)
  exact kk H locs ⟨aU, aR, aR2, h_images, aS, n0, aN, y0, y1, y2, o0, aM, us, ua, rs, ra, rs2, ra2, sa1, sl1, ns, na, nl, y_isThere, y_taken, y_took, o_of, imf, J, im, ms2, mw, ma2, ml2, False.elim, rfl, hI, hJ, hP, hD⟩ hS
set_option maxHeartbeats 400000 in
set_option maxRecDepth 100000 in
theorem lc_57 {p : Program} {l : Launch} {e : Env} {s : State} {m : MethodId} {below : List Frame} {meth : Method} {c : Code} {b L : Nat} {xs : Nat → Int32} {D : va_G} {C : Nat → ClassId} {A : Nat → Prop} {H : Heap} {locs : List Loc} {cells slots : Nat} {Q : State → Prop} {ls : Array Slot} {L0 m0 : Nat} {i : Int32} {z : Prop} (hC : LC p s m c b L xs D C A) (hl : lv_has ls 4 [(3, .int i), (2, .ref m0), (1, .ref L0), (0, .ref b)]) (i1 : vp_in (i + 1) L) (i2 : vp_in (i + 2) L) (i3 : vp_in (i + 3) L) (i4 : vp_in (i + 4) L) (i5 : vp_in (i + 5) L) (hcs : cells ≤ 600000 ∧ slots ≤ room_1.slots) (hS : va_S A s.heap H locs) (hW : LSt z D C A L0 m0 H)  (kk : ∀ (H : Heap) (locs : List Loc), LSt False D C A L0 m0 H → va_S A s.heap H locs → W p l e room_1 s m #[Value.ref b] below meth c H locs cells slots Q (F0 m 1996 ls [])) : W p l e room_1 s m #[Value.ref b] below meth c H locs cells slots Q (F0 m 1860 ls []) := by
  obtain ⟨hx, hb, hml, hown, hw, hK, hN, hA, hX, hbl, hbA, hZ⟩ := hC
  obtain ⟨aU, aR, aR2, h_images, aS, n0, aN, y0, y1, y2, o0, aM, us, ua, rs, ra, rs2, ra2, sa, sl, ns, na, nl, y_isThere, y_taken, y_took, o_of, imf, J, im, ms, mw, ma, ml, hz, e0, hI, hJ, hP, hD⟩ := hW
  subst e0
  refine lv_aload_n hx hb dL_law_1860 rfl (lv_at hl 2 rfl) ?_
  refine lv_aload_n hx hb dL_law_1861 rfl (lv_at hl 3 rfl) ?_
  refine lv_iload_n hx hb dL_law_1862 rfl (lv_at hl 0 rfl) ?_
  refine lv_iconst (v := 1) hx hb dL_law_1863 (by decide) ?_
  refine lv_iadd hx hb dL_law_1864 ?_
  refine va_sld hx hb hX hbl hbA hS i1 dL_law_1865 ?_
  refine lv_aload_n hx hb dL_law_1866 rfl (lv_at hl 3 rfl) ?_
  refine lv_iload_n hx hb dL_law_1867 rfl (lv_at hl 0 rfl) ?_
  refine lv_iconst (v := 2) hx hb dL_law_1868 (by decide) ?_
  refine lv_iadd hx hb dL_law_1869 ?_
  refine va_sld hx hb hX hbl hbA hS i2 dL_law_1870 ?_
  refine lv_aload_n hx hb dL_law_1871 rfl (lv_at hl 3 rfl) ?_
  refine lv_iload_n hx hb dL_law_1872 rfl (lv_at hl 0 rfl) ?_
  refine lv_iconst (v := 3) hx hb dL_law_1873 (by decide) ?_
  refine lv_iadd hx hb dL_law_1874 ?_
  refine va_sld hx hb hX hbl hbA hS i3 dL_law_1875 ?_
  refine lv_i2l hx hb dL_law_1876 rfl ?_
  refine lv_bipush (v := 32) hx hb dL_law_1877 (by decide) ?_
  refine lv_lshl hx hb dL_law_1879 rfl ?_
  refine lv_aload_n hx hb dL_law_1880 rfl (lv_at hl 3 rfl) ?_
  refine lv_iload_n hx hb dL_law_1881 rfl (lv_at hl 0 rfl) ?_
  refine lv_iconst (v := 4) hx hb dL_law_1882 (by decide) ?_
  refine lv_iadd hx hb dL_law_1883 ?_
  refine va_sld hx hb hX hbl hbA hS i4 dL_law_1884 ?_
  refine lv_i2l hx hb dL_law_1885 rfl ?_
  refine lv_ldc2 (v := 4294967295) hx hb hown (hw _ mw_9_103) dL_law_1886 ?_
  refine lv_land hx hb dL_law_1889 ?_
  refine lv_lor hx hb dL_law_1890 ?_
  refine lGoI11 (cRunV (As := [.int (xs (i + 1).toNatClampNeg), .int (xs (i + 2).toNatClampNeg), .long (((xs (i + 3).toNatClampNeg).toInt64 <<< ((32 : Int32).toInt64 &&& 63)) ||| ((xs (i + 4).toNatClampNeg).toInt64 &&& 4294967295))]) (rest := []) ⟨hx, hb, hml, hown, hw⟩ hK hN hP hD [0] rfl rfl (met_oneI (k_X11_write l D C _ L0 aU aR aR2 aS n0 aN y0 y1 y2 o0 h_images us ua rs ra rs2 ra2 sa sl ns na nl y_isThere y_taken y_took o_of (xs (i + 1).toNatClampNeg) (xs (i + 2).toNatClampNeg) (((xs (i + 3).toNatClampNeg).toInt64 <<< ((32 : Int32).toInt64 &&& 63)) ||| ((xs (i + 4).toNatClampNeg).toInt64 &&& 4294967295)) (q_write hI (xs (i + 1).toNatClampNeg) (xs (i + 2).toNatClampNeg) (((xs (i + 3).toNatClampNeg).toInt64 <<< ((32 : Int32).toInt64 &&& 63)) ||| ((xs (i + 4).toNatClampNeg).toInt64 &&& 4294967295))))) (cwV 3 hw (goodV mw_6_8 mw_6_9 mw_6_10 mw_1_1 mw_6_11) rfl rfl rfl (by decide +kernel) ⟨Nat.le_of_ble_eq_true rfl, Nat.le_of_ble_eq_true rfl⟩) rfl rfl rfl hl.1 rfl (Nat.le_of_ble_eq_true rfl) dL_law_1891 hcs) hP hD hS hA (fun r1 sl1 H locs h hP hD hS => ?_)
  have hP : va_P D vwCl (List.flatten (lW L0 C aU aR aR2 h_images aS n0 aN y0 y1 y2 o0 aM us ua rs ra rs2 ra2 sa sl1 ns na nl y_isThere y_taken y_took o_of imf J ms mw ma ml)) H := hP
  have hD : va_D A (List.flatten (lW L0 C aU aR aR2 h_images aS n0 aN y0 y1 y2 o0 aM us ua rs ra rs2 ra2 sa sl1 ns na nl y_isThere y_taken y_took o_of imf J ms mw ma ml)) := hD
  refine lv_aload_n hx hb dL_law_1894 rfl (lv_at hl 1 rfl) ?_
  refine lv_aload_n hx hb dL_law_1895 rfl (lv_at hl 3 rfl) ?_
  refine lv_iload_n hx hb dL_law_1896 rfl (lv_at hl 0 rfl) ?_
  refine lv_iconst (v := 1) hx hb dL_law_1897 (by decide) ?_
  refine lv_iadd hx hb dL_law_1898 ?_
  refine va_sld hx hb hX hbl hbA hS i1 dL_law_1899 ?_
  refine lv_aload_n hx hb dL_law_1900 rfl (lv_at hl 3 rfl) ?_
  refine lv_iload_n hx hb dL_law_1901 rfl (lv_at hl 0 rfl) ?_
  refine lv_iconst (v := 2) hx hb dL_law_1902 (by decide) ?_
  refine lv_iadd hx hb dL_law_1903 ?_
  refine va_sld hx hb hX hbl hbA hS i2 dL_law_1904 ?_
  refine lv_aload_n hx hb dL_law_1905 rfl (lv_at hl 3 rfl) ?_
  refine lv_iload_n hx hb dL_law_1906 rfl (lv_at hl 0 rfl) ?_
  refine lv_iconst (v := 3) hx hb dL_law_1907 (by decide) ?_
  refine lv_iadd hx hb dL_law_1908 ?_
  refine va_sld hx hb hX hbl hbA hS i3 dL_law_1909 ?_
  refine lv_i2l hx hb dL_law_1910 rfl ?_
  refine lv_bipush (v := 32) hx hb dL_law_1911 (by decide) ?_
  refine lv_lshl hx hb dL_law_1913 rfl ?_
  refine lv_aload_n hx hb dL_law_1914 rfl (lv_at hl 3 rfl) ?_
  refine lv_iload_n hx hb dL_law_1915 rfl (lv_at hl 0 rfl) ?_
  refine lv_iconst (v := 4) hx hb dL_law_1916 (by decide) ?_
  refine lv_iadd hx hb dL_law_1917 ?_
  refine va_sld hx hb hX hbl hbA hS i4 dL_law_1918 ?_
  refine lv_i2l hx hb dL_law_1919 rfl ?_
  refine lv_ldc2 (v := 4294967295) hx hb hown (hw _ mw_9_103) dL_law_1920 ?_
  refine lv_land hx hb dL_law_1923 ?_
  refine lv_lor hx hb dL_law_1924 ?_
  refine lGoI12 (cRunV (As := [.int (xs (i + 1).toNatClampNeg), .int (xs (i + 2).toNatClampNeg), .long (((xs (i + 3).toNatClampNeg).toInt64 <<< ((32 : Int32).toInt64 &&& 63)) ||| ((xs (i + 4).toNatClampNeg).toInt64 &&& 4294967295))]) (rest := [.int r1]) ⟨hx, hb, hml, hown, hw⟩ hK hN hP hD [5] rfl rfl (met_oneI (k_X12_write l D C _ aM ms mw ma ml (xs (i + 1).toNatClampNeg) (xs (i + 2).toNatClampNeg) (((xs (i + 3).toNatClampNeg).toInt64 <<< ((32 : Int32).toInt64 &&& 63)) ||| ((xs (i + 4).toNatClampNeg).toInt64 &&& 4294967295)) h)) (cwV 3 hw (goodV mw_6_208 mw_6_209 mw_6_210 mw_1_13 mw_6_211) rfl rfl rfl (by decide +kernel) ⟨Nat.le_of_ble_eq_true rfl, Nat.le_of_ble_eq_true rfl⟩) rfl rfl rfl hl.1 rfl (Nat.le_of_ble_eq_true rfl) dL_law_1925 hcs) hP hD hS hA (fun r2 u H locs h hP hD hS => ?_)
  obtain ⟨ms2, ml2⟩ := u
  have hP : va_P D vwCl (List.flatten (lW L0 C aU aR aR2 h_images aS n0 aN y0 y1 y2 o0 aM us ua rs ra rs2 ra2 sa sl1 ns na nl y_isThere y_taken y_took o_of imf J ms2 mw ma ml2)) H := hP
  have hD : va_D A (List.flatten (lW L0 C aU aR aR2 h_images aS n0 aN y0 y1 y2 o0 aM us ua rs ra rs2 ra2 sa sl1 ns na nl y_isThere y_taken y_took o_of imf J ms2 mw ma ml2)) := hD
  obtain ⟨er, hI⟩ := h
  refine lv_icmp_eq (tgt := 1996) hx hb dL_law_1928 (by decide) (fun _ => ?_) (fun c9 => absurd er c9)
  exact kk H locs ⟨aU, aR, aR2, h_images, aS, n0, aN, y0, y1, y2, o0, aM, us, ua, rs, ra, rs2, ra2, sa, sl1, ns, na, nl, y_isThere, y_taken, y_took, o_of, imf, J, im, ms2, mw, ma, ml2, False.elim, rfl, hI, hJ, hP, hD⟩ hS
set_option maxHeartbeats 400000 in
set_option maxRecDepth 100000 in
theorem lc_58 {p : Program} {l : Launch} {e : Env} {s : State} {m : MethodId} {below : List Frame} {meth : Method} {c : Code} {b L : Nat} {xs : Nat → Int32} {D : va_G} {C : Nat → ClassId} {A : Nat → Prop} {H : Heap} {locs : List Loc} {cells slots : Nat} {Q : State → Prop} {ls : Array Slot} {L0 m0 : Nat} {i : Int32} {z : Prop} (hC : LC p s m c b L xs D C A) (hl : lv_has ls 4 [(3, .int i), (2, .ref m0), (1, .ref L0), (0, .ref b)]) (i1 : vp_in (i + 1) L) (i2 : vp_in (i + 2) L) (i3 : vp_in (i + 3) L) (i4 : vp_in (i + 4) L) (i5 : vp_in (i + 5) L) (hcs : cells ≤ 600000 ∧ slots ≤ room_1.slots) (hS : va_S A s.heap H locs) (hW : LSt z D C A L0 m0 H)  (kk : ∀ (H : Heap) (locs : List Loc), LSt False D C A L0 m0 H → va_S A s.heap H locs → W p l e room_1 s m #[Value.ref b] below meth c H locs cells slots Q (F0 m 1996 ls [])) : W p l e room_1 s m #[Value.ref b] below meth c H locs cells slots Q (F0 m 1933 ls []) := by
  obtain ⟨hx, hb, hml, hown, hw, hK, hN, hA, hX, hbl, hbA, hZ⟩ := hC
  obtain ⟨aU, aR, aR2, h_images, aS, n0, aN, y0, y1, y2, o0, aM, us, ua, rs, ra, rs2, ra2, sa, sl, ns, na, nl, y_isThere, y_taken, y_took, o_of, imf, J, im, ms, mw, ma, ml, hz, e0, hI, hJ, hP, hD⟩ := hW
  subst e0
  refine lv_aload_n hx hb dL_law_1933 rfl (lv_at hl 2 rfl) ?_
  refine lv_aload_n hx hb dL_law_1934 rfl (lv_at hl 3 rfl) ?_
  refine lv_iload_n hx hb dL_law_1935 rfl (lv_at hl 0 rfl) ?_
  refine lv_iconst (v := 1) hx hb dL_law_1936 (by decide) ?_
  refine lv_iadd hx hb dL_law_1937 ?_
  refine va_sld hx hb hX hbl hbA hS i1 dL_law_1938 ?_
  refine lv_aload_n hx hb dL_law_1939 rfl (lv_at hl 3 rfl) ?_
  refine lv_iload_n hx hb dL_law_1940 rfl (lv_at hl 0 rfl) ?_
  refine lv_iconst (v := 2) hx hb dL_law_1941 (by decide) ?_
  refine lv_iadd hx hb dL_law_1942 ?_
  refine va_sld hx hb hX hbl hbA hS i2 dL_law_1943 ?_
  refine lv_aload_n hx hb dL_law_1944 rfl (lv_at hl 3 rfl) ?_
  refine lv_iload_n hx hb dL_law_1945 rfl (lv_at hl 0 rfl) ?_
  refine lv_iconst (v := 3) hx hb dL_law_1946 (by decide) ?_
  refine lv_iadd hx hb dL_law_1947 ?_
  refine va_sld hx hb hX hbl hbA hS i3 dL_law_1948 ?_
  refine lv_aload_n hx hb dL_law_1949 rfl (lv_at hl 3 rfl) ?_
  refine lv_iload_n hx hb dL_law_1950 rfl (lv_at hl 0 rfl) ?_
  refine lv_iconst (v := 4) hx hb dL_law_1951 (by decide) ?_
  refine lv_iadd hx hb dL_law_1952 ?_
  refine va_sld hx hb hX hbl hbA hS i4 dL_law_1953 ?_
  refine lv_aload_n hx hb dL_law_1954 rfl (lv_at hl 3 rfl) ?_
  refine lv_iload_n hx hb dL_law_1955 rfl (lv_at hl 0 rfl) ?_
  refine lv_iconst (v := 5) hx hb dL_law_1956 (by decide) ?_
  refine lv_iadd hx hb dL_law_1957 ?_
  refine va_sld hx hb hX hbl hbA hS i5 dL_law_1958 ?_
  refine lGoI11 (cRunV (As := [.int (xs (i + 1).toNatClampNeg), .int (xs (i + 2).toNatClampNeg), .int (xs (i + 3).toNatClampNeg), .int (xs (i + 4).toNatClampNeg), .int (xs (i + 5).toNatClampNeg)]) (rest := []) ⟨hx, hb, hml, hown, hw⟩ hK hN hP hD [0] rfl rfl (met_oneI (k_X11_paste l D C _ L0 aU aR aR2 aS n0 aN y0 y1 y2 o0 h_images us ua rs ra rs2 ra2 sa sl ns na nl y_isThere y_taken y_took o_of (xs (i + 1).toNatClampNeg) (xs (i + 2).toNatClampNeg) (xs (i + 3).toNatClampNeg) (xs (i + 4).toNatClampNeg) (xs (i + 5).toNatClampNeg) (q_paste hI (xs (i + 1).toNatClampNeg) (xs (i + 2).toNatClampNeg) (xs (i + 3).toNatClampNeg) (xs (i + 4).toNatClampNeg) (xs (i + 5).toNatClampNeg)))) (cwV 5 hw (goodV mw_6_19 mw_6_20 mw_6_21 mw_1_1 mw_6_22) rfl rfl rfl (by decide +kernel) ⟨Nat.le_of_ble_eq_true rfl, Nat.le_of_ble_eq_true rfl⟩) rfl rfl rfl hl.1 rfl (Nat.le_of_ble_eq_true rfl) dL_law_1959 hcs) hP hD hS hA (fun r1 sl1 H locs h hP hD hS => ?_)
  have hP : va_P D vwCl (List.flatten (lW L0 C aU aR aR2 h_images aS n0 aN y0 y1 y2 o0 aM us ua rs ra rs2 ra2 sa sl1 ns na nl y_isThere y_taken y_took o_of imf J ms mw ma ml)) H := hP
  have hD : va_D A (List.flatten (lW L0 C aU aR aR2 h_images aS n0 aN y0 y1 y2 o0 aM us ua rs ra rs2 ra2 sa sl1 ns na nl y_isThere y_taken y_took o_of imf J ms mw ma ml)) := hD
  refine lv_aload_n hx hb dL_law_1962 rfl (lv_at hl 1 rfl) ?_
  refine lv_aload_n hx hb dL_law_1963 rfl (lv_at hl 3 rfl) ?_
  refine lv_iload_n hx hb dL_law_1964 rfl (lv_at hl 0 rfl) ?_
  refine lv_iconst (v := 1) hx hb dL_law_1965 (by decide) ?_
  refine lv_iadd hx hb dL_law_1966 ?_
  refine va_sld hx hb hX hbl hbA hS i1 dL_law_1967 ?_
  refine lv_aload_n hx hb dL_law_1968 rfl (lv_at hl 3 rfl) ?_
  refine lv_iload_n hx hb dL_law_1969 rfl (lv_at hl 0 rfl) ?_
  refine lv_iconst (v := 2) hx hb dL_law_1970 (by decide) ?_
  refine lv_iadd hx hb dL_law_1971 ?_
  refine va_sld hx hb hX hbl hbA hS i2 dL_law_1972 ?_
  refine lv_aload_n hx hb dL_law_1973 rfl (lv_at hl 3 rfl) ?_
  refine lv_iload_n hx hb dL_law_1974 rfl (lv_at hl 0 rfl) ?_
  refine lv_iconst (v := 3) hx hb dL_law_1975 (by decide) ?_
  refine lv_iadd hx hb dL_law_1976 ?_
  refine va_sld hx hb hX hbl hbA hS i3 dL_law_1977 ?_
  refine lv_aload_n hx hb dL_law_1978 rfl (lv_at hl 3 rfl) ?_
  refine lv_iload_n hx hb dL_law_1979 rfl (lv_at hl 0 rfl) ?_
  refine lv_iconst (v := 4) hx hb dL_law_1980 (by decide) ?_
  refine lv_iadd hx hb dL_law_1981 ?_
  refine va_sld hx hb hX hbl hbA hS i4 dL_law_1982 ?_
  refine lv_aload_n hx hb dL_law_1983 rfl (lv_at hl 3 rfl) ?_
  refine lv_iload_n hx hb dL_law_1984 rfl (lv_at hl 0 rfl) ?_
  refine lv_iconst (v := 5) hx hb dL_law_1985 (by decide) ?_
  refine lv_iadd hx hb dL_law_1986 ?_
  refine va_sld hx hb hX hbl hbA hS i5 dL_law_1987 ?_
  refine lGoI12 (cRunV (As := [.int (xs (i + 1).toNatClampNeg), .int (xs (i + 2).toNatClampNeg), .int (xs (i + 3).toNatClampNeg), .int (xs (i + 4).toNatClampNeg), .int (xs (i + 5).toNatClampNeg)]) (rest := [.int r1]) ⟨hx, hb, hml, hown, hw⟩ hK hN hP hD [5] rfl rfl (met_oneI (k_X12_paste l D C _ aM ms mw ma ml (xs (i + 1).toNatClampNeg) (xs (i + 2).toNatClampNeg) (xs (i + 3).toNatClampNeg) (xs (i + 4).toNatClampNeg) (xs (i + 5).toNatClampNeg) h)) (cwV 5 hw (goodV mw_6_215 mw_6_216 mw_6_217 mw_1_13 mw_6_218) rfl rfl rfl (by decide +kernel) ⟨Nat.le_of_ble_eq_true rfl, Nat.le_of_ble_eq_true rfl⟩) rfl rfl rfl hl.1 rfl (Nat.le_of_ble_eq_true rfl) dL_law_1988 hcs) hP hD hS hA (fun r2 u H locs h hP hD hS => ?_)
  obtain ⟨ms2, ml2⟩ := u
  have hP : va_P D vwCl (List.flatten (lW L0 C aU aR aR2 h_images aS n0 aN y0 y1 y2 o0 aM us ua rs ra rs2 ra2 sa sl1 ns na nl y_isThere y_taken y_took o_of imf J ms2 mw ma ml2)) H := hP
  have hD : va_D A (List.flatten (lW L0 C aU aR aR2 h_images aS n0 aN y0 y1 y2 o0 aM us ua rs ra rs2 ra2 sa sl1 ns na nl y_isThere y_taken y_took o_of imf J ms2 mw ma ml2)) := hD
  obtain ⟨er, hI⟩ := h
  refine lv_icmp_eq (tgt := 1996) hx hb dL_law_1991 (by decide) (fun _ => ?_) (fun c9 => absurd er c9)
  exact kk H locs ⟨aU, aR, aR2, h_images, aS, n0, aN, y0, y1, y2, o0, aM, us, ua, rs, ra, rs2, ra2, sa, sl1, ns, na, nl, y_isThere, y_taken, y_took, o_of, imf, J, im, ms2, mw, ma, ml2, False.elim, rfl, hI, hJ, hP, hD⟩ hS
