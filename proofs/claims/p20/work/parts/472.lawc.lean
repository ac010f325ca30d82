set_option maxHeartbeats 400000 in
set_option maxRecDepth 100000 in
theorem lc_28 {p : Program} {l : Launch} {e : Env} {s : State} {m : MethodId} {below : List Frame} {meth : Method} {c : Code} {b L : Nat} {xs : Nat → Int32} {D : va_G} {C : Nat → ClassId} {A : Nat → Prop} {H : Heap} {locs : List Loc} {cells slots : Nat} {Q : State → Prop} {ls : Array Slot} {L0 m0 : Nat} {i : Int32} {z : Prop} (hC : LC p s m c b L xs D C A) (hl : lv_has ls 4 [(3, .int i), (2, .ref m0), (1, .ref L0), (0, .ref b)]) (i1 : vp_in (i + 1) L) (i2 : vp_in (i + 2) L) (i3 : vp_in (i + 3) L) (i4 : vp_in (i + 4) L) (i5 : vp_in (i + 5) L) (hcs : cells ≤ 600000 ∧ slots ≤ room_1.slots) (hS : va_S A s.heap H locs) (hW : LSt z D C A L0 m0 H)  (kk : ∀ (H : Heap) (locs : List Loc), LSt False D C A L0 m0 H → va_S A s.heap H locs → W p l e room_1 s m #[Value.ref b] below meth c H locs cells slots Q (F0 m 1977 ls [])) : W p l e room_1 s m #[Value.ref b] below meth c H locs cells slots Q (F0 m 1008 ls []) := by
  obtain ⟨hx, hb, hml, hown, hw, hK, hN, hA, hX, hbl, hbA, hZ⟩ := hC
  obtain ⟨aU, aR, aR2, h_images, aS, n0, aN, y0, y1, y2, o0, aM, us, ua, rs, ra, rs2, ra2, sa, sl, ns, na, nl, y_isThere, y_taken, y_took, o_of, imf, J, im, ms, mw, ma, ml, hz, e0, hI, hJ, hP, hD⟩ := hW
  subst e0
  refine lv_aload_n hx hb dL_law_1008 rfl (lv_at hl 2 rfl) ?_
  refine lv_aload_n hx hb dL_law_1009 rfl (lv_at hl 3 rfl) ?_
  refine lv_iload_n hx hb dL_law_1010 rfl (lv_at hl 0 rfl) ?_
  refine lv_iconst (v := 1) hx hb dL_law_1011 (by decide) ?_
  refine lv_iadd hx hb dL_law_1012 ?_
  refine va_sld hx hb hX hbl hbA hS i1 dL_law_1013 ?_
  refine lv_aload_n hx hb dL_law_1014 rfl (lv_at hl 3 rfl) ?_
  refine lv_iload_n hx hb dL_law_1015 rfl (lv_at hl 0 rfl) ?_
  refine lv_iconst (v := 2) hx hb dL_law_1016 (by decide) ?_
  refine lv_iadd hx hb dL_law_1017 ?_
  refine va_sld hx hb hX hbl hbA hS i2 dL_law_1018 ?_
  refine lGoI11 (cRunV (As := [.int (xs (i + 1).toNatClampNeg), .int (xs (i + 2).toNatClampNeg)]) (rest := []) ⟨hx, hb, hml, hown, hw⟩ hK hN hP hD [0] rfl rfl (met_oneI (k_X11_worse l D C _ L0 aU aR aR2 aS n0 aN y0 y1 y2 o0 h_images us ua rs ra rs2 ra2 sa sl ns na nl y_isThere y_taken y_took o_of (xs (i + 1).toNatClampNeg) (xs (i + 2).toNatClampNeg) (q_worse hI rs2 o_of (xs (i + 1).toNatClampNeg) (xs (i + 2).toNatClampNeg)))) (cwV 2 hw (goodV mw_4_231 mw_4_232 mw_4_233 mw_1_1 mw_4_234) rfl rfl rfl (by decide +kernel) ⟨Nat.le_of_ble_eq_true rfl, Nat.le_of_ble_eq_true rfl⟩) rfl rfl rfl hl.1 rfl (Nat.le_of_ble_eq_true rfl) dL_law_1019 hcs) hP hD hS hA (fun r1 u H locs h hP hD hS => ?_)
  obtain ⟨aN1, rs21, ra21, ns1, na1, nl1, o_of1⟩ := u
  have hP : va_P D vwCl (List.flatten (lW L0 C aU aR aR2 h_images aS n0 aN1 y0 y1 y2 o0 aM us ua rs ra rs21 ra21 sa sl ns1 na1 nl1 y_isThere y_taken y_took o_of1 imf J ms mw ma ml)) H := hP
  have hD : va_D A (List.flatten (lW L0 C aU aR aR2 h_images aS n0 aN1 y0 y1 y2 o0 aM us ua rs ra rs21 ra21 sa sl ns1 na1 nl1 y_isThere y_taken y_took o_of1 imf J ms mw ma ml)) := hD
  refine lv_pop hx hb dL_law_1022 rfl ?_
  refine lv_aload_n hx hb dL_law_1023 rfl (lv_at hl 1 rfl) ?_
  refine lv_aload_n hx hb dL_law_1024 rfl (lv_at hl 3 rfl) ?_
  refine lv_iload_n hx hb dL_law_1025 rfl (lv_at hl 0 rfl) ?_
  refine lv_iconst (v := 1) hx hb dL_law_1026 (by decide) ?_
  refine lv_iadd hx hb dL_law_1027 ?_
  refine va_sld hx hb hX hbl hbA hS i1 dL_law_1028 ?_
  refine lv_aload_n hx hb dL_law_1029 rfl (lv_at hl 3 rfl) ?_
  refine lv_iload_n hx hb dL_law_1030 rfl (lv_at hl 0 rfl) ?_
  refine lv_iconst (v := 2) hx hb dL_law_1031 (by decide) ?_
  refine lv_iadd hx hb dL_law_1032 ?_
  refine va_sld hx hb hX hbl hbA hS i2 dL_law_1033 ?_
  refine lGoI12 (cRunV (As := [.int (xs (i + 1).toNatClampNeg), .int (xs (i + 2).toNatClampNeg)]) (rest := []) ⟨hx, hb, hml, hown, hw⟩ hK hN hP hD [5] rfl rfl (met_oneI (k_X12_worse l D C _ aM ms mw ma ml (xs (i + 1).toNatClampNeg) (xs (i + 2).toNatClampNeg) h)) (cwV 2 hw (goodV mw_8_143 mw_8_144 mw_8_145 mw_1_13 mw_8_146) rfl rfl rfl (by decide +kernel) ⟨Nat.le_of_ble_eq_true rfl, Nat.le_of_ble_eq_true rfl⟩) rfl rfl rfl hl.1 rfl (Nat.le_of_ble_eq_true rfl) dL_law_1034 hcs) hP hD hS hA (fun r2 u H locs h hP hD hS => ?_)
  obtain ⟨ms2, ma2, ml2⟩ := u
  have hP : va_P D vwCl (List.flatten (lW L0 C aU aR aR2 h_images aS n0 aN1 y0 y1 y2 o0 aM us ua rs ra rs21 ra21 sa sl ns1 na1 nl1 y_isThere y_taken y_took o_of1 imf J ms2 mw ma2 ml2)) H := hP
  have hD : va_D A (List.flatten (lW L0 C aU aR aR2 h_images aS n0 aN1 y0 y1 y2 o0 aM us ua rs ra rs21 ra21 sa sl ns1 na1 nl1 y_isThere y_taken y_took o_of1 imf J ms2 mw ma2 ml2)) := hD
  refine lv_pop hx hb dL_law_1037 rfl ?_
  refine lv_goto (tgt := 1977) hx hb dL_law_1038 (by decide) ?_
  obtain ⟨-, hI⟩ := h
  exact kk H locs ⟨aU, aR, aR2, h_images, aS, n0, aN1, y0, y1, y2, o0, aM, us, ua, rs, ra, rs21, ra21, sa, sl, ns1, na1, nl1, y_isThere, y_taken, y_took, o_of1, imf, J, im, ms2, mw, ma2, ml2, False.elim, rfl, hI, hJ, hP, hD⟩ hS
set_option maxHeartbeats 400000 in
set_option maxRecDepth 100000 in
theorem lc_29 {p : Program} {l : Launch} {e : Env} {s : State} {m : MethodId} {below : List Frame} {meth : Method} {c : Code} {b L : Nat} {xs : Nat → Int32} {D : va_G} {C : Nat → ClassId} {A : Nat → Prop} {H : Heap} {locs : List Loc} {cells slots : Nat} {Q : State → Prop} {ls : Array Slot} {L0 m0 : Nat} {i : Int32} {z : Prop} (hC : LC p s m c b L xs D C A) (hl : lv_has ls 4 [(3, .int i), (2, .ref m0), (1, .ref L0), (0, .ref b)]) (i1 : vp_in (i + 1) L) (i2 : vp_in (i + 2) L) (i3 : vp_in (i + 3) L) (i4 : vp_in (i + 4) L) (i5 : vp_in (i + 5) L) (hcs : cells ≤ 600000 ∧ slots ≤ room_1.slots) (hS : va_S A s.heap H locs) (hW : LSt z D C A L0 m0 H)  (kk : ∀ (H : Heap) (locs : List Loc), LSt False D C A L0 m0 H → va_S A s.heap H locs → W p l e room_1 s m #[Value.ref b] below meth c H locs cells slots Q (F0 m 1977 ls [])) : W p l e room_1 s m #[Value.ref b] below meth c H locs cells slots Q (F0 m 1041 ls []) := by
  obtain ⟨hx, hb, hml, hown, hw, hK, hN, hA, hX, hbl, hbA, hZ⟩ := hC
  obtain ⟨aU, aR, aR2, h_images, aS, n0, aN, y0, y1, y2, o0, aM, us, ua, rs, ra, rs2, ra2, sa, sl, ns, na, nl, y_isThere, y_taken, y_took, o_of, imf, J, im, ms, mw, ma, ml, hz, e0, hI, hJ, hP, hD⟩ := hW
  subst e0
  refine lv_aload_n hx hb dL_law_1041 rfl (lv_at hl 2 rfl) ?_
  refine lv_aload_n hx hb dL_law_1042 rfl (lv_at hl 3 rfl) ?_
  refine lv_iload_n hx hb dL_law_1043 rfl (lv_at hl 0 rfl) ?_
  refine lv_iconst (v := 1) hx hb dL_law_1044 (by decide) ?_
  refine lv_iadd hx hb dL_law_1045 ?_
  refine va_sld hx hb hX hbl hbA hS i1 dL_law_1046 ?_
  refine lv_aload_n hx hb dL_law_1047 rfl (lv_at hl 3 rfl) ?_
  refine lv_iload_n hx hb dL_law_1048 rfl (lv_at hl 0 rfl) ?_
  refine lv_iconst (v := 2) hx hb dL_law_1049 (by decide) ?_
  refine lv_iadd hx hb dL_law_1050 ?_
  refine va_sld hx hb hX hbl hbA hS i2 dL_law_1051 ?_
  refine lGoI11 (cRunV (As := [.int (xs (i + 1).toNatClampNeg), .int (xs (i + 2).toNatClampNeg)]) (rest := []) ⟨hx, hb, hml, hown, hw⟩ hK hN hP hD [0] rfl rfl (met_oneI (k_X11_next l D C _ L0 aU aR aR2 aS n0 aN y0 y1 y2 o0 h_images us ua rs ra rs2 ra2 sa sl ns na nl y_isThere y_taken y_took o_of (xs (i + 1).toNatClampNeg) (xs (i + 2).toNatClampNeg) (q_next hI rs2 o_of (xs (i + 1).toNatClampNeg) (xs (i + 2).toNatClampNeg)))) (cwV 2 hw (goodV mw_4_235 mw_4_236 mw_4_237 mw_1_1 mw_4_238) rfl rfl rfl (by decide +kernel) ⟨Nat.le_of_ble_eq_true rfl, Nat.le_of_ble_eq_true rfl⟩) rfl rfl rfl hl.1 rfl (Nat.le_of_ble_eq_true rfl) dL_law_1052 hcs) hP hD hS hA (fun r1 u H locs h hP hD hS => ?_)
  obtain ⟨aN1, rs21, ra21, ns1, na1, nl1, o_of1⟩ := u
  have hP : va_P D vwCl (List.flatten (lW L0 C aU aR aR2 h_images aS n0 aN1 y0 y1 y2 o0 aM us ua rs ra rs21 ra21 sa sl ns1 na1 nl1 y_isThere y_taken y_took o_of1 imf J ms mw ma ml)) H := hP
  have hD : va_D A (List.flatten (lW L0 C aU aR aR2 h_images aS n0 aN1 y0 y1 y2 o0 aM us ua rs ra rs21 ra21 sa sl ns1 na1 nl1 y_isThere y_taken y_took o_of1 imf J ms mw ma ml)) := hD
  refine lv_pop hx hb dL_law_1055 rfl ?_
  refine lv_aload_n hx hb dL_law_1056 rfl (lv_at hl 1 rfl) ?_
  refine lv_aload_n hx hb dL_law_1057 rfl (lv_at hl 3 rfl) ?_
  refine lv_iload_n hx hb dL_law_1058 rfl (lv_at hl 0 rfl) ?_
  refine lv_iconst (v := 1) hx hb dL_law_1059 (by decide) ?_
  refine lv_iadd hx hb dL_law_1060 ?_
  refine va_sld hx hb hX hbl hbA hS i1 dL_law_1061 ?_
  refine lv_aload_n hx hb dL_law_1062 rfl (lv_at hl 3 rfl) ?_
  refine lv_iload_n hx hb dL_law_1063 rfl (lv_at hl 0 rfl) ?_
  refine lv_iconst (v := 2) hx hb dL_law_1064 (by decide) ?_
  refine lv_iadd hx hb dL_law_1065 ?_
  refine va_sld hx hb hX hbl hbA hS i2 dL_law_1066 ?_
  refine lGoI12 (cRunV (As := [.int (xs (i + 1).toNatClampNeg), .int (xs (i + 2).toNatClampNeg)]) (rest := []) ⟨hx, hb, hml, hown, hw⟩ hK hN hP hD [5] rfl rfl (met_oneI (k_X12_next_ l D C _ aM ms mw ma ml (xs (i + 1).toNatClampNeg) (xs (i + 2).toNatClampNeg) h)) (cwV 2 hw (goodV mw_8_147 mw_8_148 mw_8_149 mw_1_13 mw_8_150) rfl rfl rfl (by decide +kernel) ⟨Nat.le_of_ble_eq_true rfl, Nat.le_of_ble_eq_true rfl⟩) rfl rfl rfl hl.1 rfl (Nat.le_of_ble_eq_true rfl) dL_law_1067 hcs) hP hD hS hA (fun r2 u H locs h hP hD hS => ?_)
  obtain ⟨ms2, ma2, ml2⟩ := u
  have hP : va_P D vwCl (List.flatten (lW L0 C aU aR aR2 h_images aS n0 aN1 y0 y1 y2 o0 aM us ua rs ra rs21 ra21 sa sl ns1 na1 nl1 y_isThere y_taken y_took o_of1 imf J ms2 mw ma2 ml2)) H := hP
  have hD : va_D A (List.flatten (lW L0 C aU aR aR2 h_images aS n0 aN1 y0 y1 y2 o0 aM us ua rs ra rs21 ra21 sa sl ns1 na1 nl1 y_isThere y_taken y_took o_of1 imf J ms2 mw ma2 ml2)) := hD
  refine lv_pop hx hb dL_law_1070 rfl ?_
  refine lv_goto (tgt := 1977) hx hb dL_law_1071 (by decide) ?_
  obtain ⟨-, hI⟩ := h
  exact kk H locs ⟨aU, aR, aR2, h_images, aS, n0, aN1, y0, y1, y2, o0, aM, us, ua, rs, ra, rs21, ra21, sa, sl, ns1, na1, nl1, y_isThere, y_taken, y_took, o_of1, imf, J, im, ms2, mw, ma2, ml2, False.elim, rfl, hI, hJ, hP, hD⟩ hS
set_option maxHeartbeats 400000 in
set_option maxRecDepth 100000 in
theorem lc_30 {p : Program} {l : Launch} {e : Env} {s : State} {m : MethodId} {below : List Frame} {meth : Method} {c : Code} {b L : Nat} {xs : Nat → Int32} {D : va_G} {C : Nat → ClassId} {A : Nat → Prop} {H : Heap} {locs : List Loc} {cells slots : Nat} {Q : State → Prop} {ls : Array Slot} {L0 m0 : Nat} {i : Int32} {z : Prop} (hC : LC p s m c b L xs D C A) (hl : lv_has ls 4 [(3, .int i), (2, .ref m0), (1, .ref L0), (0, .ref b)]) (i1 : vp_in (i + 1) L) (i2 : vp_in (i + 2) L) (i3 : vp_in (i + 3) L) (i4 : vp_in (i + 4) L) (i5 : vp_in (i + 5) L) (hcs : cells ≤ 600000 ∧ slots ≤ room_1.slots) (hS : va_S A s.heap H locs) (hW : LSt z D C A L0 m0 H)  (kk : ∀ (H : Heap) (locs : List Loc), LSt False D C A L0 m0 H → va_S A s.heap H locs → W p l e room_1 s m #[Value.ref b] below meth c H locs cells slots Q (F0 m 1977 ls [])) : W p l e room_1 s m #[Value.ref b] below meth c H locs cells slots Q (F0 m 1074 ls []) := by
  obtain ⟨hx, hb, hml, hown, hw, hK, hN, hA, hX, hbl, hbA, hZ⟩ := hC
  obtain ⟨aU, aR, aR2, h_images, aS, n0, aN, y0, y1, y2, o0, aM, us, ua, rs, ra, rs2, ra2, sa, sl, ns, na, nl, y_isThere, y_taken, y_took, o_of, imf, J, im, ms, mw, ma, ml, hz, e0, hI, hJ, hP, hD⟩ := hW
  subst e0
  refine lv_aload_n hx hb dL_law_1074 rfl (lv_at hl 2 rfl) ?_
  refine lv_aload_n hx hb dL_law_1075 rfl (lv_at hl 3 rfl) ?_
  refine lv_iload_n hx hb dL_law_1076 rfl (lv_at hl 0 rfl) ?_
  refine lv_iconst (v := 1) hx hb dL_law_1077 (by decide) ?_
  refine lv_iadd hx hb dL_law_1078 ?_
  refine va_sld hx hb hX hbl hbA hS i1 dL_law_1079 ?_
  refine lv_aload_n hx hb dL_law_1080 rfl (lv_at hl 3 rfl) ?_
  refine lv_iload_n hx hb dL_law_1081 rfl (lv_at hl 0 rfl) ?_
  refine lv_iconst (v := 2) hx hb dL_law_1082 (by decide) ?_
  refine lv_iadd hx hb dL_law_1083 ?_
  refine va_sld hx hb hX hbl hbA hS i2 dL_law_1084 ?_
  refine lGoI11 (cRunV (As := [.int (xs (i + 1).toNatClampNeg), .int (xs (i + 2).toNatClampNeg)]) (rest := []) ⟨hx, hb, hml, hown, hw⟩ hK hN hP hD [0] rfl rfl (met_oneI (k_X11_move l D C _ L0 aU aR aR2 aS n0 aN y0 y1 y2 o0 h_images us ua rs ra rs2 ra2 sa sl ns na nl y_isThere y_taken y_took o_of (xs (i + 1).toNatClampNeg) (xs (i + 2).toNatClampNeg) (q_move hI (xs (i + 1).toNatClampNeg) (xs (i + 2).toNatClampNeg)))) (cwV 2 hw (goodV mw_4_239 mw_5_0 mw_5_1 mw_1_1 mw_5_2) rfl rfl rfl (by decide +kernel) ⟨Nat.le_of_ble_eq_true rfl, Nat.le_of_ble_eq_true rfl⟩) rfl rfl rfl hl.1 rfl (Nat.le_of_ble_eq_true rfl) dL_law_1085 hcs) hP hD hS hA (fun r1 ra1 H locs h hP hD hS => ?_)
  have hP : va_P D vwCl (List.flatten (lW L0 C aU aR aR2 h_images aS n0 aN y0 y1 y2 o0 aM us ua rs ra1 rs2 ra2 sa sl ns na nl y_isThere y_taken y_took o_of imf J ms mw ma ml)) H := hP
  have hD : va_D A (List.flatten (lW L0 C aU aR aR2 h_images aS n0 aN y0 y1 y2 o0 aM us ua rs ra1 rs2 ra2 sa sl ns na nl y_isThere y_taken y_took o_of imf J ms mw ma ml)) := hD
  refine lv_pop hx hb dL_law_1088 rfl ?_
  refine lv_aload_n hx hb dL_law_1089 rfl (lv_at hl 1 rfl) ?_
  refine lv_aload_n hx hb dL_law_1090 rfl (lv_at hl 3 rfl) ?_
  refine lv_iload_n hx hb dL_law_1091 rfl (lv_at hl 0 rfl) ?_
  refine lv_iconst (v := 1) hx hb dL_law_1092 (by decide) ?_
  refine lv_iadd hx hb dL_law_1093 ?_
  refine va_sld hx hb hX hbl hbA hS i1 dL_law_1094 ?_
  refine lv_aload_n hx hb dL_law_1095 rfl (lv_at hl 3 rfl) ?_
  refine lv_iload_n hx hb dL_law_1096 rfl (lv_at hl 0 rfl) ?_
  refine lv_iconst (v := 2) hx hb dL_law_1097 (by decide) ?_
  refine lv_iadd hx hb dL_law_1098 ?_
  refine va_sld hx hb hX hbl hbA hS i2 dL_law_1099 ?_
  refine lGoI12 (cRunV (As := [.int (xs (i + 1).toNatClampNeg), .int (xs (i + 2).toNatClampNeg)]) (rest := []) ⟨hx, hb, hml, hown, hw⟩ hK hN hP hD [5] rfl rfl (met_oneI (k_X12_move l D C _ aM ms mw ma ml (xs (i + 1).toNatClampNeg) (xs (i + 2).toNatClampNeg) h)) (cwV 2 hw (goodV mw_8_151 mw_8_152 mw_8_153 mw_1_13 mw_8_154) rfl rfl rfl (by decide +kernel) ⟨Nat.le_of_ble_eq_true rfl, Nat.le_of_ble_eq_true rfl⟩) rfl rfl rfl hl.1 rfl (Nat.le_of_ble_eq_true rfl) dL_law_1100 hcs) hP hD hS hA (fun r2 u H locs h hP hD hS => ?_)
  obtain ⟨ms2, ma2⟩ := u
  have hP : va_P D vwCl (List.flatten (lW L0 C aU aR aR2 h_images aS n0 aN y0 y1 y2 o0 aM us ua rs ra1 rs2 ra2 sa sl ns na nl y_isThere y_taken y_took o_of imf J ms2 mw ma2 ml)) H := hP
  have hD : va_D A (List.flatten (lW L0 C aU aR aR2 h_images aS n0 aN y0 y1 y2 o0 aM us ua rs ra1 rs2 ra2 sa sl ns na nl y_isThere y_taken y_took o_of imf J ms2 mw ma2 ml)) := hD
  refine lv_pop hx hb dL_law_1103 rfl ?_
  refine lv_goto (tgt := 1977) hx hb dL_law_1104 (by decide) ?_
  obtain ⟨-, hI⟩ := h
  exact kk H locs ⟨aU, aR, aR2, h_images, aS, n0, aN, y0, y1, y2, o0, aM, us, ua, rs, ra1, rs2, ra2, sa, sl, ns, na, nl, y_isThere, y_taken, y_took, o_of, imf, J, im, ms2, mw, ma2, ml, False.elim, rfl, hI, hJ, hP, hD⟩ hS
set_option maxHeartbeats 400000 in
set_option maxRecDepth 100000 in
theorem lc_31 {p : Program} {l : Launch} {e : Env} {s : State} {m : MethodId} {below : List Frame} {meth : Method} {c : Code} {b L : Nat} {xs : Nat → Int32} {D : va_G} {C : Nat → ClassId} {A : Nat → Prop} {H : Heap} {locs : List Loc} {cells slots : Nat} {Q : State → Prop} {ls : Array Slot} {L0 m0 : Nat} {i : Int32} {z : Prop} (hC : LC p s m c b L xs D C A) (hl : lv_has ls 4 [(3, .int i), (2, .ref m0), (1, .ref L0), (0, .ref b)]) (i1 : vp_in (i + 1) L) (i2 : vp_in (i + 2) L) (i3 : vp_in (i + 3) L) (i4 : vp_in (i + 4) L) (i5 : vp_in (i + 5) L) (hcs : cells ≤ 600000 ∧ slots ≤ room_1.slots) (hS : va_S A s.heap H locs) (hW : LSt z D C A L0 m0 H)  (kk : ∀ (H : Heap) (locs : List Loc), LSt False D C A L0 m0 H → va_S A s.heap H locs → W p l e room_1 s m #[Value.ref b] below meth c H locs cells slots Q (F0 m 1977 ls [])) : W p l e room_1 s m #[Value.ref b] below meth c H locs cells slots Q (F0 m 1107 ls []) := by
  obtain ⟨hx, hb, hml, hown, hw, hK, hN, hA, hX, hbl, hbA, hZ⟩ := hC
  obtain ⟨aU, aR, aR2, h_images, aS, n0, aN, y0, y1, y2, o0, aM, us, ua, rs, ra, rs2, ra2, sa, sl, ns, na, nl, y_isThere, y_taken, y_took, o_of, imf, J, im, ms, mw, ma, ml, hz, e0, hI, hJ, hP, hD⟩ := hW
  subst e0
  refine lv_aload_n hx hb dL_law_1107 rfl (lv_at hl 2 rfl) ?_
  refine lv_aload_n hx hb dL_law_1108 rfl (lv_at hl 3 rfl) ?_
  refine lv_iload_n hx hb dL_law_1109 rfl (lv_at hl 0 rfl) ?_
  refine lv_iconst (v := 1) hx hb dL_law_1110 (by decide) ?_
  refine lv_iadd hx hb dL_law_1111 ?_
  refine va_sld hx hb hX hbl hbA hS i1 dL_law_1112 ?_
  refine lv_aload_n hx hb dL_law_1113 rfl (lv_at hl 3 rfl) ?_
  refine lv_iload_n hx hb dL_law_1114 rfl (lv_at hl 0 rfl) ?_
  refine lv_iconst (v := 2) hx hb dL_law_1115 (by decide) ?_
  refine lv_iadd hx hb dL_law_1116 ?_
  refine va_sld hx hb hX hbl hbA hS i2 dL_law_1117 ?_
  refine lGoI11 (cRunV (As := [.int (xs (i + 1).toNatClampNeg), .int (xs (i + 2).toNatClampNeg)]) (rest := []) ⟨hx, hb, hml, hown, hw⟩ hK hN hP hD [0] rfl rfl (met_oneI (k_X11_swap l D C _ L0 aU aR aR2 aS n0 aN y0 y1 y2 o0 h_images us ua rs ra rs2 ra2 sa sl ns na nl y_isThere y_taken y_took o_of (xs (i + 1).toNatClampNeg) (xs (i + 2).toNatClampNeg) (q_swap hI (xs (i + 1).toNatClampNeg) (xs (i + 2).toNatClampNeg)))) (cwV 2 hw (goodV mw_5_4 mw_5_5 mw_5_6 mw_1_1 mw_5_7) rfl rfl rfl (by decide +kernel) ⟨Nat.le_of_ble_eq_true rfl, Nat.le_of_ble_eq_true rfl⟩) rfl rfl rfl hl.1 rfl (Nat.le_of_ble_eq_true rfl) dL_law_1118 hcs) hP hD hS hA (fun r1 u H locs h hP hD hS => ?_)
  obtain ⟨aN1, ra1, ns1, na1, nl1⟩ := u
  have hP : va_P D vwCl (List.flatten (lW L0 C aU aR aR2 h_images aS n0 aN1 y0 y1 y2 o0 aM us ua rs ra1 rs2 ra2 sa sl ns1 na1 nl1 y_isThere y_taken y_took o_of imf J ms mw ma ml)) H := hP
  have hD : va_D A (List.flatten (lW L0 C aU aR aR2 h_images aS n0 aN1 y0 y1 y2 o0 aM us ua rs ra1 rs2 ra2 sa sl ns1 na1 nl1 y_isThere y_taken y_took o_of imf J ms mw ma ml)) := hD
  refine lv_pop hx hb dL_law_1121 rfl ?_
  refine lv_aload_n hx hb dL_law_1122 rfl (lv_at hl 1 rfl) ?_
  refine lv_aload_n hx hb dL_law_1123 rfl (lv_at hl 3 rfl) ?_
  refine lv_iload_n hx hb dL_law_1124 rfl (lv_at hl 0 rfl) ?_
  refine lv_iconst (v := 1) hx hb dL_law_1125 (by decide) ?_
  refine lv_iadd hx hb dL_law_1126 ?_
  refine va_sld hx hb hX hbl hbA hS i1 dL_law_1127 ?_
  refine lv_aload_n hx hb dL_law_1128 rfl (lv_at hl 3 rfl) ?_
  refine lv_iload_n hx hb dL_law_1129 rfl (lv_at hl 0 rfl) ?_
  refine lv_iconst (v := 2) hx hb dL_law_1130 (by decide) ?_
  refine lv_iadd hx hb dL_law_1131 ?_
  refine va_sld hx hb hX hbl hbA hS i2 dL_law_1132 ?_
  refine lGoI12 (cRunV (As := [.int (xs (i + 1).toNatClampNeg), .int (xs (i + 2).toNatClampNeg)]) (rest := []) ⟨hx, hb, hml, hown, hw⟩ hK hN hP hD [5] rfl rfl (met_oneI (k_X12_swap l D C _ aM ms mw ma ml (xs (i + 1).toNatClampNeg) (xs (i + 2).toNatClampNeg) h)) (cwV 2 hw (goodV mw_8_159 mw_8_160 mw_8_161 mw_1_13 mw_8_162) rfl rfl rfl (by decide +kernel) ⟨Nat.le_of_ble_eq_true rfl, Nat.le_of_ble_eq_true rfl⟩) rfl rfl rfl hl.1 rfl (Nat.le_of_ble_eq_true rfl) dL_law_1133 hcs) hP hD hS hA (fun r2 u H locs h hP hD hS => ?_)
  obtain ⟨ms2, ma2, ml2⟩ := u
  have hP : va_P D vwCl (List.flatten (lW L0 C aU aR aR2 h_images aS n0 aN1 y0 y1 y2 o0 aM us ua rs ra1 rs2 ra2 sa sl ns1 na1 nl1 y_isThere y_taken y_took o_of imf J ms2 mw ma2 ml2)) H := hP
  have hD : va_D A (List.flatten (lW L0 C aU aR aR2 h_images aS n0 aN1 y0 y1 y2 o0 aM us ua rs ra1 rs2 ra2 sa sl ns1 na1 nl1 y_isThere y_taken y_took o_of imf J ms2 mw ma2 ml2)) := hD
  refine lv_pop hx hb dL_law_1136 rfl ?_
  refine lv_goto (tgt := 1977) hx hb dL_law_1137 (by decide) ?_
  obtain ⟨-, hI⟩ := h
  exact kk H locs ⟨aU, aR, aR2, h_images, aS, n0, aN1, y0, y1, y2, o0, aM, us, ua, rs, ra1, rs2, ra2, sa, sl, ns1, na1, nl1, y_isThere, y_taken, y_took, o_of, imf, J, im, ms2, mw, ma2, ml2, False.elim, rfl, hI, hJ, hP, hD⟩ hS
set_option maxHeartbeats 400000 in
set_option maxRecDepth 100000 in
theorem lc_32 {p : Program} {l : Launch} {e : Env} {s : State} {m : MethodId} {below : List Frame} {meth : Method} {c : Code} {b L : Nat} {xs : Nat → Int32} {D : va_G} {C : Nat → ClassId} {A : Nat → Prop} {H : Heap} {locs : List Loc} {cells slots : Nat} {Q : State → Prop} {ls : Array Slot} {L0 m0 : Nat} {i : Int32} {z : Prop} (hC : LC p s m c b L xs D C A) (hl : lv_has ls 4 [(3, .int i), (2, .ref m0), (1, .ref L0), (0, .ref b)]) (i1 : vp_in (i + 1) L) (i2 : vp_in (i + 2) L) (i3 : vp_in (i + 3) L) (i4 : vp_in (i + 4) L) (i5 : vp_in (i + 5) L) (hcs : cells ≤ 600000 ∧ slots ≤ room_1.slots) (hS : va_S A s.heap H locs) (hW : LSt z D C A L0 m0 H)  (kk : ∀ (H : Heap) (locs : List Loc), LSt False D C A L0 m0 H → va_S A s.heap H locs → W p l e room_1 s m #[Value.ref b] below meth c H locs cells slots Q (F0 m 1977 ls [])) : W p l e room_1 s m #[Value.ref b] below meth c H locs cells slots Q (F0 m 1140 ls []) := by
  obtain ⟨hx, hb, hml, hown, hw, hK, hN, hA, hX, hbl, hbA, hZ⟩ := hC
  obtain ⟨aU, aR, aR2, h_images, aS, n0, aN, y0, y1, y2, o0, aM, us, ua, rs, ra, rs2, ra2, sa, sl, ns, na, nl, y_isThere, y_taken, y_took, o_of, imf, J, im, ms, mw, ma, ml, hz, e0, hI, hJ, hP, hD⟩ := hW
  subst e0
  refine lv_aload_n hx hb dL_law_1140 rfl (lv_at hl 2 rfl) ?_
  refine lv_aload_n hx hb dL_law_1141 rfl (lv_at hl 3 rfl) ?_
  refine lv_iload_n hx hb dL_law_1142 rfl (lv_at hl 0 rfl) ?_
  refine lv_iconst (v := 1) hx hb dL_law_1143 (by decide) ?_
  refine lv_iadd hx hb dL_law_1144 ?_
  refine va_sld hx hb hX hbl hbA hS i1 dL_law_1145 ?_
  refine lGoI11 (cRunV (As := [.int (xs (i + 1).toNatClampNeg)]) (rest := []) ⟨hx, hb, hml, hown, hw⟩ hK hN hP hD [0] rfl rfl (met_oneI (k_X11_where l D C _ L0 aU aR aR2 aS n0 aN y0 y1 y2 o0 h_images us ua rs ra rs2 ra2 sa sl ns na nl y_isThere y_taken y_took o_of (xs (i + 1).toNatClampNeg) (q_where hI rs2 (xs (i + 1).toNatClampNeg)))) (cwV 1 hw (goodV mw_5_8 mw_5_9 mw_5_10 mw_1_1 mw_5_11) rfl rfl rfl (by decide +kernel) ⟨Nat.le_of_ble_eq_true rfl, Nat.le_of_ble_eq_true rfl⟩) rfl rfl rfl hl.1 rfl (Nat.le_of_ble_eq_true rfl) dL_law_1146 hcs) hP hD hS hA (fun r1 u H locs h hP hD hS => ?_)
  obtain ⟨aN1, rs21, ra21, ns1, na1, nl1⟩ := u
  have hP : va_P D vwCl (List.flatten (lW L0 C aU aR aR2 h_images aS n0 aN1 y0 y1 y2 o0 aM us ua rs ra rs21 ra21 sa sl ns1 na1 nl1 y_isThere y_taken y_took o_of imf J ms mw ma ml)) H := hP
  have hD : va_D A (List.flatten (lW L0 C aU aR aR2 h_images aS n0 aN1 y0 y1 y2 o0 aM us ua rs ra rs21 ra21 sa sl ns1 na1 nl1 y_isThere y_taken y_took o_of imf J ms mw ma ml)) := hD
  refine lv_pop hx hb dL_law_1149 rfl ?_
  refine lv_aload_n hx hb dL_law_1150 rfl (lv_at hl 1 rfl) ?_
  refine lv_aload_n hx hb dL_law_1151 rfl (lv_at hl 3 rfl) ?_
  refine lv_iload_n hx hb dL_law_1152 rfl (lv_at hl 0 rfl) ?_
  refine lv_iconst (v := 1) hx hb dL_law_1153 (by decide) ?_
  refine lv_iadd hx hb dL_law_1154 ?_
  refine va_sld hx hb hX hbl hbA hS i1 dL_law_1155 ?_
  refine lGoI12 (cRunV (As := [.int (xs (i + 1).toNatClampNeg)]) (rest := []) ⟨hx, hb, hml, hown, hw⟩ hK hN hP hD [5] rfl rfl (met_oneI (k_X12_where l D C _ aM ms mw ma ml (xs (i + 1).toNatClampNeg) h)) (cwV 1 hw (goodV mw_8_163 mw_8_164 mw_8_165 mw_1_13 mw_8_166) rfl rfl rfl (by decide +kernel) ⟨Nat.le_of_ble_eq_true rfl, Nat.le_of_ble_eq_true rfl⟩) rfl rfl rfl hl.1 rfl (Nat.le_of_ble_eq_true rfl) dL_law_1156 hcs) hP hD hS hA (fun r2 u H locs h hP hD hS => ?_)
  obtain ⟨ms2, ma2, ml2⟩ := u
  have hP : va_P D vwCl (List.flatten (lW L0 C aU aR aR2 h_images aS n0 aN1 y0 y1 y2 o0 aM us ua rs ra rs21 ra21 sa sl ns1 na1 nl1 y_isThere y_taken y_took o_of imf J ms2 mw ma2 ml2)) H := hP
  have hD : va_D A (List.flatten (lW L0 C aU aR aR2 h_images aS n0 aN1 y0 y1 y2 o0 aM us ua rs ra rs21 ra21 sa sl ns1 na1 nl1 y_isThere y_taken y_took o_of imf J ms2 mw ma2 ml2)) := hD
  refine lv_pop hx hb dL_law_1159 rfl ?_
  refine lv_goto (tgt := 1977) hx hb dL_law_1160 (by decide) ?_
  obtain ⟨-, hI⟩ := h
  exact kk H locs ⟨aU, aR, aR2, h_images, aS, n0, aN1, y0, y1, y2, o0, aM, us, ua, rs, ra, rs21, ra21, sa, sl, ns1, na1, nl1, y_isThere, y_taken, y_took, o_of, imf, J, im, ms2, mw, ma2, ml2, False.elim, rfl, hI, hJ, hP, hD⟩ hS
set_option maxHeartbeats 400000 in
set_option maxRecDepth 100000 in
theorem lc_33 {p : Program} {l : Launch} {e : Env} {s : State} {m : MethodId} {below : List Frame} {meth : Method} {c : Code} {b L : Nat} {xs : Nat → Int32} {D : va_G} {C : Nat → ClassId} {A : Nat → Prop} {H : Heap} {locs : List Loc} {cells slots : Nat} {Q : State → Prop} {ls : Array Slot} {L0 m0 : Nat} {i : Int32} {z : Prop} (hC : LC p s m c b L xs D C A) (hl : lv_has ls 4 [(3, .int i), (2, .ref m0), (1, .ref L0), (0, .ref b)]) (i1 : vp_in (i + 1) L) (i2 : vp_in (i + 2) L) (i3 : vp_in (i + 3) L) (i4 : vp_in (i + 4) L) (i5 : vp_in (i + 5) L) (hcs : cells ≤ 600000 ∧ slots ≤ room_1.slots) (hS : va_S A s.heap H locs) (hW : LSt z D C A L0 m0 H)  (kk : ∀ (H : Heap) (locs : List Loc), LSt False D C A L0 m0 H → va_S A s.heap H locs → W p l e room_1 s m #[Value.ref b] below meth c H locs cells slots Q (F0 m 1977 ls [])) : W p l e room_1 s m #[Value.ref b] below meth c H locs cells slots Q (F0 m 1163 ls []) := by
  obtain ⟨hx, hb, hml, hown, hw, hK, hN, hA, hX, hbl, hbA, hZ⟩ := hC
  obtain ⟨aU, aR, aR2, h_images, aS, n0, aN, y0, y1, y2, o0, aM, us, ua, rs, ra, rs2, ra2, sa, sl, ns, na, nl, y_isThere, y_taken, y_took, o_of, imf, J, im, ms, mw, ma, ml, hz, e0, hI, hJ, hP, hD⟩ := hW
  subst e0
  refine lv_aload_n hx hb dL_law_1163 rfl (lv_at hl 2 rfl) ?_
  refine lv_aload_n hx hb dL_law_1164 rfl (lv_at hl 3 rfl) ?_
  refine lv_iload_n hx hb dL_law_1165 rfl (lv_at hl 0 rfl) ?_
  refine lv_iconst (v := 1) hx hb dL_law_1166 (by decide) ?_
  refine lv_iadd hx hb dL_law_1167 ?_
  refine va_sld hx hb hX hbl hbA hS i1 dL_law_1168 ?_
  refine lGoI11 (cRunV (As := [.int (xs (i + 1).toNatClampNeg)]) (rest := []) ⟨hx, hb, hml, hown, hw⟩ hK hN hP hD [0] rfl rfl (met_oneI (k_X11_lamp l D C _ L0 aU aR aR2 aS n0 aN y0 y1 y2 o0 h_images us ua rs ra rs2 ra2 sa sl ns na nl y_isThere y_taken y_took o_of (xs (i + 1).toNatClampNeg) (q_lamp hI rs2 (xs (i + 1).toNatClampNeg)))) (cwV 1 hw (goodV mw_5_12 mw_5_13 mw_5_14 mw_1_1 mw_5_15) rfl rfl rfl (by decide +kernel) ⟨Nat.le_of_ble_eq_true rfl, Nat.le_of_ble_eq_true rfl⟩) rfl rfl rfl hl.1 rfl (Nat.le_of_ble_eq_true rfl) dL_law_1169 hcs) hP hD hS hA (fun r1 u H locs h hP hD hS => ?_)
  obtain ⟨aN1, rs21, ra21, ns1, na1, nl1⟩ := u
  have hP : va_P D vwCl (List.flatten (lW L0 C aU aR aR2 h_images aS n0 aN1 y0 y1 y2 o0 aM us ua rs ra rs21 ra21 sa sl ns1 na1 nl1 y_isThere y_taken y_took o_of imf J ms mw ma ml)) H := hP
  have hD : va_D A (List.flatten (lW L0 C aU aR aR2 h_images aS n0 aN1 y0 y1 y2 o0 aM us ua rs ra rs21 ra21 sa sl ns1 na1 nl1 y_isThere y_taken y_took o_of imf J ms mw ma ml)) := hD
  refine lv_pop hx hb dL_law_1172 rfl ?_
  refine lv_aload_n hx hb dL_law_1173 rfl (lv_at hl 1 rfl) ?_
  refine lv_aload_n hx hb dL_law_1174 rfl (lv_at hl 3 rfl) ?_
  refine lv_iload_n hx hb dL_law_1175 rfl (lv_at hl 0 rfl) ?_
  refine lv_iconst (v := 1) hx hb dL_law_1176 (by decide) ?_
  refine lv_iadd hx hb dL_law_1177 ?_
  refine va_sld hx hb hX hbl hbA hS i1 dL_law_1178 ?_
  refine lGoI12 (cRunV (As := [.int (xs (i + 1).toNatClampNeg)]) (rest := []) ⟨hx, hb, hml, hown, hw⟩ hK hN hP hD [5] rfl rfl (met_oneI (k_X12_lamp l D C _ aM ms mw ma ml (xs (i + 1).toNatClampNeg) h)) (cwV 1 hw (goodV mw_8_167 mw_8_168 mw_8_169 mw_1_13 mw_8_170) rfl rfl rfl (by decide +kernel) ⟨Nat.le_of_ble_eq_true rfl, Nat.le_of_ble_eq_true rfl⟩) rfl rfl rfl hl.1 rfl (Nat.le_of_ble_eq_true rfl) dL_law_1179 hcs) hP hD hS hA (fun r2 u H locs h hP hD hS => ?_)
  obtain ⟨ms2, ma2, ml2⟩ := u
  have hP : va_P D vwCl (List.flatten (lW L0 C aU aR aR2 h_images aS n0 aN1 y0 y1 y2 o0 aM us ua rs ra rs21 ra21 sa sl ns1 na1 nl1 y_isThere y_taken y_took o_of imf J ms2 mw ma2 ml2)) H := hP
  have hD : va_D A (List.flatten (lW L0 C aU aR aR2 h_images aS n0 aN1 y0 y1 y2 o0 aM us ua rs ra rs21 ra21 sa sl ns1 na1 nl1 y_isThere y_taken y_took o_of imf J ms2 mw ma2 ml2)) := hD
  refine lv_pop hx hb dL_law_1182 rfl ?_
  refine lv_goto (tgt := 1977) hx hb dL_law_1183 (by decide) ?_
  obtain ⟨-, hI⟩ := h
  exact kk H locs ⟨aU, aR, aR2, h_images, aS, n0, aN1, y0, y1, y2, o0, aM, us, ua, rs, ra, rs21, ra21, sa, sl, ns1, na1, nl1, y_isThere, y_taken, y_took, o_of, imf, J, im, ms2, mw, ma2, ml2, False.elim, rfl, hI, hJ, hP, hD⟩ hS
set_option maxHeartbeats 400000 in
set_option maxRecDepth 100000 in
theorem lc_34 {p : Program} {l : Launch} {e : Env} {s : State} {m : MethodId} {below : List Frame} {meth : Method} {c : Code} {b L : Nat} {xs : Nat → Int32} {D : va_G} {C : Nat → ClassId} {A : Nat → Prop} {H : Heap} {locs : List Loc} {cells slots : Nat} {Q : State → Prop} {ls : Array Slot} {L0 m0 : Nat} {i : Int32} {z : Prop} (hC : LC p s m c b L xs D C A) (hl : lv_has ls 4 [(3, .int i), (2, .ref m0), (1, .ref L0), (0, .ref b)]) (i1 : vp_in (i + 1) L) (i2 : vp_in (i + 2) L) (i3 : vp_in (i + 3) L) (i4 : vp_in (i + 4) L) (i5 : vp_in (i + 5) L) (hcs : cells ≤ 600000 ∧ slots ≤ room_1.slots) (hS : va_S A s.heap H locs) (hW : LSt z D C A L0 m0 H)  (kk : ∀ (H : Heap) (locs : List Loc), LSt False D C A L0 m0 H → va_S A s.heap H locs → W p l e room_1 s m #[Value.ref b] below meth c H locs cells slots Q (F0 m 1977 ls [])) : W p l e room_1 s m #[Value.ref b] below meth c H locs cells slots Q (F0 m 1186 ls []) := by
  obtain ⟨hx, hb, hml, hown, hw, hK, hN, hA, hX, hbl, hbA, hZ⟩ := hC
  obtain ⟨aU, aR, aR2, h_images, aS, n0, aN, y0, y1, y2, o0, aM, us, ua, rs, ra, rs2, ra2, sa, sl, ns, na, nl, y_isThere, y_taken, y_took, o_of, imf, J, im, ms, mw, ma, ml, hz, e0, hI, hJ, hP, hD⟩ := hW
  subst e0
  refine lv_aload_n hx hb dL_law_1186 rfl (lv_at hl 2 rfl) ?_
  refine lv_aload_n hx hb dL_law_1187 rfl (lv_at hl 3 rfl) ?_
  refine lv_iload_n hx hb dL_law_1188 rfl (lv_at hl 0 rfl) ?_
  refine lv_iconst (v := 1) hx hb dL_law_1189 (by decide) ?_
  refine lv_iadd hx hb dL_law_1190 ?_
  refine va_sld hx hb hX hbl hbA hS i1 dL_law_1191 ?_
  refine lv_aload_n hx hb dL_law_1192 rfl (lv_at hl 3 rfl) ?_
  refine lv_iload_n hx hb dL_law_1193 rfl (lv_at hl 0 rfl) ?_
  refine lv_iconst (v := 2) hx hb dL_law_1194 (by decide) ?_
  refine lv_iadd hx hb dL_law_1195 ?_
  refine va_sld hx hb hX hbl hbA hS i2 dL_law_1196 ?_
  refine lGoL11 (cRunV (As := [.int (xs (i + 1).toNatClampNeg), .int (xs (i + 2).toNatClampNeg)]) (rest := []) ⟨hx, hb, hml, hown, hw⟩ hK hN hP hD [0] rfl rfl (met_oneL (k_X11_lit l D C _ L0 aU aR aR2 aS n0 aN y0 y1 y2 o0 h_images us ua rs ra rs2 ra2 sa sl ns na nl y_isThere y_taken y_took o_of (xs (i + 1).toNatClampNeg) (xs (i + 2).toNatClampNeg) (q_lit hI rs2 (xs (i + 1).toNatClampNeg) (xs (i + 2).toNatClampNeg)))) (cwV 2 hw (goodV mw_5_24 mw_5_25 mw_5_26 mw_1_1 mw_5_27) rfl rfl rfl (by decide +kernel) ⟨Nat.le_of_ble_eq_true rfl, Nat.le_of_ble_eq_true rfl⟩) rfl rfl rfl hl.1 rfl (Nat.le_of_ble_eq_true rfl) dL_law_1197 hcs) hP hD hS hA (fun r1 u H locs h hP hD hS => ?_)
  obtain ⟨aN1, rs21, ra21, ns1, na1, nl1⟩ := u
  have hP : va_P D vwCl (List.flatten (lW L0 C aU aR aR2 h_images aS n0 aN1 y0 y1 y2 o0 aM us ua rs ra rs21 ra21 sa sl ns1 na1 nl1 y_isThere y_taken y_took o_of imf J ms mw ma ml)) H := hP
  have hD : va_D A (List.flatten (lW L0 C aU aR aR2 h_images aS n0 aN1 y0 y1 y2 o0 aM us ua rs ra rs21 ra21 sa sl ns1 na1 nl1 y_isThere y_taken y_took o_of imf J ms mw ma ml)) := hD
  refine lv_pop2_2 hx hb dL_law_1200 rfl ?_
  refine lv_aload_n hx hb dL_law_1201 rfl (lv_at hl 1 rfl) ?_
  refine lv_aload_n hx hb dL_law_1202 rfl (lv_at hl 3 rfl) ?_
  refine lv_iload_n hx hb dL_law_1203 rfl (lv_at hl 0 rfl) ?_
  refine lv_iconst (v := 1) hx hb dL_law_1204 (by decide) ?_
  refine lv_iadd hx hb dL_law_1205 ?_
  refine va_sld hx hb hX hbl hbA hS i1 dL_law_1206 ?_
  refine lv_aload_n hx hb dL_law_1207 rfl (lv_at hl 3 rfl) ?_
  refine lv_iload_n hx hb dL_law_1208 rfl (lv_at hl 0 rfl) ?_
  refine lv_iconst (v := 2) hx hb dL_law_1209 (by decide) ?_
  refine lv_iadd hx hb dL_law_1210 ?_
  refine va_sld hx hb hX hbl hbA hS i2 dL_law_1211 ?_
  refine lGoL12 (cRunV (As := [.int (xs (i + 1).toNatClampNeg), .int (xs (i + 2).toNatClampNeg)]) (rest := []) ⟨hx, hb, hml, hown, hw⟩ hK hN hP hD [5] rfl rfl (met_oneL (k_X12_lit l D C _ aM ms mw ma ml (xs (i + 1).toNatClampNeg) (xs (i + 2).toNatClampNeg) h)) (cwV 2 hw (goodV mw_8_179 mw_8_180 mw_8_181 mw_1_13 mw_8_182) rfl rfl rfl (by decide +kernel) ⟨Nat.le_of_ble_eq_true rfl, Nat.le_of_ble_eq_true rfl⟩) rfl rfl rfl hl.1 rfl (Nat.le_of_ble_eq_true rfl) dL_law_1212 hcs) hP hD hS hA (fun r2 u H locs h hP hD hS => ?_)
  obtain ⟨ms2, ma2, ml2⟩ := u
  have hP : va_P D vwCl (List.flatten (lW L0 C aU aR aR2 h_images aS n0 aN1 y0 y1 y2 o0 aM us ua rs ra rs21 ra21 sa sl ns1 na1 nl1 y_isThere y_taken y_took o_of imf J ms2 mw ma2 ml2)) H := hP
  have hD : va_D A (List.flatten (lW L0 C aU aR aR2 h_images aS n0 aN1 y0 y1 y2 o0 aM us ua rs ra rs21 ra21 sa sl ns1 na1 nl1 y_isThere y_taken y_took o_of imf J ms2 mw ma2 ml2)) := hD
  refine lv_pop2_2 hx hb dL_law_1215 rfl ?_
  refine lv_goto (tgt := 1977) hx hb dL_law_1216 (by decide) ?_
  obtain ⟨-, hI⟩ := h
  exact kk H locs ⟨aU, aR, aR2, h_images, aS, n0, aN1, y0, y1, y2, o0, aM, us, ua, rs, ra, rs21, ra21, sa, sl, ns1, na1, nl1, y_isThere, y_taken, y_took, o_of, imf, J, im, ms2, mw, ma2, ml2, False.elim, rfl, hI, hJ, hP, hD⟩ hS
set_option maxHeartbeats 400000 in
set_option maxRecDepth 100000 in
theorem lc_35 {p : Program} {l : Launch} {e : Env} {s : State} {m : MethodId} {below : List Frame} {meth : Method} {c : Code} {b L : Nat} {xs : Nat → Int32} {D : va_G} {C : Nat → ClassId} {A : Nat → Prop} {H : Heap} {locs : List Loc} {cells slots : Nat} {Q : State → Prop} {ls : Array Slot} {L0 m0 : Nat} {i : Int32} {z : Prop} (hC : LC p s m c b L xs D C A) (hl : lv_has ls 4 [(3, .int i), (2, .ref m0), (1, .ref L0), (0, .ref b)]) (i1 : vp_in (i + 1) L) (i2 : vp_in (i + 2) L) (i3 : vp_in (i + 3) L) (i4 : vp_in (i + 4) L) (i5 : vp_in (i + 5) L) (hcs : cells ≤ 600000 ∧ slots ≤ room_1.slots) (hS : va_S A s.heap H locs) (hW : LSt z D C A L0 m0 H)  (kk : ∀ (H : Heap) (locs : List Loc), LSt False D C A L0 m0 H → va_S A s.heap H locs → W p l e room_1 s m #[Value.ref b] below meth c H locs cells slots Q (F0 m 1977 ls [])) : W p l e room_1 s m #[Value.ref b] below meth c H locs cells slots Q (F0 m 1219 ls []) := by
  obtain ⟨hx, hb, hml, hown, hw, hK, hN, hA, hX, hbl, hbA, hZ⟩ := hC
  obtain ⟨aU, aR, aR2, h_images, aS, n0, aN, y0, y1, y2, o0, aM, us, ua, rs, ra, rs2, ra2, sa, sl, ns, na, nl, y_isThere, y_taken, y_took, o_of, imf, J, im, ms, mw, ma, ml, hz, e0, hI, hJ, hP, hD⟩ := hW
  subst e0
  refine lv_aload_n hx hb dL_law_1219 rfl (lv_at hl 2 rfl) ?_
  refine lv_aload_n hx hb dL_law_1220 rfl (lv_at hl 3 rfl) ?_
  refine lv_iload_n hx hb dL_law_1221 rfl (lv_at hl 0 rfl) ?_
  refine lv_iconst (v := 1) hx hb dL_law_1222 (by decide) ?_
  refine lv_iadd hx hb dL_law_1223 ?_
  refine va_sld hx hb hX hbl hbA hS i1 dL_law_1224 ?_
  refine lv_if_eq (tgt := 1232) hx hb dL_law_1225 (by decide) (fun c1 => ?_) (fun c1 => ?_)
  · refine lv_iconst (v := 0) hx hb dL_law_1232 (by decide) ?_
    refine lGoI11 (cRunV (As := [.int 0]) (rest := []) ⟨hx, hb, hml, hown, hw⟩ hK hN hP hD [0] rfl rfl (met_oneI (k_X11_watch l D C _ L0 aU aR aR2 aS n0 aN y0 y1 y2 o0 h_images us ua rs ra rs2 ra2 sa sl ns na nl y_isThere y_taken y_took o_of 0 (q_watch hI 0 (Or.inl rfl)))) (cwV 1 hw (goodV mw_5_28 mw_5_29 mw_5_30 mw_1_1 mw_5_31) rfl rfl rfl (by decide +kernel) ⟨Nat.le_of_ble_eq_true rfl, Nat.le_of_ble_eq_true rfl⟩) rfl rfl rfl hl.1 rfl (Nat.le_of_ble_eq_true rfl) dL_law_1233 hcs) hP hD hS hA (fun r1 rs1 H locs h hP hD hS => ?_)
    have hP : va_P D vwCl (List.flatten (lW L0 C aU aR aR2 h_images aS n0 aN y0 y1 y2 o0 aM us ua rs1 ra rs2 ra2 sa sl ns na nl y_isThere y_taken y_took o_of imf J ms mw ma ml)) H := hP
    have hD : va_D A (List.flatten (lW L0 C aU aR aR2 h_images aS n0 aN y0 y1 y2 o0 aM us ua rs1 ra rs2 ra2 sa sl ns na nl y_isThere y_taken y_took o_of imf J ms mw ma ml)) := hD
    refine lv_pop hx hb dL_law_1236 rfl ?_
    refine lv_aload_n hx hb dL_law_1237 rfl (lv_at hl 1 rfl) ?_
    refine lv_aload_n hx hb dL_law_1238 rfl (lv_at hl 3 rfl) ?_
    refine lv_iload_n hx hb dL_law_1239 rfl (lv_at hl 0 rfl) ?_
    refine lv_iconst (v := 1) hx hb dL_law_1240 (by decide) ?_
    refine lv_iadd hx hb dL_law_1241 ?_
    refine va_sld hx hb hX hbl hbA hS i1 dL_law_1242 ?_
    refine lv_if_eq (tgt := 1250) hx hb dL_law_1243 (by decide) (fun _ => ?_) (fun c2 => absurd c1 c2)
    refine lv_iconst (v := 0) hx hb dL_law_1250 (by decide) ?_
    refine lGoI12 (cRunV (As := [.int 0]) (rest := []) ⟨hx, hb, hml, hown, hw⟩ hK hN hP hD [5] rfl rfl (met_oneI (k_X12_watch l D C _ aM ms mw ma ml 0 h)) (cwV 1 hw (goodV mw_8_183 mw_8_184 mw_8_185 mw_1_13 mw_8_186) rfl rfl rfl (by decide +kernel) ⟨Nat.le_of_ble_eq_true rfl, Nat.le_of_ble_eq_true rfl⟩) rfl rfl rfl hl.1 rfl (Nat.le_of_ble_eq_true rfl) dL_law_1251 hcs) hP hD hS hA (fun r2 u H locs h hP hD hS => ?_)
    obtain ⟨ms2, ma2⟩ := u
    have hP : va_P D vwCl (List.flatten (lW L0 C aU aR aR2 h_images aS n0 aN y0 y1 y2 o0 aM us ua rs1 ra rs2 ra2 sa sl ns na nl y_isThere y_taken y_took o_of imf J ms2 mw ma2 ml)) H := hP
    have hD : va_D A (List.flatten (lW L0 C aU aR aR2 h_images aS n0 aN y0 y1 y2 o0 aM us ua rs1 ra rs2 ra2 sa sl ns na nl y_isThere y_taken y_took o_of imf J ms2 mw ma2 ml)) := hD
    refine lv_pop hx hb dL_law_1254 rfl ?_
    refine lv_goto (tgt := 1977) hx hb dL_law_1255 (by decide) ?_
    obtain ⟨-, hI⟩ := h
    exact kk H locs ⟨aU, aR, aR2, h_images, aS, n0, aN, y0, y1, y2, o0, aM, us, ua, rs1, ra, rs2, ra2, sa, sl, ns, na, nl, y_isThere, y_taken, y_took, o_of, imf, J, im, ms2, mw, ma2, ml, False.elim, rfl, hI, hJ, hP, hD⟩ hS
  · refine lv_iconst (v := 1) hx hb dL_law_1228 (by decide) ?_
    refine lv_goto (tgt := 1233) hx hb dL_law_1229 (by decide) ?_
    refine lGoI11 (cRunV (As := [.int 1]) (rest := []) ⟨hx, hb, hml, hown, hw⟩ hK hN hP hD [0] rfl rfl (met_oneI (k_X11_watch l D C _ L0 aU aR aR2 aS n0 aN y0 y1 y2 o0 h_images us ua rs ra rs2 ra2 sa sl ns na nl y_isThere y_taken y_took o_of 1 (q_watch hI 1 (Or.inr rfl)))) (cwV 1 hw (goodV mw_5_28 mw_5_29 mw_5_30 mw_1_1 mw_5_31) rfl rfl rfl (by decide +kernel) ⟨Nat.le_of_ble_eq_true rfl, Nat.le_of_ble_eq_true rfl⟩) rfl rfl rfl hl.1 rfl (Nat.le_of_ble_eq_true rfl) dL_law_1233 hcs) hP hD hS hA (fun r3 rs3 H locs h hP hD hS => ?_)
    have hP : va_P D vwCl (List.flatten (lW L0 C aU aR aR2 h_images aS n0 aN y0 y1 y2 o0 aM us ua rs3 ra rs2 ra2 sa sl ns na nl y_isThere y_taken y_took o_of imf J ms mw ma ml)) H := hP
    have hD : va_D A (List.flatten (lW L0 C aU aR aR2 h_images aS n0 aN y0 y1 y2 o0 aM us ua rs3 ra rs2 ra2 sa sl ns na nl y_isThere y_taken y_took o_of imf J ms mw ma ml)) := hD
    refine lv_pop hx hb dL_law_1236 rfl ?_
    refine lv_aload_n hx hb dL_law_1237 rfl (lv_at hl 1 rfl) ?_
    refine lv_aload_n hx hb dL_law_1238 rfl (lv_at hl 3 rfl) ?_
    refine lv_iload_n hx hb dL_law_1239 rfl (lv_at hl 0 rfl) ?_
    refine lv_iconst (v := 1) hx hb dL_law_1240 (by decide) ?_
    refine lv_iadd hx hb dL_law_1241 ?_
    refine va_sld hx hb hX hbl hbA hS i1 dL_law_1242 ?_
    refine lv_if_eq (tgt := 1250) hx hb dL_law_1243 (by decide) (fun c2 => absurd c2 c1) (fun _ => ?_)
    refine lv_iconst (v := 1) hx hb dL_law_1246 (by decide) ?_
    refine lv_goto (tgt := 1251) hx hb dL_law_1247 (by decide) ?_
    refine lGoI12 (cRunV (As := [.int 1]) (rest := []) ⟨hx, hb, hml, hown, hw⟩ hK hN hP hD [5] rfl rfl (met_oneI (k_X12_watch l D C _ aM ms mw ma ml 1 h)) (cwV 1 hw (goodV mw_8_183 mw_8_184 mw_8_185 mw_1_13 mw_8_186) rfl rfl rfl (by decide +kernel) ⟨Nat.le_of_ble_eq_true rfl, Nat.le_of_ble_eq_true rfl⟩) rfl rfl rfl hl.1 rfl (Nat.le_of_ble_eq_true rfl) dL_law_1251 hcs) hP hD hS hA (fun r4 u H locs h hP hD hS => ?_)
    obtain ⟨ms4, ma4⟩ := u
    have hP : va_P D vwCl (List.flatten (lW L0 C aU aR aR2 h_images aS n0 aN y0 y1 y2 o0 aM us ua rs3 ra rs2 ra2 sa sl ns na nl y_isThere y_taken y_took o_of imf J ms4 mw ma4 ml)) H := hP
    have hD : va_D A (List.flatten (lW L0 C aU aR aR2 h_images aS n0 aN y0 y1 y2 o0 aM us ua rs3 ra rs2 ra2 sa sl ns na nl y_isThere y_taken y_took o_of imf J ms4 mw ma4 ml)) := hD
    refine lv_pop hx hb dL_law_1254 rfl ?_
    refine lv_goto (tgt := 1977) hx hb dL_law_1255 (by decide) ?_
    obtain ⟨-, hI⟩ := h
    exact kk H locs ⟨aU, aR, aR2, h_images, aS, n0, aN, y0, y1, y2, o0, aM, us, ua, rs3, ra, rs2, ra2, sa, sl, ns, na, nl, y_isThere, y_taken, y_took, o_of, imf, J, im, ms4, mw, ma4, ml, False.elim, rfl, hI, hJ, hP, hD⟩ hS
set_option maxHeartbeats 400000 in
set_option maxRecDepth 100000 in
theorem lc_36 {p : Program} {l : Launch} {e : Env} {s : State} {m : MethodId} {below : List Frame} {meth : Method} {c : Code} {b L : Nat} {xs : Nat → Int32} {D : va_G} {C : Nat → ClassId} {A : Nat → Prop} {H : Heap} {locs : List Loc} {cells slots : Nat} {Q : State → Prop} {ls : Array Slot} {L0 m0 : Nat} {i : Int32} {z : Prop} (hC : LC p s m c b L xs D C A) (hl : lv_has ls 4 [(3, .int i), (2, .ref m0), (1, .ref L0), (0, .ref b)]) (i1 : vp_in (i + 1) L) (i2 : vp_in (i + 2) L) (i3 : vp_in (i + 3) L) (i4 : vp_in (i + 4) L) (i5 : vp_in (i + 5) L) (hcs : cells ≤ 600000 ∧ slots ≤ room_1.slots) (hS : va_S A s.heap H locs) (hW : LSt z D C A L0 m0 H)  (kk : ∀ (H : Heap) (locs : List Loc), LSt False D C A L0 m0 H → va_S A s.heap H locs → W p l e room_1 s m #[Value.ref b] below meth c H locs cells slots Q (F0 m 1977 ls [])) : W p l e room_1 s m #[Value.ref b] below meth c H locs cells slots Q (F0 m 1258 ls []) := by
  obtain ⟨hx, hb, hml, hown, hw, hK, hN, hA, hX, hbl, hbA, hZ⟩ := hC
  obtain ⟨aU, aR, aR2, h_images, aS, n0, aN, y0, y1, y2, o0, aM, us, ua, rs, ra, rs2, ra2, sa, sl, ns, na, nl, y_isThere, y_taken, y_took, o_of, imf, J, im, ms, mw, ma, ml, hz, e0, hI, hJ, hP, hD⟩ := hW
  subst e0
  refine lv_aload_n hx hb dL_law_1258 rfl (lv_at hl 2 rfl) ?_
  refine lGoL11 (cRunV (As := []) (rest := []) ⟨hx, hb, hml, hown, hw⟩ hK hN hP hD [0] rfl rfl (met_oneL (k_X11_penny l D C _ L0 aU aR aR2 aS n0 aN y0 y1 y2 o0 h_images us ua rs ra rs2 ra2 sa sl ns na nl y_isThere y_taken y_took o_of  (q_penny hI rs2))) (cwV 0 hw (goodV mw_5_32 mw_5_33 mw_5_34 mw_1_1 mw_5_35) rfl rfl rfl (by decide +kernel) ⟨Nat.le_of_ble_eq_true rfl, Nat.le_of_ble_eq_true rfl⟩) rfl rfl rfl hl.1 rfl (Nat.le_of_ble_eq_true rfl) dL_law_1259 hcs) hP hD hS hA (fun r1 u H locs h hP hD hS => ?_)
  obtain ⟨aN1, rs21, ra21, ns1, na1, nl1⟩ := u
  have hP : va_P D vwCl (List.flatten (lW L0 C aU aR aR2 h_images aS n0 aN1 y0 y1 y2 o0 aM us ua rs ra rs21 ra21 sa sl ns1 na1 nl1 y_isThere y_taken y_took o_of imf J ms mw ma ml)) H := hP
  have hD : va_D A (List.flatten (lW L0 C aU aR aR2 h_images aS n0 aN1 y0 y1 y2 o0 aM us ua rs ra rs21 ra21 sa sl ns1 na1 nl1 y_isThere y_taken y_took o_of imf J ms mw ma ml)) := hD
  refine lv_pop2_2 hx hb dL_law_1262 rfl ?_
  refine lv_aload_n hx hb dL_law_1263 rfl (lv_at hl 1 rfl) ?_
  refine lGoL12 (cRunV (As := []) (rest := []) ⟨hx, hb, hml, hown, hw⟩ hK hN hP hD [5] rfl rfl (met_oneL (k_X12_penny l D C _ aM ms mw ma ml  h)) (cwV 0 hw (goodV mw_8_187 mw_8_188 mw_8_189 mw_1_13 mw_8_190) rfl rfl rfl (by decide +kernel) ⟨Nat.le_of_ble_eq_true rfl, Nat.le_of_ble_eq_true rfl⟩) rfl rfl rfl hl.1 rfl (Nat.le_of_ble_eq_true rfl) dL_law_1264 hcs) hP hD hS hA (fun r2 u H locs h hP hD hS => ?_)
  obtain ⟨ms2, ma2, ml2⟩ := u
  have hP : va_P D vwCl (List.flatten (lW L0 C aU aR aR2 h_images aS n0 aN1 y0 y1 y2 o0 aM us ua rs ra rs21 ra21 sa sl ns1 na1 nl1 y_isThere y_taken y_took o_of imf J ms2 mw ma2 ml2)) H := hP
  have hD : va_D A (List.flatten (lW L0 C aU aR aR2 h_images aS n0 aN1 y0 y1 y2 o0 aM us ua rs ra rs21 ra21 sa sl ns1 na1 nl1 y_isThere y_taken y_took o_of imf J ms2 mw ma2 ml2)) := hD
  refine lv_pop2_2 hx hb dL_law_1267 rfl ?_
  refine lv_goto (tgt := 1977) hx hb dL_law_1268 (by decide) ?_
  obtain ⟨-, hI⟩ := h
  exact kk H locs ⟨aU, aR, aR2, h_images, aS, n0, aN1, y0, y1, y2, o0, aM, us, ua, rs, ra, rs21, ra21, sa, sl, ns1, na1, nl1, y_isThere, y_taken, y_took, o_of, imf, J, im, ms2, mw, ma2, ml2, False.elim, rfl, hI, hJ, hP, hD⟩ hS
set_option maxHeartbeats 400000 in
set_option maxRecDepth 100000 in
theorem lc_37 {p : Program} {l : Launch} {e : Env} {s : State} {m : MethodId} {below : List Frame} {meth : Method} {c : Code} {b L : Nat} {xs : Nat → Int32} {D : va_G} {C : Nat → ClassId} {A : Nat → Prop} {H : Heap} {locs : List Loc} {cells slots : Nat} {Q : State → Prop} {ls : Array Slot} {L0 m0 : Nat} {i : Int32} {z : Prop} (hC : LC p s m c b L xs D C A) (hl : lv_has ls 4 [(3, .int i), (2, .ref m0), (1, .ref L0), (0, .ref b)]) (i1 : vp_in (i + 1) L) (i2 : vp_in (i + 2) L) (i3 : vp_in (i + 3) L) (i4 : vp_in (i + 4) L) (i5 : vp_in (i + 5) L) (hcs : cells ≤ 600000 ∧ slots ≤ room_1.slots) (hS : va_S A s.heap H locs) (hW : LSt z D C A L0 m0 H)  (kk : ∀ (H : Heap) (locs : List Loc), LSt False D C A L0 m0 H → va_S A s.heap H locs → W p l e room_1 s m #[Value.ref b] below meth c H locs cells slots Q (F0 m 1977 ls [])) : W p l e room_1 s m #[Value.ref b] below meth c H locs cells slots Q (F0 m 1271 ls []) := by
  obtain ⟨hx, hb, hml, hown, hw, hK, hN, hA, hX, hbl, hbA, hZ⟩ := hC
  obtain ⟨aU, aR, aR2, h_images, aS, n0, aN, y0, y1, y2, o0, aM, us, ua, rs, ra, rs2, ra2, sa, sl, ns, na, nl, y_isThere, y_taken, y_took, o_of, imf, J, im, ms, mw, ma, ml, hz, e0, hI, hJ, hP, hD⟩ := hW
  subst e0
  refine lv_aload_n hx hb dL_law_1271 rfl (lv_at hl 2 rfl) ?_
  refine lGoI11 (cRunV (As := []) (rest := []) ⟨hx, hb, hml, hown, hw⟩ hK hN hP hD [0] rfl rfl (met_oneI (k_X11_enough l D C _ L0 aU aR aR2 aS n0 aN y0 y1 y2 o0 h_images us ua rs ra rs2 ra2 sa sl ns na nl y_isThere y_taken y_took o_of  (q_enough hI rs2 o_of))) (cwV 0 hw (goodV mw_5_37 mw_5_38 mw_5_39 mw_1_1 mw_5_40) rfl rfl rfl (by decide +kernel) ⟨Nat.le_of_ble_eq_true rfl, Nat.le_of_ble_eq_true rfl⟩) rfl rfl rfl hl.1 rfl (Nat.le_of_ble_eq_true rfl) dL_law_1272 hcs) hP hD hS hA (fun r1 u H locs h hP hD hS => ?_)
  obtain ⟨aN1, rs21, ra21, ns1, na1, nl1, o_of1⟩ := u
  have hP : va_P D vwCl (List.flatten (lW L0 C aU aR aR2 h_images aS n0 aN1 y0 y1 y2 o0 aM us ua rs ra rs21 ra21 sa sl ns1 na1 nl1 y_isThere y_taken y_took o_of1 imf J ms mw ma ml)) H := hP
  have hD : va_D A (List.flatten (lW L0 C aU aR aR2 h_images aS n0 aN1 y0 y1 y2 o0 aM us ua rs ra rs21 ra21 sa sl ns1 na1 nl1 y_isThere y_taken y_took o_of1 imf J ms mw ma ml)) := hD
  refine lv_pop hx hb dL_law_1275 rfl ?_
  refine lv_aload_n hx hb dL_law_1276 rfl (lv_at hl 1 rfl) ?_
  refine lGoI12 (cRunV (As := []) (rest := []) ⟨hx, hb, hml, hown, hw⟩ hK hN hP hD [5] rfl rfl (met_oneI (k_X12_enough l D C _ aM ms mw ma ml  h)) (cwV 0 hw (goodV mw_8_195 mw_8_196 mw_8_197 mw_1_13 mw_8_198) rfl rfl rfl (by decide +kernel) ⟨Nat.le_of_ble_eq_true rfl, Nat.le_of_ble_eq_true rfl⟩) rfl rfl rfl hl.1 rfl (Nat.le_of_ble_eq_true rfl) dL_law_1277 hcs) hP hD hS hA (fun r2 u H locs h hP hD hS => ?_)
  obtain ⟨ms2, ma2, ml2⟩ := u
  have hP : va_P D vwCl (List.flatten (lW L0 C aU aR aR2 h_images aS n0 aN1 y0 y1 y2 o0 aM us ua rs ra rs21 ra21 sa sl ns1 na1 nl1 y_isThere y_taken y_took o_of1 imf J ms2 mw ma2 ml2)) H := hP
  have hD : va_D A (List.flatten (lW L0 C aU aR aR2 h_images aS n0 aN1 y0 y1 y2 o0 aM us ua rs ra rs21 ra21 sa sl ns1 na1 nl1 y_isThere y_taken y_took o_of1 imf J ms2 mw ma2 ml2)) := hD
  refine lv_pop hx hb dL_law_1280 rfl ?_
  refine lv_goto (tgt := 1977) hx hb dL_law_1281 (by decide) ?_
  obtain ⟨-, hI⟩ := h
  exact kk H locs ⟨aU, aR, aR2, h_images, aS, n0, aN1, y0, y1, y2, o0, aM, us, ua, rs, ra, rs21, ra21, sa, sl, ns1, na1, nl1, y_isThere, y_taken, y_took, o_of1, imf, J, im, ms2, mw, ma2, ml2, False.elim, rfl, hI, hJ, hP, hD⟩ hS
set_option maxHeartbeats 400000 in
set_option maxRecDepth 100000 in
theorem lc_38 {p : Program} {l : Launch} {e : Env} {s : State} {m : MethodId} {below : List Frame} {meth : Method} {c : Code} {b L : Nat} {xs : Nat → Int32} {D : va_G} {C : Nat → ClassId} {A : Nat → Prop} {H : Heap} {locs : List Loc} {cells slots : Nat} {Q : State → Prop} {ls : Array Slot} {L0 m0 : Nat} {i : Int32} {z : Prop} (hC : LC p s m c b L xs D C A) (hl : lv_has ls 4 [(3, .int i), (2, .ref m0), (1, .ref L0), (0, .ref b)]) (i1 : vp_in (i + 1) L) (i2 : vp_in (i + 2) L) (i3 : vp_in (i + 3) L) (i4 : vp_in (i + 4) L) (i5 : vp_in (i + 5) L) (hcs : cells ≤ 600000 ∧ slots ≤ room_1.slots) (hS : va_S A s.heap H locs) (hW : LSt z D C A L0 m0 H)  (kk : ∀ (H : Heap) (locs : List Loc), LSt False D C A L0 m0 H → va_S A s.heap H locs → W p l e room_1 s m #[Value.ref b] below meth c H locs cells slots Q (F0 m 1977 ls [])) : W p l e room_1 s m #[Value.ref b] below meth c H locs cells slots Q (F0 m 1284 ls []) := by
  obtain ⟨hx, hb, hml, hown, hw, hK, hN, hA, hX, hbl, hbA, hZ⟩ := hC
  obtain ⟨aU, aR, aR2, h_images, aS, n0, aN, y0, y1, y2, o0, aM, us, ua, rs, ra, rs2, ra2, sa, sl, ns, na, nl, y_isThere, y_taken, y_took, o_of, imf, J, im, ms, mw, ma, ml, hz, e0, hI, hJ, hP, hD⟩ := hW
  subst e0
  refine lv_aload_n hx hb dL_law_1284 rfl (lv_at hl 2 rfl) ?_
  refine lGoI11 (cRunV (As := []) (rest := []) ⟨hx, hb, hml, hown, hw⟩ hK hN hP hD [0] rfl rfl (met_oneI (k_X11_marks l D C _ L0 aU aR aR2 aS n0 aN y0 y1 y2 o0 h_images us ua rs ra rs2 ra2 sa sl ns na nl y_isThere y_taken y_took o_of  (q_marks hI rs2))) (cwV 0 hw (goodV mw_5_45 mw_5_46 mw_5_47 mw_1_1 mw_5_48) rfl rfl rfl (by decide +kernel) ⟨Nat.le_of_ble_eq_true rfl, Nat.le_of_ble_eq_true rfl⟩) rfl rfl rfl hl.1 rfl (Nat.le_of_ble_eq_true rfl) dL_law_1285 hcs) hP hD hS hA (fun r1 u H locs h hP hD hS => ?_)
  obtain ⟨rs21, ra21, ns1, na1⟩ := u
  have hP : va_P D vwCl (List.flatten (lW L0 C aU aR aR2 h_images aS n0 aN y0 y1 y2 o0 aM us ua rs ra rs21 ra21 sa sl ns1 na1 nl y_isThere y_taken y_took o_of imf J ms mw ma ml)) H := hP
  have hD : va_D A (List.flatten (lW L0 C aU aR aR2 h_images aS n0 aN y0 y1 y2 o0 aM us ua rs ra rs21 ra21 sa sl ns1 na1 nl y_isThere y_taken y_took o_of imf J ms mw ma ml)) := hD
  refine lv_pop hx hb dL_law_1288 rfl ?_
  refine lv_aload_n hx hb dL_law_1289 rfl (lv_at hl 1 rfl) ?_
  refine lGoI12 (cRunV (As := []) (rest := []) ⟨hx, hb, hml, hown, hw⟩ hK hN hP hD [5] rfl rfl (met_oneI (k_X12_marks l D C _ aM ms mw ma ml  h)) (cwV 0 hw (goodV mw_8_199 mw_8_200 mw_8_201 mw_1_13 mw_8_202) rfl rfl rfl (by decide +kernel) ⟨Nat.le_of_ble_eq_true rfl, Nat.le_of_ble_eq_true rfl⟩) rfl rfl rfl hl.1 rfl (Nat.le_of_ble_eq_true rfl) dL_law_1290 hcs) hP hD hS hA (fun r2 u H locs h hP hD hS => ?_)
  obtain ⟨ms2, ma2⟩ := u
  have hP : va_P D vwCl (List.flatten (lW L0 C aU aR aR2 h_images aS n0 aN y0 y1 y2 o0 aM us ua rs ra rs21 ra21 sa sl ns1 na1 nl y_isThere y_taken y_took o_of imf J ms2 mw ma2 ml)) H := hP
  have hD : va_D A (List.flatten (lW L0 C aU aR aR2 h_images aS n0 aN y0 y1 y2 o0 aM us ua rs ra rs21 ra21 sa sl ns1 na1 nl y_isThere y_taken y_took o_of imf J ms2 mw ma2 ml)) := hD
  refine lv_pop hx hb dL_law_1293 rfl ?_
  refine lv_goto (tgt := 1977) hx hb dL_law_1294 (by decide) ?_
  obtain ⟨-, hI⟩ := h
  exact kk H locs ⟨aU, aR, aR2, h_images, aS, n0, aN, y0, y1, y2, o0, aM, us, ua, rs, ra, rs21, ra21, sa, sl, ns1, na1, nl, y_isThere, y_taken, y_took, o_of, imf, J, im, ms2, mw, ma2, ml, False.elim, rfl, hI, hJ, hP, hD⟩ hS
set_option maxHeartbeats 400000 in
set_option maxRecDepth 100000 in
theorem lc_39 {p : Program} {l : Launch} {e : Env} {s : State} {m : MethodId} {below : List Frame} {meth : Method} {c : Code} {b L : Nat} {xs : Nat → Int32} {D : va_G} {C : Nat → ClassId} {A : Nat → Prop} {H : Heap} {locs : List Loc} {cells slots : Nat} {Q : State → Prop} {ls : Array Slot} {L0 m0 : Nat} {i : Int32} {z : Prop} (hC : LC p s m c b L xs D C A) (hl : lv_has ls 4 [(3, .int i), (2, .ref m0), (1, .ref L0), (0, .ref b)]) (i1 : vp_in (i + 1) L) (i2 : vp_in (i + 2) L) (i3 : vp_in (i + 3) L) (i4 : vp_in (i + 4) L) (i5 : vp_in (i + 5) L) (hcs : cells ≤ 600000 ∧ slots ≤ room_1.slots) (hS : va_S A s.heap H locs) (hW : LSt z D C A L0 m0 H)  (kk : ∀ (H : Heap) (locs : List Loc), LSt False D C A L0 m0 H → va_S A s.heap H locs → W p l e room_1 s m #[Value.ref b] below meth c H locs cells slots Q (F0 m 1977 ls [])) : W p l e room_1 s m #[Value.ref b] below meth c H locs cells slots Q (F0 m 1297 ls []) := by
  obtain ⟨hx, hb, hml, hown, hw, hK, hN, hA, hX, hbl, hbA, hZ⟩ := hC
  obtain ⟨aU, aR, aR2, h_images, aS, n0, aN, y0, y1, y2, o0, aM, us, ua, rs, ra, rs2, ra2, sa, sl, ns, na, nl, y_isThere, y_taken, y_took, o_of, imf, J, im, ms, mw, ma, ml, hz, e0, hI, hJ, hP, hD⟩ := hW
  subst e0
  refine lv_aload_n hx hb dL_law_1297 rfl (lv_at hl 2 rfl) ?_
  refine lv_aload_n hx hb dL_law_1298 rfl (lv_at hl 3 rfl) ?_
  refine lv_iload_n hx hb dL_law_1299 rfl (lv_at hl 0 rfl) ?_
  refine lv_iconst (v := 1) hx hb dL_law_1300 (by decide) ?_
  refine lv_iadd hx hb dL_law_1301 ?_
  refine va_sld hx hb hX hbl hbA hS i1 dL_law_1302 ?_
  refine lGoL11 (cRunV (As := [.int (xs (i + 1).toNatClampNeg)]) (rest := []) ⟨hx, hb, hml, hown, hw⟩ hK hN hP hD [0] rfl rfl (met_oneL (k_X11_hides l D C _ L0 aU aR aR2 aS n0 aN y0 y1 y2 o0 h_images us ua rs ra rs2 ra2 sa sl ns na nl y_isThere y_taken y_took o_of (xs (i + 1).toNatClampNeg) (q_hides hI rs2 (xs (i + 1).toNatClampNeg)))) (cwV 1 hw (goodV mw_5_53 mw_5_54 mw_5_55 mw_1_1 mw_5_56) rfl rfl rfl (by decide +kernel) ⟨Nat.le_of_ble_eq_true rfl, Nat.le_of_ble_eq_true rfl⟩) rfl rfl rfl hl.1 rfl (Nat.le_of_ble_eq_true rfl) dL_law_1303 hcs) hP hD hS hA (fun r1 u H locs h hP hD hS => ?_)
  obtain ⟨aN1, rs21, ra21, ns1, na1, nl1⟩ := u
  have hP : va_P D vwCl (List.flatten (lW L0 C aU aR aR2 h_images aS n0 aN1 y0 y1 y2 o0 aM us ua rs ra rs21 ra21 sa sl ns1 na1 nl1 y_isThere y_taken y_took o_of imf J ms mw ma ml)) H := hP
  have hD : va_D A (List.flatten (lW L0 C aU aR aR2 h_images aS n0 aN1 y0 y1 y2 o0 aM us ua rs ra rs21 ra21 sa sl ns1 na1 nl1 y_isThere y_taken y_took o_of imf J ms mw ma ml)) := hD
  refine lv_pop2_2 hx hb dL_law_1306 rfl ?_
  refine lv_aload_n hx hb dL_law_1307 rfl (lv_at hl 1 rfl) ?_
  refine lv_aload_n hx hb dL_law_1308 rfl (lv_at hl 3 rfl) ?_
  refine lv_iload_n hx hb dL_law_1309 rfl (lv_at hl 0 rfl) ?_
  refine lv_iconst (v := 1) hx hb dL_law_1310 (by decide) ?_
  refine lv_iadd hx hb dL_law_1311 ?_
  refine va_sld hx hb hX hbl hbA hS i1 dL_law_1312 ?_
  refine lGoL12 (cRunV (As := [.int (xs (i + 1).toNatClampNeg)]) (rest := []) ⟨hx, hb, hml, hown, hw⟩ hK hN hP hD [5] rfl rfl (met_oneL (k_X12_hides l D C _ aM ms mw ma ml (xs (i + 1).toNatClampNeg) h)) (cwV 1 hw (goodV mw_8_211 mw_8_212 mw_8_213 mw_1_13 mw_8_214) rfl rfl rfl (by decide +kernel) ⟨Nat.le_of_ble_eq_true rfl, Nat.le_of_ble_eq_true rfl⟩) rfl rfl rfl hl.1 rfl (Nat.le_of_ble_eq_true rfl) dL_law_1313 hcs) hP hD hS hA (fun r2 u H locs h hP hD hS => ?_)
  obtain ⟨ms2, ma2, ml2⟩ := u
  have hP : va_P D vwCl (List.flatten (lW L0 C aU aR aR2 h_images aS n0 aN1 y0 y1 y2 o0 aM us ua rs ra rs21 ra21 sa sl ns1 na1 nl1 y_isThere y_taken y_took o_of imf J ms2 mw ma2 ml2)) H := hP
  have hD : va_D A (List.flatten (lW L0 C aU aR aR2 h_images aS n0 aN1 y0 y1 y2 o0 aM us ua rs ra rs21 ra21 sa sl ns1 na1 nl1 y_isThere y_taken y_took o_of imf J ms2 mw ma2 ml2)) := hD
  refine lv_pop2_2 hx hb dL_law_1316 rfl ?_
  refine lv_goto (tgt := 1977) hx hb dL_law_1317 (by decide) ?_
  obtain ⟨-, hI⟩ := h
  exact kk H locs ⟨aU, aR, aR2, h_images, aS, n0, aN1, y0, y1, y2, o0, aM, us, ua, rs, ra, rs21, ra21, sa, sl, ns1, na1, nl1, y_isThere, y_taken, y_took, o_of, imf, J, im, ms2, mw, ma2, ml2, False.elim, rfl, hI, hJ, hP, hD⟩ hS
set_option maxHeartbeats 400000 in
set_option maxRecDepth 100000 in
theorem lc_40 {p : Program} {l : Launch} {e : Env} {s : State} {m : MethodId} {below : List Frame} {meth : Method} {c : Code} {b L : Nat} {xs : Nat → Int32} {D : va_G} {C : Nat → ClassId} {A : Nat → Prop} {H : Heap} {locs : List Loc} {cells slots : Nat} {Q : State → Prop} {ls : Array Slot} {L0 m0 : Nat} {i : Int32} {z : Prop} (hC : LC p s m c b L xs D C A) (hl : lv_has ls 4 [(3, .int i), (2, .ref m0), (1, .ref L0), (0, .ref b)]) (i1 : vp_in (i + 1) L) (i2 : vp_in (i + 2) L) (i3 : vp_in (i + 3) L) (i4 : vp_in (i + 4) L) (i5 : vp_in (i + 5) L) (hcs : cells ≤ 600000 ∧ slots ≤ room_1.slots) (hS : va_S A s.heap H locs) (hW : LSt z D C A L0 m0 H)  (kk : ∀ (H : Heap) (locs : List Loc), LSt False D C A L0 m0 H → va_S A s.heap H locs → W p l e room_1 s m #[Value.ref b] below meth c H locs cells slots Q (F0 m 1977 ls [])) : W p l e room_1 s m #[Value.ref b] below meth c H locs cells slots Q (F0 m 1320 ls []) := by
  obtain ⟨hx, hb, hml, hown, hw, hK, hN, hA, hX, hbl, hbA, hZ⟩ := hC
  obtain ⟨aU, aR, aR2, h_images, aS, n0, aN, y0, y1, y2, o0, aM, us, ua, rs, ra, rs2, ra2, sa, sl, ns, na, nl, y_isThere, y_taken, y_took, o_of, imf, J, im, ms, mw, ma, ml, hz, e0, hI, hJ, hP, hD⟩ := hW
  subst e0
  refine lv_aload_n hx hb dL_law_1320 rfl (lv_at hl 2 rfl) ?_
  refine lv_aload_n hx hb dL_law_1321 rfl (lv_at hl 3 rfl) ?_
  refine lv_iload_n hx hb dL_law_1322 rfl (lv_at hl 0 rfl) ?_
  refine lv_iconst (v := 1) hx hb dL_law_1323 (by decide) ?_
  refine lv_iadd hx hb dL_law_1324 ?_
  refine va_sld hx hb hX hbl hbA hS i1 dL_law_1325 ?_
  refine lv_aload_n hx hb dL_law_1326 rfl (lv_at hl 3 rfl) ?_
  refine lv_iload_n hx hb dL_law_1327 rfl (lv_at hl 0 rfl) ?_
  refine lv_iconst (v := 2) hx hb dL_law_1328 (by decide) ?_
  refine lv_iadd hx hb dL_law_1329 ?_
  refine va_sld hx hb hX hbl hbA hS i2 dL_law_1330 ?_
  refine lv_aload_n hx hb dL_law_1331 rfl (lv_at hl 3 rfl) ?_
  refine lv_iload_n hx hb dL_law_1332 rfl (lv_at hl 0 rfl) ?_
  refine lv_iconst (v := 3) hx hb dL_law_1333 (by decide) ?_
  refine lv_iadd hx hb dL_law_1334 ?_
  refine va_sld hx hb hX hbl hbA hS i3 dL_law_1335 ?_
  refine lGoL11 (cRunV (As := [.int (xs (i + 1).toNatClampNeg), .int (xs (i + 2).toNatClampNeg), .int (xs (i + 3).toNatClampNeg)]) (rest := []) ⟨hx, hb, hml, hown, hw⟩ hK hN hP hD [0] rfl rfl (met_oneL (k_X11_bait l D C _ L0 aU aR aR2 aS n0 aN y0 y1 y2 o0 h_images us ua rs ra rs2 ra2 sa sl ns na nl y_isThere y_taken y_took o_of (xs (i + 1).toNatClampNeg) (xs (i + 2).toNatClampNeg) (xs (i + 3).toNatClampNeg) (q_bait hI mw (xs (i + 1).toNatClampNeg) (xs (i + 2).toNatClampNeg) (xs (i + 3).toNatClampNeg)))) (cwV 3 hw (goodV mw_5_65 mw_5_66 mw_5_67 mw_1_1 mw_5_68) rfl rfl rfl (by decide +kernel) ⟨Nat.le_of_ble_eq_true rfl, Nat.le_of_ble_eq_true rfl⟩) rfl rfl rfl hl.1 rfl (Nat.le_of_ble_eq_true rfl) dL_law_1336 hcs) hP hD hS hA (fun r1 u H locs h hP hD hS => ?_)
  obtain ⟨aN1, ns1, na1, nl1⟩ := u
  have hP : va_P D vwCl (List.flatten (lW L0 C aU aR aR2 h_images aS n0 aN1 y0 y1 y2 o0 aM us ua rs ra rs2 ra2 sa sl ns1 na1 nl1 y_isThere y_taken y_took o_of imf J ms mw ma ml)) H := hP
  have hD : va_D A (List.flatten (lW L0 C aU aR aR2 h_images aS n0 aN1 y0 y1 y2 o0 aM us ua rs ra rs2 ra2 sa sl ns1 na1 nl1 y_isThere y_taken y_took o_of imf J ms mw ma ml)) := hD
  refine lv_pop2_2 hx hb dL_law_1339 rfl ?_
  refine lv_aload_n hx hb dL_law_1340 rfl (lv_at hl 1 rfl) ?_
  refine lv_aload_n hx hb dL_law_1341 rfl (lv_at hl 3 rfl) ?_
  refine lv_iload_n hx hb dL_law_1342 rfl (lv_at hl 0 rfl) ?_
  refine lv_iconst (v := 1) hx hb dL_law_1343 (by decide) ?_
  refine lv_iadd hx hb dL_law_1344 ?_
  refine va_sld hx hb hX hbl hbA hS i1 dL_law_1345 ?_
  refine lv_aload_n hx hb dL_law_1346 rfl (lv_at hl 3 rfl) ?_
  refine lv_iload_n hx hb dL_law_1347 rfl (lv_at hl 0 rfl) ?_
  refine lv_iconst (v := 2) hx hb dL_law_1348 (by decide) ?_
  refine lv_iadd hx hb dL_law_1349 ?_
  refine va_sld hx hb hX hbl hbA hS i2 dL_law_1350 ?_
  refine lv_aload_n hx hb dL_law_1351 rfl (lv_at hl 3 rfl) ?_
  refine lv_iload_n hx hb dL_law_1352 rfl (lv_at hl 0 rfl) ?_
  refine lv_iconst (v := 3) hx hb dL_law_1353 (by decide) ?_
  refine lv_iadd hx hb dL_law_1354 ?_
  refine va_sld hx hb hX hbl hbA hS i3 dL_law_1355 ?_
  refine lGoL12 (cRunV (As := [.int (xs (i + 1).toNatClampNeg), .int (xs (i + 2).toNatClampNeg), .int (xs (i + 3).toNatClampNeg)]) (rest := []) ⟨hx, hb, hml, hown, hw⟩ hK hN hP hD [5] rfl rfl (met_oneL (k_X12_bait l D C _ aM ms mw ma ml (xs (i + 1).toNatClampNeg) (xs (i + 2).toNatClampNeg) (xs (i + 3).toNatClampNeg) h)) (cwV 3 hw (goodV mw_8_215 mw_8_216 mw_8_217 mw_1_13 mw_8_218) rfl rfl rfl (by decide +kernel) ⟨Nat.le_of_ble_eq_true rfl, Nat.le_of_ble_eq_true rfl⟩) rfl rfl rfl hl.1 rfl (Nat.le_of_ble_eq_true rfl) dL_law_1356 hcs) hP hD hS hA (fun r2 u H locs h hP hD hS => ?_)
  obtain ⟨ms2, mw2, ma2, ml2⟩ := u
  have hP : va_P D vwCl (List.flatten (lW L0 C aU aR aR2 h_images aS n0 aN1 y0 y1 y2 o0 aM us ua rs ra rs2 ra2 sa sl ns1 na1 nl1 y_isThere y_taken y_took o_of imf J ms2 mw2 ma2 ml2)) H := hP
  have hD : va_D A (List.flatten (lW L0 C aU aR aR2 h_images aS n0 aN1 y0 y1 y2 o0 aM us ua rs ra rs2 ra2 sa sl ns1 na1 nl1 y_isThere y_taken y_took o_of imf J ms2 mw2 ma2 ml2)) := hD
  refine lv_pop2_2 hx hb dL_law_1359 rfl ?_
  refine lv_goto (tgt := 1977) hx hb dL_law_1360 (by decide) ?_
  obtain ⟨-, hI⟩ := h
  exact kk H locs ⟨aU, aR, aR2, h_images, aS, n0, aN1, y0, y1, y2, o0, aM, us, ua, rs, ra, rs2, ra2, sa, sl, ns1, na1, nl1, y_isThere, y_taken, y_took, o_of, imf, J, im, ms2, mw2, ma2, ml2, False.elim, rfl, hI, hJ, hP, hD⟩ hS
set_option maxHeartbeats 400000 in
set_option maxRecDepth 100000 in
theorem lc_41 {p : Program} {l : Launch} {e : Env} {s : State} {m : MethodId} {below : List Frame} {meth : Method} {c : Code} {b L : Nat} {xs : Nat → Int32} {D : va_G} {C : Nat → ClassId} {A : Nat → Prop} {H : Heap} {locs : List Loc} {cells slots : Nat} {Q : State → Prop} {ls : Array Slot} {L0 m0 : Nat} {i : Int32} {z : Prop} (hC : LC p s m c b L xs D C A) (hl : lv_has ls 4 [(3, .int i), (2, .ref m0), (1, .ref L0), (0, .ref b)]) (i1 : vp_in (i + 1) L) (i2 : vp_in (i + 2) L) (i3 : vp_in (i + 3) L) (i4 : vp_in (i + 4) L) (i5 : vp_in (i + 5) L) (hcs : cells ≤ 600000 ∧ slots ≤ room_1.slots) (hS : va_S A s.heap H locs) (hW : LSt z D C A L0 m0 H)  (kk : ∀ (H : Heap) (locs : List Loc), LSt False D C A L0 m0 H → va_S A s.heap H locs → W p l e room_1 s m #[Value.ref b] below meth c H locs cells slots Q (F0 m 1977 ls [])) : W p l e room_1 s m #[Value.ref b] below meth c H locs cells slots Q (F0 m 1363 ls []) := by
  obtain ⟨hx, hb, hml, hown, hw, hK, hN, hA, hX, hbl, hbA, hZ⟩ := hC
  obtain ⟨aU, aR, aR2, h_images, aS, n0, aN, y0, y1, y2, o0, aM, us, ua, rs, ra, rs2, ra2, sa, sl, ns, na, nl, y_isThere, y_taken, y_took, o_of, imf, J, im, ms, mw, ma, ml, hz, e0, hI, hJ, hP, hD⟩ := hW
  subst e0
  refine lv_aload_n hx hb dL_law_1363 rfl (lv_at hl 2 rfl) ?_
  refine lv_aload_n hx hb dL_law_1364 rfl (lv_at hl 3 rfl) ?_
  refine lv_iload_n hx hb dL_law_1365 rfl (lv_at hl 0 rfl) ?_
  refine lv_iconst (v := 1) hx hb dL_law_1366 (by decide) ?_
  refine lv_iadd hx hb dL_law_1367 ?_
  refine va_sld hx hb hX hbl hbA hS i1 dL_law_1368 ?_
  refine lv_aload_n hx hb dL_law_1369 rfl (lv_at hl 3 rfl) ?_
  refine lv_iload_n hx hb dL_law_1370 rfl (lv_at hl 0 rfl) ?_
  refine lv_iconst (v := 2) hx hb dL_law_1371 (by decide) ?_
  refine lv_iadd hx hb dL_law_1372 ?_
  refine va_sld hx hb hX hbl hbA hS i2 dL_law_1373 ?_
  refine lv_aload_n hx hb dL_law_1374 rfl (lv_at hl 3 rfl) ?_
  refine lv_iload_n hx hb dL_law_1375 rfl (lv_at hl 0 rfl) ?_
  refine lv_iconst (v := 3) hx hb dL_law_1376 (by decide) ?_
  refine lv_iadd hx hb dL_law_1377 ?_
  refine va_sld hx hb hX hbl hbA hS i3 dL_law_1378 ?_
  refine lv_aload_n hx hb dL_law_1379 rfl (lv_at hl 3 rfl) ?_
  refine lv_iload_n hx hb dL_law_1380 rfl (lv_at hl 0 rfl) ?_
  refine lv_iconst (v := 4) hx hb dL_law_1381 (by decide) ?_
  refine lv_iadd hx hb dL_law_1382 ?_
  refine va_sld hx hb hX hbl hbA hS i4 dL_law_1383 ?_
  refine lGoL11 (cRunV (As := [.int (xs (i + 1).toNatClampNeg), .int (xs (i + 2).toNatClampNeg), .int (xs (i + 3).toNatClampNeg), .int (xs (i + 4).toNatClampNeg)]) (rest := []) ⟨hx, hb, hml, hown, hw⟩ hK hN hP hD [0] rfl rfl (met_oneL (k_X11_caught l D C _ L0 aU aR aR2 aS n0 aN y0 y1 y2 o0 h_images us ua rs ra rs2 ra2 sa sl ns na nl y_isThere y_taken y_took o_of (xs (i + 1).toNatClampNeg) (xs (i + 2).toNatClampNeg) (xs (i + 3).toNatClampNeg) (xs (i + 4).toNatClampNeg) (q_caught hI mw (xs (i + 1).toNatClampNeg) (xs (i + 2).toNatClampNeg) (xs (i + 3).toNatClampNeg) (xs (i + 4).toNatClampNeg)))) (cwV 4 hw (goodV mw_5_85 mw_5_86 mw_5_87 mw_1_1 mw_5_88) rfl rfl rfl (by decide +kernel) ⟨Nat.le_of_ble_eq_true rfl, Nat.le_of_ble_eq_true rfl⟩) rfl rfl rfl hl.1 rfl (Nat.le_of_ble_eq_true rfl) dL_law_1384 hcs) hP hD hS hA (fun r1 u H locs h hP hD hS => ?_)
  obtain ⟨aN1, ns1, na1, nl1⟩ := u
  have hP : va_P D vwCl (List.flatten (lW L0 C aU aR aR2 h_images aS n0 aN1 y0 y1 y2 o0 aM us ua rs ra rs2 ra2 sa sl ns1 na1 nl1 y_isThere y_taken y_took o_of imf J ms mw ma ml)) H := hP
  have hD : va_D A (List.flatten (lW L0 C aU aR aR2 h_images aS n0 aN1 y0 y1 y2 o0 aM us ua rs ra rs2 ra2 sa sl ns1 na1 nl1 y_isThere y_taken y_took o_of imf J ms mw ma ml)) := hD
  refine lv_pop2_2 hx hb dL_law_1387 rfl ?_
  refine lv_aload_n hx hb dL_law_1388 rfl (lv_at hl 1 rfl) ?_
  refine lv_aload_n hx hb dL_law_1389 rfl (lv_at hl 3 rfl) ?_
  refine lv_iload_n hx hb dL_law_1390 rfl (lv_at hl 0 rfl) ?_
  refine lv_iconst (v := 1) hx hb dL_law_1391 (by decide) ?_
  refine lv_iadd hx hb dL_law_1392 ?_
  refine va_sld hx hb hX hbl hbA hS i1 dL_law_1393 ?_
  refine lv_aload_n hx hb dL_law_1394 rfl (lv_at hl 3 rfl) ?_
  refine lv_iload_n hx hb dL_law_1395 rfl (lv_at hl 0 rfl) ?_
  refine lv_iconst (v := 2) hx hb dL_law_1396 (by decide) ?_
  refine lv_iadd hx hb dL_law_1397 ?_
  refine va_sld hx hb hX hbl hbA hS i2 dL_law_1398 ?_
  refine lv_aload_n hx hb dL_law_1399 rfl (lv_at hl 3 rfl) ?_
  refine lv_iload_n hx hb dL_law_1400 rfl (lv_at hl 0 rfl) ?_
  refine lv_iconst (v := 3) hx hb dL_law_1401 (by decide) ?_
  refine lv_iadd hx hb dL_law_1402 ?_
  refine va_sld hx hb hX hbl hbA hS i3 dL_law_1403 ?_
  refine lv_aload_n hx hb dL_law_1404 rfl (lv_at hl 3 rfl) ?_
  refine lv_iload_n hx hb dL_law_1405 rfl (lv_at hl 0 rfl) ?_
  refine lv_iconst (v := 4) hx hb dL_law_1406 (by decide) ?_
  refine lv_iadd hx hb dL_law_1407 ?_
  refine va_sld hx hb hX hbl hbA hS i4 dL_law_1408 ?_
  refine lGoL12 (cRunV (As := [.int (xs (i + 1).toNatClampNeg), .int (xs (i + 2).toNatClampNeg), .int (xs (i + 3).toNatClampNeg), .int (xs (i + 4).toNatClampNeg)]) (rest := []) ⟨hx, hb, hml, hown, hw⟩ hK hN hP hD [5] rfl rfl (met_oneL (k_X12_caught l D C _ aM ms mw ma ml (xs (i + 1).toNatClampNeg) (xs (i + 2).toNatClampNeg) (xs (i + 3).toNatClampNeg) (xs (i + 4).toNatClampNeg) h)) (cwV 4 hw (goodV mw_8_235 mw_8_236 mw_8_237 mw_1_13 mw_8_238) rfl rfl rfl (by decide +kernel) ⟨Nat.le_of_ble_eq_true rfl, Nat.le_of_ble_eq_true rfl⟩) rfl rfl rfl hl.1 rfl (Nat.le_of_ble_eq_true rfl) dL_law_1409 hcs) hP hD hS hA (fun r2 u H locs h hP hD hS => ?_)
  obtain ⟨ms2, mw2, ma2, ml2⟩ := u
  have hP : va_P D vwCl (List.flatten (lW L0 C aU aR aR2 h_images aS n0 aN1 y0 y1 y2 o0 aM us ua rs ra rs2 ra2 sa sl ns1 na1 nl1 y_isThere y_taken y_took o_of imf J ms2 mw2 ma2 ml2)) H := hP
  have hD : va_D A (List.flatten (lW L0 C aU aR aR2 h_images aS n0 aN1 y0 y1 y2 o0 aM us ua rs ra rs2 ra2 sa sl ns1 na1 nl1 y_isThere y_taken y_took o_of imf J ms2 mw2 ma2 ml2)) := hD
  refine lv_pop2_2 hx hb dL_law_1412 rfl ?_
  refine lv_goto (tgt := 1977) hx hb dL_law_1413 (by decide) ?_
  obtain ⟨-, hI⟩ := h
  exact kk H locs ⟨aU, aR, aR2, h_images, aS, n0, aN1, y0, y1, y2, o0, aM, us, ua, rs, ra, rs2, ra2, sa, sl, ns1, na1, nl1, y_isThere, y_taken, y_took, o_of, imf, J, im, ms2, mw2, ma2, ml2, False.elim, rfl, hI, hJ, hP, hD⟩ hS
