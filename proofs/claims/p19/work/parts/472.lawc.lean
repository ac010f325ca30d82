set_option maxHeartbeats 400000 in
set_option maxRecDepth 100000 in
theorem lc_28 {p : Program} {l : Launch} {e : Env} {s : State} {m : MethodId} {below : List Frame} {meth : Method} {c : Code} {b L : Nat} {xs : Nat → Int32} {D : va_G} {C : Nat → ClassId} {A : Nat → Prop} {H : Heap} {locs : List Loc} {cells slots : Nat} {Q : State → Prop} {ls : Array Slot} {L0 m0 : Nat} {i : Int32} {z : Prop} (hC : LC p s m c b L xs D C A) (hl : lv_has ls 4 [(3, .int i), (2, .ref m0), (1, .ref L0), (0, .ref b)]) (i1 : vp_in (i + 1) L) (i2 : vp_in (i + 2) L) (i3 : vp_in (i + 3) L) (i4 : vp_in (i + 4) L) (i5 : vp_in (i + 5) L) (hcs : cells ≤ 600000 ∧ slots ≤ room_1.slots) (hS : va_S A s.heap H locs) (hW : LSt z D C A L0 m0 H)  (kk : ∀ (H : Heap) (locs : List Loc), LSt False D C A L0 m0 H → va_S A s.heap H locs → W p l e room_1 s m #[Value.ref b] below meth c H locs cells slots Q (F0 m 1978 ls [])) : W p l e room_1 s m #[Value.ref b] below meth c H locs cells slots Q (F0 m 1009 ls []) := by
  obtain ⟨hx, hb, hml, hown, hw, hK, hN, hA, hX, hbl, hbA, hZ⟩ := hC
  obtain ⟨aU, aR, aR2, h_images, aS, n0, aN, y0, y1, y2, o0, aM, us, ua, rs, ra, rs2, ra2, sa, sl, ns, na, nl, y_isThere, y_taken, y_took, o_of, imf, J, im, ms, mw, ma, ml, hz, e0, hI, hJ, hP, hD⟩ := hW
  subst e0
  refine lv_aload_n hx hb dL_law_1009 rfl (lv_at hl 2 rfl) ?_
  refine lv_aload_n hx hb dL_law_1010 rfl (lv_at hl 3 rfl) ?_
  refine lv_iload_n hx hb dL_law_1011 rfl (lv_at hl 0 rfl) ?_
  refine lv_iconst (v := 1) hx hb dL_law_1012 (by decide) ?_
  refine lv_iadd hx hb dL_law_1013 ?_
  refine va_sld hx hb hX hbl hbA hS i1 dL_law_1014 ?_
  refine lv_aload_n hx hb dL_law_1015 rfl (lv_at hl 3 rfl) ?_
  refine lv_iload_n hx hb dL_law_1016 rfl (lv_at hl 0 rfl) ?_
  refine lv_iconst (v := 2) hx hb dL_law_1017 (by decide) ?_
  refine lv_iadd hx hb dL_law_1018 ?_
  refine va_sld hx hb hX hbl hbA hS i2 dL_law_1019 ?_
  refine lGoI11 (cRunV (As := [.int (xs (i + 1).toNatClampNeg), .int (xs (i + 2).toNatClampNeg)]) (rest := []) ⟨hx, hb, hml, hown, hw⟩ hK hN hP hD [0] rfl rfl (met_oneI (k_X11_worse l D C _ L0 aU aR aR2 aS n0 aN y0 y1 y2 o0 h_images us ua rs ra rs2 ra2 sa sl ns na nl y_isThere y_taken y_took o_of (xs (i + 1).toNatClampNeg) (xs (i + 2).toNatClampNeg) (q_worse hI rs2 o_of (xs (i + 1).toNatClampNeg) (xs (i + 2).toNatClampNeg)))) (cwV 2 hw (goodV mw_4_231 mw_4_232 mw_4_233 mw_1_1 mw_4_234) rfl rfl rfl (by decide +kernel) ⟨Nat.le_of_ble_eq_true rfl, Nat.le_of_ble_eq_true rfl⟩) rfl rfl rfl hl.1 rfl (Nat.le_of_ble_eq_true rfl) dL_law_1020 hcs) hP hD hS hA (fun r1 u H locs h hP hD hS => ?_)
  obtain ⟨aN1, rs21, ra21, ns1, na1, nl1, o_of1⟩ := u
  have hP : va_P D vwCl (List.flatten (lW L0 C aU aR aR2 h_images aS n0 aN1 y0 y1 y2 o0 aM us ua rs ra rs21 ra21 sa sl ns1 na1 nl1 y_isThere y_taken y_took o_of1 imf J ms mw ma ml)) H := hP
  have hD : va_D A (List.flatten (lW L0 C aU aR aR2 h_images aS n0 aN1 y0 y1 y2 o0 aM us ua rs ra rs21 ra21 sa sl ns1 na1 nl1 y_isThere y_taken y_took o_of1 imf J ms mw ma ml)) := hD
  refine lv_pop hx hb dL_law_1023 rfl ?_
  refine lv_aload_n hx hb dL_law_1024 rfl (lv_at hl 1 rfl) ?_
  refine lv_aload_n hx hb dL_law_1025 rfl (lv_at hl 3 rfl) ?_
  refine lv_iload_n hx hb dL_law_1026 rfl (lv_at hl 0 rfl) ?_
  refine lv_iconst (v := 1) hx hb dL_law_1027 (by decide) ?_
  refine lv_iadd hx hb dL_law_1028 ?_
  refine va_sld hx hb hX hbl hbA hS i1 dL_law_1029 ?_
  refine lv_aload_n hx hb dL_law_1030 rfl (lv_at hl 3 rfl) ?_
  refine lv_iload_n hx hb dL_law_1031 rfl (lv_at hl 0 rfl) ?_
  refine lv_iconst (v := 2) hx hb dL_law_1032 (by decide) ?_
  refine lv_iadd hx hb dL_law_1033 ?_
  refine va_sld hx hb hX hbl hbA hS i2 dL_law_1034 ?_
  refine lGoI12 (cRunV (As := [.int (xs (i + 1).toNatClampNeg), .int (xs (i + 2).toNatClampNeg)]) (rest := []) ⟨hx, hb, hml, hown, hw⟩ hK hN hP hD [5] rfl rfl (met_oneI (k_X12_worse l D C _ aM ms mw ma ml (xs (i + 1).toNatClampNeg) (xs (i + 2).toNatClampNeg) h)) (cwV 2 hw (goodV mw_8_143 mw_8_144 mw_8_145 mw_1_13 mw_8_146) rfl rfl rfl (by decide +kernel) ⟨Nat.le_of_ble_eq_true rfl, Nat.le_of_ble_eq_true rfl⟩) rfl rfl rfl hl.1 rfl (Nat.le_of_ble_eq_true rfl) dL_law_1035 hcs) hP hD hS hA (fun r2 u H locs h hP hD hS => ?_)
  obtain ⟨ms2, ma2, ml2⟩ := u
  have hP : va_P D vwCl (List.flatten (lW L0 C aU aR aR2 h_images aS n0 aN1 y0 y1 y2 o0 aM us ua rs ra rs21 ra21 sa sl ns1 na1 nl1 y_isThere y_taken y_took o_of1 imf J ms2 mw ma2 ml2)) H := hP
  have hD : va_D A (List.flatten (lW L0 C aU aR aR2 h_images aS n0 aN1 y0 y1 y2 o0 aM us ua rs ra rs21 ra21 sa sl ns1 na1 nl1 y_isThere y_taken y_took o_of1 imf J ms2 mw ma2 ml2)) := hD
  refine lv_pop hx hb dL_law_1038 rfl ?_
  refine lv_goto (tgt := 1978) hx hb dL_law_1039 (by decide) ?_
  obtain ⟨-, hI⟩ := h
  exact kk H locs ⟨aU, aR, aR2, h_images, aS, n0, aN1, y0, y1, y2, o0, aM, us, ua, rs, ra, rs21, ra21, sa, sl, ns1, na1, nl1, y_isThere, y_taken, y_took, o_of1, imf, J, im, ms2, mw, ma2, ml2, False.elim, rfl, hI, hJ, hP, hD⟩ hS
set_option maxHeartbeats 400000 in
set_option maxRecDepth 100000 in
theorem lc_29 {p : Program} {l : Launch} {e : Env} {s : State} {m : MethodId} {below : List Frame} {meth : Method} {c : Code} {b L : Nat} {xs : Nat → Int32} {D : va_G} {C : Nat → ClassId} {A : Nat → Prop} {H : Heap} {locs : List Loc} {cells slots : Nat} {Q : State → Prop} {ls : Array Slot} {L0 m0 : Nat} {i : Int32} {z : Prop} (hC : LC p s m c b L xs D C A) (hl : lv_has ls 4 [(3, .int i), (2, .ref m0), (1, .ref L0), (0, .ref b)]) (i1 : vp_in (i + 1) L) (i2 : vp_in (i + 2) L) (i3 : vp_in (i + 3) L) (i4 : vp_in (i + 4) L) (i5 : vp_in (i + 5) L) (hcs : cells ≤ 600000 ∧ slots ≤ room_1.slots) (hS : va_S A s.heap H locs) (hW : LSt z D C A L0 m0 H)  (kk : ∀ (H : Heap) (locs : List Loc), LSt False D C A L0 m0 H → va_S A s.heap H locs → W p l e room_1 s m #[Value.ref b] below meth c H locs cells slots Q (F0 m 1978 ls [])) : W p l e room_1 s m #[Value.ref b] below meth c H locs cells slots Q (F0 m 1042 ls []) := by
  obtain ⟨hx, hb, hml, hown, hw, hK, hN, hA, hX, hbl, hbA, hZ⟩ := hC
  obtain ⟨aU, aR, aR2, h_images, aS, n0, aN, y0, y1, y2, o0, aM, us, ua, rs, ra, rs2, ra2, sa, sl, ns, na, nl, y_isThere, y_taken, y_took, o_of, imf, J, im, ms, mw, ma, ml, hz, e0, hI, hJ, hP, hD⟩ := hW
  subst e0
  refine lv_aload_n hx hb dL_law_1042 rfl (lv_at hl 2 rfl) ?_
  refine lv_aload_n hx hb dL_law_1043 rfl (lv_at hl 3 rfl) ?_
  refine lv_iload_n hx hb dL_law_1044 rfl (lv_at hl 0 rfl) ?_
  refine lv_iconst (v := 1) hx hb dL_law_1045 (by decide) ?_
  refine lv_iadd hx hb dL_law_1046 ?_
  refine va_sld hx hb hX hbl hbA hS i1 dL_law_1047 ?_
  refine lv_aload_n hx hb dL_law_1048 rfl (lv_at hl 3 rfl) ?_
  refine lv_iload_n hx hb dL_law_1049 rfl (lv_at hl 0 rfl) ?_
  refine lv_iconst (v := 2) hx hb dL_law_1050 (by decide) ?_
  refine lv_iadd hx hb dL_law_1051 ?_
  refine va_sld hx hb hX hbl hbA hS i2 dL_law_1052 ?_
  refine lGoI11 (cRunV (As := [.int (xs (i + 1).toNatClampNeg), .int (xs (i + 2).toNatClampNeg)]) (rest := []) ⟨hx, hb, hml, hown, hw⟩ hK hN hP hD [0] rfl rfl (met_oneI (k_X11_next l D C _ L0 aU aR aR2 aS n0 aN y0 y1 y2 o0 h_images us ua rs ra rs2 ra2 sa sl ns na nl y_isThere y_taken y_took o_of (xs (i + 1).toNatClampNeg) (xs (i + 2).toNatClampNeg) (q_next hI rs2 o_of (xs (i + 1).toNatClampNeg) (xs (i + 2).toNatClampNeg)))) (cwV 2 hw (goodV mw_4_235 mw_4_236 mw_4_237 mw_1_1 mw_4_238) rfl rfl rfl (by decide +kernel) ⟨Nat.le_of_ble_eq_true rfl, Nat.le_of_ble_eq_true rfl⟩) rfl rfl rfl hl.1 rfl (Nat.le_of_ble_eq_true rfl) dL_law_1053 hcs) hP hD hS hA (fun r1 u H locs h hP hD hS => ?_)
  obtain ⟨aN1, rs21, ra21, ns1, na1, nl1, o_of1⟩ := u
  have hP : va_P D vwCl (List.flatten (lW L0 C aU aR aR2 h_images aS n0 aN1 y0 y1 y2 o0 aM us ua rs ra rs21 ra21 sa sl ns1 na1 nl1 y_isThere y_taken y_took o_of1 imf J ms mw ma ml)) H := hP
  have hD : va_D A (List.flatten (lW L0 C aU aR aR2 h_images aS n0 aN1 y0 y1 y2 o0 aM us ua rs ra rs21 ra21 sa sl ns1 na1 nl1 y_isThere y_taken y_took o_of1 imf J ms mw ma ml)) := hD
  refine lv_pop hx hb dL_law_1056 rfl ?_
  refine lv_aload_n hx hb dL_law_1057 rfl (lv_at hl 1 rfl) ?_
  refine lv_aload_n hx hb dL_law_1058 rfl (lv_at hl 3 rfl) ?_
  refine lv_iload_n hx hb dL_law_1059 rfl (lv_at hl 0 rfl) ?_
  refine lv_iconst (v := 1) hx hb dL_law_1060 (by decide) ?_
  refine lv_iadd hx hb dL_law_1061 ?_
  refine va_sld hx hb hX hbl hbA hS i1 dL_law_1062 ?_
  refine lv_aload_n hx hb dL_law_1063 rfl (lv_at hl 3 rfl) ?_
  refine lv_iload_n hx hb dL_law_1064 rfl (lv_at hl 0 rfl) ?_
  refine lv_iconst (v := 2) hx hb dL_law_1065 (by decide) ?_
  refine lv_iadd hx hb dL_law_1066 ?_
  refine va_sld hx hb hX hbl hbA hS i2 dL_law_1067 ?_
  refine lGoI12 (cRunV (As := [.int (xs (i + 1).toNatClampNeg), .int (xs (i + 2).toNatClampNeg)]) (rest := []) ⟨hx, hb, hml, hown, hw⟩ hK hN hP hD [5] rfl rfl (met_oneI (k_X12_next_ l D C _ aM ms mw ma ml (xs (i + 1).toNatClampNeg) (xs (i + 2).toNatClampNeg) h)) (cwV 2 hw (goodV mw_8_147 mw_8_148 mw_8_149 mw_1_13 mw_8_150) rfl rfl rfl (by decide +kernel) ⟨Nat.le_of_ble_eq_true rfl, Nat.le_of_ble_eq_true rfl⟩) rfl rfl rfl hl.1 rfl (Nat.le_of_ble_eq_true rfl) dL_law_1068 hcs) hP hD hS hA (fun r2 u H locs h hP hD hS => ?_)
  obtain ⟨ms2, ma2, ml2⟩ := u
  have hP : va_P D vwCl (List.flatten (lW L0 C aU aR aR2 h_images aS n0 aN1 y0 y1 y2 o0 aM us ua rs ra rs21 ra21 sa sl ns1 na1 nl1 y_isThere y_taken y_took o_of1 imf J ms2 mw ma2 ml2)) H := hP
  have hD : va_D A (List.flatten (lW L0 C aU aR aR2 h_images aS n0 aN1 y0 y1 y2 o0 aM us ua rs ra rs21 ra21 sa sl ns1 na1 nl1 y_isThere y_taken y_took o_of1 imf J ms2 mw ma2 ml2)) := hD
  refine lv_pop hx hb dL_law_1071 rfl ?_
  refine lv_goto (tgt := 1978) hx hb dL_law_1072 (by decide) ?_
  obtain ⟨-, hI⟩ := h
  exact kk H locs ⟨aU, aR, aR2, h_images, aS, n0, aN1, y0, y1, y2, o0, aM, us, ua, rs, ra, rs21, ra21, sa, sl, ns1, na1, nl1, y_isThere, y_taken, y_took, o_of1, imf, J, im, ms2, mw, ma2, ml2, False.elim, rfl, hI, hJ, hP, hD⟩ hS
set_option maxHeartbeats 400000 in
set_option maxRecDepth 100000 in
theorem lc_30 {p : Program} {l : Launch} {e : Env} {s : State} {m : MethodId} {below : List Frame} {meth : Method} {c : Code} {b L : Nat} {xs : Nat → Int32} {D : va_G} {C : Nat → ClassId} {A : Nat → Prop} {H : Heap} {locs : List Loc} {cells slots : Nat} {Q : State → Prop} {ls : Array Slot} {L0 m0 : Nat} {i : Int32} {z : Prop} (hC : LC p s m c b L xs D C A) (hl : lv_has ls 4 [(3, .int i), (2, .ref m0), (1, .ref L0), (0, .ref b)]) (i1 : vp_in (i + 1) L) (i2 : vp_in (i + 2) L) (i3 : vp_in (i + 3) L) (i4 : vp_in (i + 4) L) (i5 : vp_in (i + 5) L) (hcs : cells ≤ 600000 ∧ slots ≤ room_1.slots) (hS : va_S A s.heap H locs) (hW : LSt z D C A L0 m0 H)  (kk : ∀ (H : Heap) (locs : List Loc), LSt False D C A L0 m0 H → va_S A s.heap H locs → W p l e room_1 s m #[Value.ref b] below meth c H locs cells slots Q (F0 m 1978 ls [])) : W p l e room_1 s m #[Value.ref b] below meth c H locs cells slots Q (F0 m 1075 ls []) := by
  obtain ⟨hx, hb, hml, hown, hw, hK, hN, hA, hX, hbl, hbA, hZ⟩ := hC
  obtain ⟨aU, aR, aR2, h_images, aS, n0, aN, y0, y1, y2, o0, aM, us, ua, rs, ra, rs2, ra2, sa, sl, ns, na, nl, y_isThere, y_taken, y_took, o_of, imf, J, im, ms, mw, ma, ml, hz, e0, hI, hJ, hP, hD⟩ := hW
  subst e0
  refine lv_aload_n hx hb dL_law_1075 rfl (lv_at hl 2 rfl) ?_
  refine lv_aload_n hx hb dL_law_1076 rfl (lv_at hl 3 rfl) ?_
  refine lv_iload_n hx hb dL_law_1077 rfl (lv_at hl 0 rfl) ?_
  refine lv_iconst (v := 1) hx hb dL_law_1078 (by decide) ?_
  refine lv_iadd hx hb dL_law_1079 ?_
  refine va_sld hx hb hX hbl hbA hS i1 dL_law_1080 ?_
  refine lv_aload_n hx hb dL_law_1081 rfl (lv_at hl 3 rfl) ?_
  refine lv_iload_n hx hb dL_law_1082 rfl (lv_at hl 0 rfl) ?_
  refine lv_iconst (v := 2) hx hb dL_law_1083 (by decide) ?_
  refine lv_iadd hx hb dL_law_1084 ?_
  refine va_sld hx hb hX hbl hbA hS i2 dL_law_1085 ?_
  refine lGoI11 (cRunV (As := [.int (xs (i + 1).toNatClampNeg), .int (xs (i + 2).toNatClampNeg)]) (rest := []) ⟨hx, hb, hml, hown, hw⟩ hK hN hP hD [0] rfl rfl (met_oneI (k_X11_move l D C _ L0 aU aR aR2 aS n0 aN y0 y1 y2 o0 h_images us ua rs ra rs2 ra2 sa sl ns na nl y_isThere y_taken y_took o_of (xs (i + 1).toNatClampNeg) (xs (i + 2).toNatClampNeg) (q_move hI (xs (i + 1).toNatClampNeg) (xs (i + 2).toNatClampNeg)))) (cwV 2 hw (goodV mw_4_239 mw_5_0 mw_5_1 mw_1_1 mw_5_2) rfl rfl rfl (by decide +kernel) ⟨Nat.le_of_ble_eq_true rfl, Nat.le_of_ble_eq_true rfl⟩) rfl rfl rfl hl.1 rfl (Nat.le_of_ble_eq_true rfl) dL_law_1086 hcs) hP hD hS hA (fun r1 ra1 H locs h hP hD hS => ?_)
  have hP : va_P D vwCl (List.flatten (lW L0 C aU aR aR2 h_images aS n0 aN y0 y1 y2 o0 aM us ua rs ra1 rs2 ra2 sa sl ns na nl y_isThere y_taken y_took o_of imf J ms mw ma ml)) H := hP
  have hD : va_D A (List.flatten (lW L0 C aU aR aR2 h_images aS n0 aN y0 y1 y2 o0 aM us ua rs ra1 rs2 ra2 sa sl ns na nl y_isThere y_taken y_took o_of imf J ms mw ma ml)) := hD
  refine lv_pop hx hb dL_law_1089 rfl ?_
  refine lv_aload_n hx hb dL_law_1090 rfl (lv_at hl 1 rfl) ?_
  refine lv_aload_n hx hb dL_law_1091 rfl (lv_at hl 3 rfl) ?_
  refine lv_iload_n hx hb dL_law_1092 rfl (lv_at hl 0 rfl) ?_
  refine lv_iconst (v := 1) hx hb dL_law_1093 (by decide) ?_
  refine lv_iadd hx hb dL_law_1094 ?_
  refine va_sld hx hb hX hbl hbA hS i1 dL_law_1095 ?_
  refine lv_aload_n hx hb dL_law_1096 rfl (lv_at hl 3 rfl) ?_
  refine lv_iload_n hx hb dL_law_1097 rfl (lv_at hl 0 rfl) ?_
  refine lv_iconst (v := 2) hx hb dL_law_1098 (by decide) ?_
  refine lv_iadd hx hb dL_law_1099 ?_
  refine va_sld hx hb hX hbl hbA hS i2 dL_law_1100 ?_
  refine lGoI12 (cRunV (As := [.int (xs (i + 1).toNatClampNeg), .int (xs (i + 2).toNatClampNeg)]) (rest := []) ⟨hx, hb, hml, hown, hw⟩ hK hN hP hD [5] rfl rfl (met_oneI (k_X12_move l D C _ aM ms mw ma ml (xs (i + 1).toNatClampNeg) (xs (i + 2).toNatClampNeg) h)) (cwV 2 hw (goodV mw_8_151 mw_8_152 mw_8_153 mw_1_13 mw_8_154) rfl rfl rfl (by decide +kernel) ⟨Nat.le_of_ble_eq_true rfl, Nat.le_of_ble_eq_true rfl⟩) rfl rfl rfl hl.1 rfl (Nat.le_of_ble_eq_true rfl) dL_law_1101 hcs) hP hD hS hA (fun r2 u H locs h hP hD hS => ?_)
  obtain ⟨ms2, ma2⟩ := u
  have hP : va_P D vwCl (List.flatten (lW L0 C aU aR aR2 h_images aS n0 aN y0 y1 y2 o0 aM us ua rs ra1 rs2 ra2 sa sl ns na nl y_isThere y_taken y_took o_of imf J ms2 mw ma2 ml)) H := hP
  have hD : va_D A (List.flatten (lW L0 C aU aR aR2 h_images aS n0 aN y0 y1 y2 o0 aM us ua rs ra1 rs2 ra2 sa sl ns na nl y_isThere y_taken y_took o_of imf J ms2 mw ma2 ml)) := hD
  refine lv_pop hx hb dL_law_1104 rfl ?_
  refine lv_goto (tgt := 1978) hx hb dL_law_1105 (by decide) ?_
  obtain ⟨-, hI⟩ := h
  exact kk H locs ⟨aU, aR, aR2, h_images, aS, n0, aN, y0, y1, y2, o0, aM, us, ua, rs, ra1, rs2, ra2, sa, sl, ns, na, nl, y_isThere, y_taken, y_took, o_of, imf, J, im, ms2, mw, ma2, ml, False.elim, rfl, hI, hJ, hP, hD⟩ hS
set_option maxHeartbeats 400000 in
set_option maxRecDepth 100000 in
theorem lc_31 {p : Program} {l : Launch} {e : Env} {s : State} {m : MethodId} {below : List Frame} {meth : Method} {c : Code} {b L : Nat} {xs : Nat → Int32} {D : va_G} {C : Nat → ClassId} {A : Nat → Prop} {H : Heap} {locs : List Loc} {cells slots : Nat} {Q : State → Prop} {ls : Array Slot} {L0 m0 : Nat} {i : Int32} {z : Prop} (hC : LC p s m c b L xs D C A) (hl : lv_has ls 4 [(3, .int i), (2, .ref m0), (1, .ref L0), (0, .ref b)]) (i1 : vp_in (i + 1) L) (i2 : vp_in (i + 2) L) (i3 : vp_in (i + 3) L) (i4 : vp_in (i + 4) L) (i5 : vp_in (i + 5) L) (hcs : cells ≤ 600000 ∧ slots ≤ room_1.slots) (hS : va_S A s.heap H locs) (hW : LSt z D C A L0 m0 H)  (kk : ∀ (H : Heap) (locs : List Loc), LSt False D C A L0 m0 H → va_S A s.heap H locs → W p l e room_1 s m #[Value.ref b] below meth c H locs cells slots Q (F0 m 1978 ls [])) : W p l e room_1 s m #[Value.ref b] below meth c H locs cells slots Q (F0 m 1108 ls []) := by
  obtain ⟨hx, hb, hml, hown, hw, hK, hN, hA, hX, hbl, hbA, hZ⟩ := hC
  obtain ⟨aU, aR, aR2, h_images, aS, n0, aN, y0, y1, y2, o0, aM, us, ua, rs, ra, rs2, ra2, sa, sl, ns, na, nl, y_isThere, y_taken, y_took, o_of, imf, J, im, ms, mw, ma, ml, hz, e0, hI, hJ, hP, hD⟩ := hW
  subst e0
  refine lv_aload_n hx hb dL_law_1108 rfl (lv_at hl 2 rfl) ?_
  refine lv_aload_n hx hb dL_law_1109 rfl (lv_at hl 3 rfl) ?_
  refine lv_iload_n hx hb dL_law_1110 rfl (lv_at hl 0 rfl) ?_
  refine lv_iconst (v := 1) hx hb dL_law_1111 (by decide) ?_
  refine lv_iadd hx hb dL_law_1112 ?_
  refine va_sld hx hb hX hbl hbA hS i1 dL_law_1113 ?_
  refine lv_aload_n hx hb dL_law_1114 rfl (lv_at hl 3 rfl) ?_
  refine lv_iload_n hx hb dL_law_1115 rfl (lv_at hl 0 rfl) ?_
  refine lv_iconst (v := 2) hx hb dL_law_1116 (by decide) ?_
  refine lv_iadd hx hb dL_law_1117 ?_
  refine va_sld hx hb hX hbl hbA hS i2 dL_law_1118 ?_
  refine lGoI11 (cRunV (As := [.int (xs (i + 1).toNatClampNeg), .int (xs (i + 2).toNatClampNeg)]) (rest := []) ⟨hx, hb, hml, hown, hw⟩ hK hN hP hD [0] rfl rfl (met_oneI (k_X11_swap l D C _ L0 aU aR aR2 aS n0 aN y0 y1 y2 o0 h_images us ua rs ra rs2 ra2 sa sl ns na nl y_isThere y_taken y_took o_of (xs (i + 1).toNatClampNeg) (xs (i + 2).toNatClampNeg) (q_swap hI (xs (i + 1).toNatClampNeg) (xs (i + 2).toNatClampNeg)))) (cwV 2 hw (goodV mw_5_4 mw_5_5 mw_5_6 mw_1_1 mw_5_7) rfl rfl rfl (by decide +kernel) ⟨Nat.le_of_ble_eq_true rfl, Nat.le_of_ble_eq_true rfl⟩) rfl rfl rfl hl.1 rfl (Nat.le_of_ble_eq_true rfl) dL_law_1119 hcs) hP hD hS hA (fun r1 u H locs h hP hD hS => ?_)
  obtain ⟨aN1, ra1, ns1, na1, nl1⟩ := u
  have hP : va_P D vwCl (List.flatten (lW L0 C aU aR aR2 h_images aS n0 aN1 y0 y1 y2 o0 aM us ua rs ra1 rs2 ra2 sa sl ns1 na1 nl1 y_isThere y_taken y_took o_of imf J ms mw ma ml)) H := hP
  have hD : va_D A (List.flatten (lW L0 C aU aR aR2 h_images aS n0 aN1 y0 y1 y2 o0 aM us ua rs ra1 rs2 ra2 sa sl ns1 na1 nl1 y_isThere y_taken y_took o_of imf J ms mw ma ml)) := hD
  refine lv_pop hx hb dL_law_1122 rfl ?_
  refine lv_aload_n hx hb dL_law_1123 rfl (lv_at hl 1 rfl) ?_
  refine lv_aload_n hx hb dL_law_1124 rfl (lv_at hl 3 rfl) ?_
  refine lv_iload_n hx hb dL_law_1125 rfl (lv_at hl 0 rfl) ?_
  refine lv_iconst (v := 1) hx hb dL_law_1126 (by decide) ?_
  refine lv_iadd hx hb dL_law_1127 ?_
  refine va_sld hx hb hX hbl hbA hS i1 dL_law_1128 ?_
  refine lv_aload_n hx hb dL_law_1129 rfl (lv_at hl 3 rfl) ?_
  refine lv_iload_n hx hb dL_law_1130 rfl (lv_at hl 0 rfl) ?_
  refine lv_iconst (v := 2) hx hb dL_law_1131 (by decide) ?_
  refine lv_iadd hx hb dL_law_1132 ?_
  refine va_sld hx hb hX hbl hbA hS i2 dL_law_1133 ?_
  refine lGoI12 (cRunV (As := [.int (xs (i + 1).toNatClampNeg), .int (xs (i + 2).toNatClampNeg)]) (rest := []) ⟨hx, hb, hml, hown, hw⟩ hK hN hP hD [5] rfl rfl (met_oneI (k_X12_swap l D C _ aM ms mw ma ml (xs (i + 1).toNatClampNeg) (xs (i + 2).toNatClampNeg) h)) (cwV 2 hw (goodV mw_8_159 mw_8_160 mw_8_161 mw_1_13 mw_8_162) rfl rfl rfl (by decide +kernel) ⟨Nat.le_of_ble_eq_true rfl, Nat.le_of_ble_eq_true rfl⟩) rfl rfl rfl hl.1 rfl (Nat.le_of_ble_eq_true rfl) dL_law_1134 hcs) hP hD hS hA (fun r2 u H locs h hP hD hS => ?_)
  obtain ⟨ms2, ma2, ml2⟩ := u
  have hP : va_P D vwCl (List.flatten (lW L0 C aU aR aR2 h_images aS n0 aN1 y0 y1 y2 o0 aM us ua rs ra1 rs2 ra2 sa sl ns1 na1 nl1 y_isThere y_taken y_took o_of imf J ms2 mw ma2 ml2)) H := hP
  have hD : va_D A (List.flatten (lW L0 C aU aR aR2 h_images aS n0 aN1 y0 y1 y2 o0 aM us ua rs ra1 rs2 ra2 sa sl ns1 na1 nl1 y_isThere y_taken y_took o_of imf J ms2 mw ma2 ml2)) := hD
  refine lv_pop hx hb dL_law_1137 rfl ?_
  refine lv_goto (tgt := 1978) hx hb dL_law_1138 (by decide) ?_
  obtain ⟨-, hI⟩ := h
  exact kk H locs ⟨aU, aR, aR2, h_images, aS, n0, aN1, y0, y1, y2, o0, aM, us, ua, rs, ra1, rs2, ra2, sa, sl, ns1, na1, nl1, y_isThere, y_taken, y_took, o_of, imf, J, im, ms2, mw, ma2, ml2, False.elim, rfl, hI, hJ, hP, hD⟩ hS
set_option maxHeartbeats 400000 in
set_option maxRecDepth 100000 in
theorem lc_32 {p : Program} {l : Launch} {e : Env} {s : State} {m : MethodId} {below : List Frame} {meth : Method} {c : Code} {b L : Nat} {xs : Nat → Int32} {D : va_G} {C : Nat → ClassId} {A : Nat → Prop} {H : Heap} {locs : List Loc} {cells slots : Nat} {Q : State → Prop} {ls : Array Slot} {L0 m0 : Nat} {i : Int32} {z : Prop} (hC : LC p s m c b L xs D C A) (hl : lv_has ls 4 [(3, .int i), (2, .ref m0), (1, .ref L0), (0, .ref b)]) (i1 : vp_in (i + 1) L) (i2 : vp_in (i + 2) L) (i3 : vp_in (i + 3) L) (i4 : vp_in (i + 4) L) (i5 : vp_in (i + 5) L) (hcs : cells ≤ 600000 ∧ slots ≤ room_1.slots) (hS : va_S A s.heap H locs) (hW : LSt z D C A L0 m0 H)  (kk : ∀ (H : Heap) (locs : List Loc), LSt False D C A L0 m0 H → va_S A s.heap H locs → W p l e room_1 s m #[Value.ref b] below meth c H locs cells slots Q (F0 m 1978 ls [])) : W p l e room_1 s m #[Value.ref b] below meth c H locs cells slots Q (F0 m 1141 ls []) := by
  obtain ⟨hx, hb, hml, hown, hw, hK, hN, hA, hX, hbl, hbA, hZ⟩ := hC
  obtain ⟨aU, aR, aR2, h_images, aS, n0, aN, y0, y1, y2, o0, aM, us, ua, rs, ra, rs2, ra2, sa, sl, ns, na, nl, y_isThere, y_taken, y_took, o_of, imf, J, im, ms, mw, ma, ml, hz, e0, hI, hJ, hP, hD⟩ := hW
  subst e0
  refine lv_aload_n hx hb dL_law_1141 rfl (lv_at hl 2 rfl) ?_
  refine lv_aload_n hx hb dL_law_1142 rfl (lv_at hl 3 rfl) ?_
  refine lv_iload_n hx hb dL_law_1143 rfl (lv_at hl 0 rfl) ?_
  refine lv_iconst (v := 1) hx hb dL_law_1144 (by decide) ?_
  refine lv_iadd hx hb dL_law_1145 ?_
  refine va_sld hx hb hX hbl hbA hS i1 dL_law_1146 ?_
  refine lGoI11 (cRunV (As := [.int (xs (i + 1).toNatClampNeg)]) (rest := []) ⟨hx, hb, hml, hown, hw⟩ hK hN hP hD [0] rfl rfl (met_oneI (k_X11_where l D C _ L0 aU aR aR2 aS n0 aN y0 y1 y2 o0 h_images us ua rs ra rs2 ra2 sa sl ns na nl y_isThere y_taken y_took o_of (xs (i + 1).toNatClampNeg) (q_where hI rs2 (xs (i + 1).toNatClampNeg)))) (cwV 1 hw (goodV mw_5_8 mw_5_9 mw_5_10 mw_1_1 mw_5_11) rfl rfl rfl (by decide +kernel) ⟨Nat.le_of_ble_eq_true rfl, Nat.le_of_ble_eq_true rfl⟩) rfl rfl rfl hl.1 rfl (Nat.le_of_ble_eq_true rfl) dL_law_1147 hcs) hP hD hS hA (fun r1 u H locs h hP hD hS => ?_)
  obtain ⟨aN1, rs21, ra21, ns1, na1, nl1⟩ := u
  have hP : va_P D vwCl (List.flatten (lW L0 C aU aR aR2 h_images aS n0 aN1 y0 y1 y2 o0 aM us ua rs ra rs21 ra21 sa sl ns1 na1 nl1 y_isThere y_taken y_took o_of imf J ms mw ma ml)) H := hP
  have hD : va_D A (List.flatten (lW L0 C aU aR aR2 h_images aS n0 aN1 y0 y1 y2 o0 aM us ua rs ra rs21 ra21 sa sl ns1 na1 nl1 y_isThere y_taken y_took o_of imf J ms mw ma ml)) := hD
  refine lv_pop hx hb dL_law_1150 rfl ?_
  refine lv_aload_n hx hb dL_law_1151 rfl (lv_at hl 1 rfl) ?_
  refine lv_aload_n hx hb dL_law_1152 rfl (lv_at hl 3 rfl) ?_
  refine lv_iload_n hx hb dL_law_1153 rfl (lv_at hl 0 rfl) ?_
  refine lv_iconst (v := 1) hx hb dL_law_1154 (by decide) ?_
  refine lv_iadd hx hb dL_law_1155 ?_
  refine va_sld hx hb hX hbl hbA hS i1 dL_law_1156 ?_
  refine lGoI12 (cRunV (As := [.int (xs (i + 1).toNatClampNeg)]) (rest := []) ⟨hx, hb, hml, hown, hw⟩ hK hN hP hD [5] rfl rfl (met_oneI (k_X12_where l D C _ aM ms mw ma ml (xs (i + 1).toNatClampNeg) h)) (cwV 1 hw (goodV mw_8_163 mw_8_164 mw_8_165 mw_1_13 mw_8_166) rfl rfl rfl (by decide +kernel) ⟨Nat.le_of_ble_eq_true rfl, Nat.le_of_ble_eq_true rfl⟩) rfl rfl rfl hl.1 rfl (Nat.le_of_ble_eq_true rfl) dL_law_1157 hcs) hP hD hS hA (fun r2 u H locs h hP hD hS => ?_)
  obtain ⟨ms2, ma2, ml2⟩ := u
  have hP : va_P D vwCl (List.flatten (lW L0 C aU aR aR2 h_images aS n0 aN1 y0 y1 y2 o0 aM us ua rs ra rs21 ra21 sa sl ns1 na1 nl1 y_isThere y_taken y_took o_of imf J ms2 mw ma2 ml2)) H := hP
  have hD : va_D A (List.flatten (lW L0 C aU aR aR2 h_images aS n0 aN1 y0 y1 y2 o0 aM us ua rs ra rs21 ra21 sa sl ns1 na1 nl1 y_isThere y_taken y_took o_of imf J ms2 mw ma2 ml2)) := hD
  refine lv_pop hx hb dL_law_1160 rfl ?_
  refine lv_goto (tgt := 1978) hx hb dL_law_1161 (by decide) ?_
  obtain ⟨-, hI⟩ := h
  exact kk H locs ⟨aU, aR, aR2, h_images, aS, n0, aN1, y0, y1, y2, o0, aM, us, ua, rs, ra, rs21, ra21, sa, sl, ns1, na1, nl1, y_isThere, y_taken, y_took, o_of, imf, J, im, ms2, mw, ma2, ml2, False.elim, rfl, hI, hJ, hP, hD⟩ hS
set_option maxHeartbeats 400000 in
set_option maxRecDepth 100000 in
theorem lc_33 {p : Program} {l : Launch} {e : Env} {s : State} {m : MethodId} {below : List Frame} {meth : Method} {c : Code} {b L : Nat} {xs : Nat → Int32} {D : va_G} {C : Nat → ClassId} {A : Nat → Prop} {H : Heap} {locs : List Loc} {cells slots : Nat} {Q : State → Prop} {ls : Array Slot} {L0 m0 : Nat} {i : Int32} {z : Prop} (hC : LC p s m c b L xs D C A) (hl : lv_has ls 4 [(3, .int i), (2, .ref m0), (1, .ref L0), (0, .ref b)]) (i1 : vp_in (i + 1) L) (i2 : vp_in (i + 2) L) (i3 : vp_in (i + 3) L) (i4 : vp_in (i + 4) L) (i5 : vp_in (i + 5) L) (hcs : cells ≤ 600000 ∧ slots ≤ room_1.slots) (hS : va_S A s.heap H locs) (hW : LSt z D C A L0 m0 H)  (kk : ∀ (H : Heap) (locs : List Loc), LSt False D C A L0 m0 H → va_S A s.heap H locs → W p l e room_1 s m #[Value.ref b] below meth c H locs cells slots Q (F0 m 1978 ls [])) : W p l e room_1 s m #[Value.ref b] below meth c H locs cells slots Q (F0 m 1164 ls []) := by
  obtain ⟨hx, hb, hml, hown, hw, hK, hN, hA, hX, hbl, hbA, hZ⟩ := hC
  obtain ⟨aU, aR, aR2, h_images, aS, n0, aN, y0, y1, y2, o0, aM, us, ua, rs, ra, rs2, ra2, sa, sl, ns, na, nl, y_isThere, y_taken, y_took, o_of, imf, J, im, ms, mw, ma, ml, hz, e0, hI, hJ, hP, hD⟩ := hW
  subst e0
  refine lv_aload_n hx hb dL_law_1164 rfl (lv_at hl 2 rfl) ?_
  refine lv_aload_n hx hb dL_law_1165 rfl (lv_at hl 3 rfl) ?_
  refine lv_iload_n hx hb dL_law_1166 rfl (lv_at hl 0 rfl) ?_
  refine lv_iconst (v := 1) hx hb dL_law_1167 (by decide) ?_
  refine lv_iadd hx hb dL_law_1168 ?_
  refine va_sld hx hb hX hbl hbA hS i1 dL_law_1169 ?_
  refine lGoI11 (cRunV (As := [.int (xs (i + 1).toNatClampNeg)]) (rest := []) ⟨hx, hb, hml, hown, hw⟩ hK hN hP hD [0] rfl rfl (met_oneI (k_X11_lamp l D C _ L0 aU aR aR2 aS n0 aN y0 y1 y2 o0 h_images us ua rs ra rs2 ra2 sa sl ns na nl y_isThere y_taken y_took o_of (xs (i + 1).toNatClampNeg) (q_lamp hI rs2 (xs (i + 1).toNatClampNeg)))) (cwV 1 hw (goodV mw_5_12 mw_5_13 mw_5_14 mw_1_1 mw_5_15) rfl rfl rfl (by decide +kernel) ⟨Nat.le_of_ble_eq_true rfl, Nat.le_of_ble_eq_true rfl⟩) rfl rfl rfl hl.1 rfl (Nat.le_of_ble_eq_true rfl) dL_law_1170 hcs) hP hD hS hA (fun r1 u H locs h hP hD hS => ?_)
  obtain ⟨aN1, rs21, ra21, ns1, na1, nl1⟩ := u
  have hP : va_P D vwCl (List.flatten (lW L0 C aU aR aR2 h_images aS n0 aN1 y0 y1 y2 o0 aM us ua rs ra rs21 ra21 sa sl ns1 na1 nl1 y_isThere y_taken y_took o_of imf J ms mw ma ml)) H := hP
  have hD : va_D A (List.flatten (lW L0 C aU aR aR2 h_images aS n0 aN1 y0 y1 y2 o0 aM us ua rs ra rs21 ra21 sa sl ns1 na1 nl1 y_isThere y_taken y_took o_of imf J ms mw ma ml)) := hD
  refine lv_pop hx hb dL_law_1173 rfl ?_
  refine lv_aload_n hx hb dL_law_1174 rfl (lv_at hl 1 rfl) ?_
  refine lv_aload_n hx hb dL_law_1175 rfl (lv_at hl 3 rfl) ?_
  refine lv_iload_n hx hb dL_law_1176 rfl (lv_at hl 0 rfl) ?_
  refine lv_iconst (v := 1) hx hb dL_law_1177 (by decide) ?_
  refine lv_iadd hx hb dL_law_1178 ?_
  refine va_sld hx hb hX hbl hbA hS i1 dL_law_1179 ?_
  refine lGoI12 (cRunV (As := [.int (xs (i + 1).toNatClampNeg)]) (rest := []) ⟨hx, hb, hml, hown, hw⟩ hK hN hP hD [5] rfl rfl (met_oneI (k_X12_lamp l D C _ aM ms mw ma ml (xs (i + 1).toNatClampNeg) h)) (cwV 1 hw (goodV mw_8_167 mw_8_168 mw_8_169 mw_1_13 mw_8_170) rfl rfl rfl (by decide +kernel) ⟨Nat.le_of_ble_eq_true rfl, Nat.le_of_ble_eq_true rfl⟩) rfl rfl rfl hl.1 rfl (Nat.le_of_ble_eq_true rfl) dL_law_1180 hcs) hP hD hS hA (fun r2 u H locs h hP hD hS => ?_)
  obtain ⟨ms2, ma2, ml2⟩ := u
  have hP : va_P D vwCl (List.flatten (lW L0 C aU aR aR2 h_images aS n0 aN1 y0 y1 y2 o0 aM us ua rs ra rs21 ra21 sa sl ns1 na1 nl1 y_isThere y_taken y_took o_of imf J ms2 mw ma2 ml2)) H := hP
  have hD : va_D A (List.flatten (lW L0 C aU aR aR2 h_images aS n0 aN1 y0 y1 y2 o0 aM us ua rs ra rs21 ra21 sa sl ns1 na1 nl1 y_isThere y_taken y_took o_of imf J ms2 mw ma2 ml2)) := hD
  refine lv_pop hx hb dL_law_1183 rfl ?_
  refine lv_goto (tgt := 1978) hx hb dL_law_1184 (by decide) ?_
  obtain ⟨-, hI⟩ := h
  exact kk H locs ⟨aU, aR, aR2, h_images, aS, n0, aN1, y0, y1, y2, o0, aM, us, ua, rs, ra, rs21, ra21, sa, sl, ns1, na1, nl1, y_isThere, y_taken, y_took, o_of, imf, J, im, ms2, mw, ma2, ml2, False.elim, rfl, hI, hJ, hP, hD⟩ hS
set_option maxHeartbeats 400000 in
set_option maxRecDepth 100000 in
theorem lc_34 {p : Program} {l : Launch} {e : Env} {s : State} {m : MethodId} {below : List Frame} {meth : Method} {c : Code} {b L : Nat} {xs : Nat → Int32} {D : va_G} {C : Nat → ClassId} {A : Nat → Prop} {H : Heap} {locs : List Loc} {cells slots : Nat} {Q : State → Prop} {ls : Array Slot} {L0 m0 : Nat} {i : Int32} {z : Prop} (hC : LC p s m c b L xs D C A) (hl : lv_has ls 4 [(3, .int i), (2, .ref m0), (1, .ref L0), (0, .ref b)]) (i1 : vp_in (i + 1) L) (i2 : vp_in (i + 2) L) (i3 : vp_in (i + 3) L) (i4 : vp_in (i + 4) L) (i5 : vp_in (i + 5) L) (hcs : cells ≤ 600000 ∧ slots ≤ room_1.slots) (hS : va_S A s.heap H locs) (hW : LSt z D C A L0 m0 H)  (kk : ∀ (H : Heap) (locs : List Loc), LSt False D C A L0 m0 H → va_S A s.heap H locs → W p l e room_1 s m #[Value.ref b] below meth c H locs cells slots Q (F0 m 1978 ls [])) : W p l e room_1 s m #[Value.ref b] below meth c H locs cells slots Q (F0 m 1187 ls []) := by
  obtain ⟨hx, hb, hml, hown, hw, hK, hN, hA, hX, hbl, hbA, hZ⟩ := hC
  obtain ⟨aU, aR, aR2, h_images, aS, n0, aN, y0, y1, y2, o0, aM, us, ua, rs, ra, rs2, ra2, sa, sl, ns, na, nl, y_isThere, y_taken, y_took, o_of, imf, J, im, ms, mw, ma, ml, hz, e0, hI, hJ, hP, hD⟩ := hW
  subst e0
  refine lv_aload_n hx hb dL_law_1187 rfl (lv_at hl 2 rfl) ?_
  refine lv_aload_n hx hb dL_law_1188 rfl (lv_at hl 3 rfl) ?_
  refine lv_iload_n hx hb dL_law_1189 rfl (lv_at hl 0 rfl) ?_
  refine lv_iconst (v := 1) hx hb dL_law_1190 (by decide) ?_
  refine lv_iadd hx hb dL_law_1191 ?_
  refine va_sld hx hb hX hbl hbA hS i1 dL_law_1192 ?_
  refine lv_aload_n hx hb dL_law_1193 rfl (lv_at hl 3 rfl) ?_
  refine lv_iload_n hx hb dL_law_1194 rfl (lv_at hl 0 rfl) ?_
  refine lv_iconst (v := 2) hx hb dL_law_1195 (by decide) ?_
  refine lv_iadd hx hb dL_law_1196 ?_
  refine va_sld hx hb hX hbl hbA hS i2 dL_law_1197 ?_
  refine lGoL11 (cRunV (As := [.int (xs (i + 1).toNatClampNeg), .int (xs (i + 2).toNatClampNeg)]) (rest := []) ⟨hx, hb, hml, hown, hw⟩ hK hN hP hD [0] rfl rfl (met_oneL (k_X11_lit l D C _ L0 aU aR aR2 aS n0 aN y0 y1 y2 o0 h_images us ua rs ra rs2 ra2 sa sl ns na nl y_isThere y_taken y_took o_of (xs (i + 1).toNatClampNeg) (xs (i + 2).toNatClampNeg) (q_lit hI rs2 (xs (i + 1).toNatClampNeg) (xs (i + 2).toNatClampNeg)))) (cwV 2 hw (goodV mw_5_24 mw_5_25 mw_5_26 mw_1_1 mw_5_27) rfl rfl rfl (by decide +kernel) ⟨Nat.le_of_ble_eq_true rfl, Nat.le_of_ble_eq_true rfl⟩) rfl rfl rfl hl.1 rfl (Nat.le_of_ble_eq_true rfl) dL_law_1198 hcs) hP hD hS hA (fun r1 u H locs h hP hD hS => ?_)
  obtain ⟨aN1, rs21, ra21, ns1, na1, nl1⟩ := u
  have hP : va_P D vwCl (List.flatten (lW L0 C aU aR aR2 h_images aS n0 aN1 y0 y1 y2 o0 aM us ua rs ra rs21 ra21 sa sl ns1 na1 nl1 y_isThere y_taken y_took o_of imf J ms mw ma ml)) H := hP
  have hD : va_D A (List.flatten (lW L0 C aU aR aR2 h_images aS n0 aN1 y0 y1 y2 o0 aM us ua rs ra rs21 ra21 sa sl ns1 na1 nl1 y_isThere y_taken y_took o_of imf J ms mw ma ml)) := hD
  refine lv_pop2_2 hx hb dL_law_1201 rfl ?_
  refine lv_aload_n hx hb dL_law_1202 rfl (lv_at hl 1 rfl) ?_
  refine lv_aload_n hx hb dL_law_1203 rfl (lv_at hl 3 rfl) ?_
  refine lv_iload_n hx hb dL_law_1204 rfl (lv_at hl 0 rfl) ?_
  refine lv_iconst (v := 1) hx hb dL_law_1205 (by decide) ?_
  refine lv_iadd hx hb dL_law_1206 ?_
  refine va_sld hx hb hX hbl hbA hS i1 dL_law_1207 ?_
  refine lv_aload_n hx hb dL_law_1208 rfl (lv_at hl 3 rfl) ?_
  refine lv_iload_n hx hb dL_law_1209 rfl (lv_at hl 0 rfl) ?_
  refine lv_iconst (v := 2) hx hb dL_law_1210 (by decide) ?_
  refine lv_iadd hx hb dL_law_1211 ?_
  refine va_sld hx hb hX hbl hbA hS i2 dL_law_1212 ?_
  refine lGoL12 (cRunV (As := [.int (xs (i + 1).toNatClampNeg), .int (xs (i + 2).toNatClampNeg)]) (rest := []) ⟨hx, hb, hml, hown, hw⟩ hK hN hP hD [5] rfl rfl (met_oneL (k_X12_lit l D C _ aM ms mw ma ml (xs (i + 1).toNatClampNeg) (xs (i + 2).toNatClampNeg) h)) (cwV 2 hw (goodV mw_8_179 mw_8_180 mw_8_181 mw_1_13 mw_8_182) rfl rfl rfl (by decide +kernel) ⟨Nat.le_of_ble_eq_true rfl, Nat.le_of_ble_eq_true rfl⟩) rfl rfl rfl hl.1 rfl (Nat.le_of_ble_eq_true rfl) dL_law_1213 hcs) hP hD hS hA (fun r2 u H locs h hP hD hS => ?_)
  obtain ⟨ms2, ma2, ml2⟩ := u
  have hP : va_P D vwCl (List.flatten (lW L0 C aU aR aR2 h_images aS n0 aN1 y0 y1 y2 o0 aM us ua rs ra rs21 ra21 sa sl ns1 na1 nl1 y_isThere y_taken y_took o_of imf J ms2 mw ma2 ml2)) H := hP
  have hD : va_D A (List.flatten (lW L0 C aU aR aR2 h_images aS n0 aN1 y0 y1 y2 o0 aM us ua rs ra rs21 ra21 sa sl ns1 na1 nl1 y_isThere y_taken y_took o_of imf J ms2 mw ma2 ml2)) := hD
  refine lv_pop2_2 hx hb dL_law_1216 rfl ?_
  refine lv_goto (tgt := 1978) hx hb dL_law_1217 (by decide) ?_
  obtain ⟨-, hI⟩ := h
  exact kk H locs ⟨aU, aR, aR2, h_images, aS, n0, aN1, y0, y1, y2, o0, aM, us, ua, rs, ra, rs21, ra21, sa, sl, ns1, na1, nl1, y_isThere, y_taken, y_took, o_of, imf, J, im, ms2, mw, ma2, ml2, False.elim, rfl, hI, hJ, hP, hD⟩ hS
set_option maxHeartbeats 400000 in
set_option maxRecDepth 100000 in
theorem lc_35 {p : Program} {l : Launch} {e : Env} {s : State} {m : MethodId} {below : List Frame} {meth : Method} {c : Code} {b L : Nat} {xs : Nat → Int32} {D : va_G} {C : Nat → ClassId} {A : Nat → Prop} {H : Heap} {locs : List Loc} {cells slots : Nat} {Q : State → Prop} {ls : Array Slot} {L0 m0 : Nat} {i : Int32} {z : Prop} (hC : LC p s m c b L xs D C A) (hl : lv_has ls 4 [(3, .int i), (2, .ref m0), (1, .ref L0), (0, .ref b)]) (i1 : vp_in (i + 1) L) (i2 : vp_in (i + 2) L) (i3 : vp_in (i + 3) L) (i4 : vp_in (i + 4) L) (i5 : vp_in (i + 5) L) (hcs : cells ≤ 600000 ∧ slots ≤ room_1.slots) (hS : va_S A s.heap H locs) (hW : LSt z D C A L0 m0 H)  (kk : ∀ (H : Heap) (locs : List Loc), LSt False D C A L0 m0 H → va_S A s.heap H locs → W p l e room_1 s m #[Value.ref b] below meth c H locs cells slots Q (F0 m 1978 ls [])) : W p l e room_1 s m #[Value.ref b] below meth c H locs cells slots Q (F0 m 1220 ls []) := by
  obtain ⟨hx, hb, hml, hown, hw, hK, hN, hA, hX, hbl, hbA, hZ⟩ := hC
  obtain ⟨aU, aR, aR2, h_images, aS, n0, aN, y0, y1, y2, o0, aM, us, ua, rs, ra, rs2, ra2, sa, sl, ns, na, nl, y_isThere, y_taken, y_took, o_of, imf, J, im, ms, mw, ma, ml, hz, e0, hI, hJ, hP, hD⟩ := hW
  subst e0
  refine lv_aload_n hx hb dL_law_1220 rfl (lv_at hl 2 rfl) ?_
  refine lv_aload_n hx hb dL_law_1221 rfl (lv_at hl 3 rfl) ?_
  refine lv_iload_n hx hb dL_law_1222 rfl (lv_at hl 0 rfl) ?_
  refine lv_iconst (v := 1) hx hb dL_law_1223 (by decide) ?_
  refine lv_iadd hx hb dL_law_1224 ?_
  refine va_sld hx hb hX hbl hbA hS i1 dL_law_1225 ?_
  refine lv_if_eq (tgt := 1233) hx hb dL_law_1226 (by decide) (fun c1 => ?_) (fun c1 => ?_)
  · refine lv_iconst (v := 0) hx hb dL_law_1233 (by decide) ?_
    refine lGoI11 (cRunV (As := [.int 0]) (rest := []) ⟨hx, hb, hml, hown, hw⟩ hK hN hP hD [0] rfl rfl (met_oneI (k_X11_watch l D C _ L0 aU aR aR2 aS n0 aN y0 y1 y2 o0 h_images us ua rs ra rs2 ra2 sa sl ns na nl y_isThere y_taken y_took o_of 0 (q_watch hI 0 (Or.inl rfl)))) (cwV 1 hw (goodV mw_5_28 mw_5_29 mw_5_30 mw_1_1 mw_5_31) rfl rfl rfl (by decide +kernel) ⟨Nat.le_of_ble_eq_true rfl, Nat.le_of_ble_eq_true rfl⟩) rfl rfl rfl hl.1 rfl (Nat.le_of_ble_eq_true rfl) dL_law_1234 hcs) hP hD hS hA (fun r1 rs1 H locs h hP hD hS => ?_)
    have hP : va_P D vwCl (List.flatten (lW L0 C aU aR aR2 h_images aS n0 aN y0 y1 y2 o0 aM us ua rs1 ra rs2 ra2 sa sl ns na nl y_isThere y_taken y_took o_of imf J ms mw ma ml)) H := hP
    have hD : va_D A (List.flatten (lW L0 C aU aR aR2 h_images aS n0 aN y0 y1 y2 o0 aM us ua rs1 ra rs2 ra2 sa sl ns na nl y_isThere y_taken y_took o_of imf J ms mw ma ml)) := hD
    refine lv_pop hx hb dL_law_1237 rfl ?_
    refine lv_aload_n hx hb dL_law_1238 rfl (lv_at hl 1 rfl) ?_
    refine lv_aload_n hx hb dL_law_1239 rfl (lv_at hl 3 rfl) ?_
    refine lv_iload_n hx hb dL_law_1240 rfl (lv_at hl 0 rfl) ?_
    refine lv_iconst (v := 1) hx hb dL_law_1241 (by decide) ?_
    refine lv_iadd hx hb dL_law_1242 ?_
    refine va_sld hx hb hX hbl hbA hS i1 dL_law_1243 ?_
    refine lv_if_eq (tgt := 1251) hx hb dL_law_1244 (by decide) (fun _ => ?_) (fun c2 => absurd c1 c2)
    refine lv_iconst (v := 0) hx hb dL_law_1251 (by decide) ?_
    refine lGoI12 (cRunV (As := [.int 0]) (rest := []) ⟨hx, hb, hml, hown, hw⟩ hK hN hP hD [5] rfl rfl (met_oneI (k_X12_watch l D C _ aM ms mw ma ml 0 h)) (cwV 1 hw (goodV mw_8_183 mw_8_184 mw_8_185 mw_1_13 mw_8_186) rfl rfl rfl (by decide +kernel) ⟨Nat.le_of_ble_eq_true rfl, Nat.le_of_ble_eq_true rfl⟩) rfl rfl rfl hl.1 rfl (Nat.le_of_ble_eq_true rfl) dL_law_1252 hcs) hP hD hS hA (fun r2 u H locs h hP hD hS => ?_)
    obtain ⟨ms2, ma2⟩ := u
    have hP : va_P D vwCl (List.flatten (lW L0 C aU aR aR2 h_images aS n0 aN y0 y1 y2 o0 aM us ua rs1 ra rs2 ra2 sa sl ns na nl y_isThere y_taken y_took o_of imf J ms2 mw ma2 ml)) H := hP
    have hD : va_D A (List.flatten (lW L0 C aU aR aR2 h_images aS n0 aN y0 y1 y2 o0 aM us ua rs1 ra rs2 ra2 sa sl ns na nl y_isThere y_taken y_took o_of imf J ms2 mw ma2 ml)) := hD
    refine lv_pop hx hb dL_law_1255 rfl ?_
    refine lv_goto (tgt := 1978) hx hb dL_law_1256 (by decide) ?_
    obtain ⟨-, hI⟩ := h
    exact kk H locs ⟨aU, aR, aR2, h_images, aS, n0, aN, y0, y1, y2, o0, aM, us, ua, rs1, ra, rs2, ra2, sa, sl, ns, na, nl, y_isThere, y_taken, y_took, o_of, imf, J, im, ms2, mw, ma2, ml, False.elim, rfl, hI, hJ, hP, hD⟩ hS
  · refine lv_iconst (v := 1) hx hb dL_law_1229 (by decide) ?_
    refine lv_goto (tgt := 1234) hx hb dL_law_1230 (by decide) ?_
    refine lGoI11 (cRunV (As := [.int 1]) (rest := []) ⟨hx, hb, hml, hown, hw⟩ hK hN hP hD [0] rfl rfl (met_oneI (k_X11_watch l D C _ L0 aU aR aR2 aS n0 aN y0 y1 y2 o0 h_images us ua rs ra rs2 ra2 sa sl ns na nl y_isThere y_taken y_took o_of 1 (q_watch hI 1 (Or.inr rfl)))) (cwV 1 hw (goodV mw_5_28 mw_5_29 mw_5_30 mw_1_1 mw_5_31) rfl rfl rfl (by decide +kernel) ⟨Nat.le_of_ble_eq_true rfl, Nat.le_of_ble_eq_true rfl⟩) rfl rfl rfl hl.1 rfl (Nat.le_of_ble_eq_true rfl) dL_law_1234 hcs) hP hD hS hA (fun r3 rs3 H locs h hP hD hS => ?_)
    have hP : va_P D vwCl (List.flatten (lW L0 C aU aR aR2 h_images aS n0 aN y0 y1 y2 o0 aM us ua rs3 ra rs2 ra2 sa sl ns na nl y_isThere y_taken y_took o_of imf J ms mw ma ml)) H := hP
    have hD : va_D A (List.flatten (lW L0 C aU aR aR2 h_images aS n0 aN y0 y1 y2 o0 aM us ua rs3 ra rs2 ra2 sa sl ns na nl y_isThere y_taken y_took o_of imf J ms mw ma ml)) := hD
    refine lv_pop hx hb dL_law_1237 rfl ?_
    refine lv_aload_n hx hb dL_law_1238 rfl (lv_at hl 1 rfl) ?_
    refine lv_aload_n hx hb dL_law_1239 rfl (lv_at hl 3 rfl) ?_
    refine lv_iload_n hx hb dL_law_1240 rfl (lv_at hl 0 rfl) ?_
    refine lv_iconst (v := 1) hx hb dL_law_1241 (by decide) ?_
    refine lv_iadd hx hb dL_law_1242 ?_
    refine va_sld hx hb hX hbl hbA hS i1 dL_law_1243 ?_
    refine lv_if_eq (tgt := 1251) hx hb dL_law_1244 (by decide) (fun c2 => absurd c2 c1) (fun _ => ?_)
    refine lv_iconst (v := 1) hx hb dL_law_1247 (by decide) ?_
    refine lv_goto (tgt := 1252) hx hb dL_law_1248 (by decide) ?_
    refine lGoI12 (cRunV (As := [.int 1]) (rest := []) ⟨hx, hb, hml, hown, hw⟩ hK hN hP hD [5] rfl rfl (met_oneI (k_X12_watch l D C _ aM ms mw ma ml 1 h)) (cwV 1 hw (goodV mw_8_183 mw_8_184 mw_8_185 mw_1_13 mw_8_186) rfl rfl rfl (by decide +kernel) ⟨Nat.le_of_ble_eq_true rfl, Nat.le_of_ble_eq_true rfl⟩) rfl rfl rfl hl.1 rfl (Nat.le_of_ble_eq_true rfl) dL_law_1252 hcs) hP hD hS hA (fun r4 u H locs h hP hD hS => ?_)
    obtain ⟨ms4, ma4⟩ := u
    have hP : va_P D vwCl (List.flatten (lW L0 C aU aR aR2 h_images aS n0 aN y0 y1 y2 o0 aM us ua rs3 ra rs2 ra2 sa sl ns na nl y_isThere y_taken y_took o_of imf J ms4 mw ma4 ml)) H := hP
    have hD : va_D A (List.flatten (lW L0 C aU aR aR2 h_images aS n0 aN y0 y1 y2 o0 aM us ua rs3 ra rs2 ra2 sa sl ns na nl y_isThere y_taken y_took o_of imf J ms4 mw ma4 ml)) := hD
    refine lv_pop hx hb dL_law_1255 rfl ?_
    refine lv_goto (tgt := 1978) hx hb dL_law_1256 (by decide) ?_
    obtain ⟨-, hI⟩ := h
    exact kk H locs ⟨aU, aR, aR2, h_images, aS, n0, aN, y0, y1, y2, o0, aM, us, ua, rs3, ra, rs2, ra2, sa, sl, ns, na, nl, y_isThere, y_taken, y_took, o_of, imf, J, im, ms4, mw, ma4, ml, False.elim, rfl, hI, hJ, hP, hD⟩ hS
set_option maxHeartbeats 400000 in
set_option maxRecDepth 100000 in
theorem lc_36 {p : Program} {l : Launch} {e : Env} {s : State} {m : MethodId} {below : List Frame} {meth : Method} {c : Code} {b L : Nat} {xs : Nat → Int32} {D : va_G} {C : Nat → ClassId} {A : Nat → Prop} {H : Heap} {locs : List Loc} {cells slots : Nat} {Q : State → Prop} {ls : Array Slot} {L0 m0 : Nat} {i : Int32} {z : Prop} (hC : LC p s m c b L xs D C A) (hl : lv_has ls 4 [(3, .int i), (2, .ref m0), (1, .ref L0), (0, .ref b)]) (i1 : vp_in (i + 1) L) (i2 : vp_in (i + 2) L) (i3 : vp_in (i + 3) L) (i4 : vp_in (i + 4) L) (i5 : vp_in (i + 5) L) (hcs : cells ≤ 600000 ∧ slots ≤ room_1.slots) (hS : va_S A s.heap H locs) (hW : LSt z D C A L0 m0 H)  (kk : ∀ (H : Heap) (locs : List Loc), LSt False D C A L0 m0 H → va_S A s.heap H locs → W p l e room_1 s m #[Value.ref b] below meth c H locs cells slots Q (F0 m 1978 ls [])) : W p l e room_1 s m #[Value.ref b] below meth c H locs cells slots Q (F0 m 1259 ls []) := by
  obtain ⟨hx, hb, hml, hown, hw, hK, hN, hA, hX, hbl, hbA, hZ⟩ := hC
  obtain ⟨aU, aR, aR2, h_images, aS, n0, aN, y0, y1, y2, o0, aM, us, ua, rs, ra, rs2, ra2, sa, sl, ns, na, nl, y_isThere, y_taken, y_took, o_of, imf, J, im, ms, mw, ma, ml, hz, e0, hI, hJ, hP, hD⟩ := hW
  subst e0
  refine lv_aload_n hx hb dL_law_1259 rfl (lv_at hl 2 rfl) ?_
  refine lGoL11 (cRunV (As := []) (rest := []) ⟨hx, hb, hml, hown, hw⟩ hK hN hP hD [0] rfl rfl (met_oneL (k_X11_penny l D C _ L0 aU aR aR2 aS n0 aN y0 y1 y2 o0 h_images us ua rs ra rs2 ra2 sa sl ns na nl y_isThere y_taken y_took o_of  (q_penny hI rs2))) (cwV 0 hw (goodV mw_5_32 mw_5_33 mw_5_34 mw_1_1 mw_5_35) rfl rfl rfl (by decide +kernel) ⟨Nat.le_of_ble_eq_true rfl, Nat.le_of_ble_eq_true rfl⟩) rfl rfl rfl hl.1 rfl (Nat.le_of_ble_eq_true rfl) dL_law_1260 hcs) hP hD hS hA (fun r1 u H locs h hP hD hS => ?_)
  obtain ⟨aN1, rs21, ra21, ns1, na1, nl1⟩ := u
  have hP : va_P D vwCl (List.flatten (lW L0 C aU aR aR2 h_images aS n0 aN1 y0 y1 y2 o0 aM us ua rs ra rs21 ra21 sa sl ns1 na1 nl1 y_isThere y_taken y_took o_of imf J ms mw ma ml)) H := hP
  have hD : va_D A (List.flatten (lW L0 C aU aR aR2 h_images aS n0 aN1 y0 y1 y2 o0 aM us ua rs ra rs21 ra21 sa sl ns1 na1 nl1 y_isThere y_taken y_took o_of imf J ms mw ma ml)) := hD
  refine lv_pop2_2 hx hb dL_law_1263 rfl ?_
  refine lv_aload_n hx hb dL_law_1264 rfl (lv_at hl 1 rfl) ?_
  refine lGoL12 (cRunV (As := []) (rest := []) ⟨hx, hb, hml, hown, hw⟩ hK hN hP hD [5] rfl rfl (met_oneL (k_X12_penny l D C _ aM ms mw ma ml  h)) (cwV 0 hw (goodV mw_8_187 mw_8_188 mw_8_189 mw_1_13 mw_8_190) rfl rfl rfl (by decide +kernel) ⟨Nat.le_of_ble_eq_true rfl, Nat.le_of_ble_eq_true rfl⟩) rfl rfl rfl hl.1 rfl (Nat.le_of_ble_eq_true rfl) dL_law_1265 hcs) hP hD hS hA (fun r2 u H locs h hP hD hS => ?_)
  obtain ⟨ms2, ma2, ml2⟩ := u
  have hP : va_P D vwCl (List.flatten (lW L0 C aU aR aR2 h_images aS n0 aN1 y0 y1 y2 o0 aM us ua rs ra rs21 ra21 sa sl ns1 na1 nl1 y_isThere y_taken y_took o_of imf J ms2 mw ma2 ml2)) H := hP
  have hD : va_D A (List.flatten (lW L0 C aU aR aR2 h_images aS n0 aN1 y0 y1 y2 o0 aM us ua rs ra rs21 ra21 sa sl ns1 na1 nl1 y_isThere y_taken y_took o_of imf J ms2 mw ma2 ml2)) := hD
  refine lv_pop2_2 hx hb dL_law_1268 rfl ?_
  refine lv_goto (tgt := 1978) hx hb dL_law_1269 (by decide) ?_
  obtain ⟨-, hI⟩ := h
  exact kk H locs ⟨aU, aR, aR2, h_images, aS, n0, aN1, y0, y1, y2, o0, aM, us, ua, rs, ra, rs21, ra21, sa, sl, ns1, na1, nl1, y_isThere, y_taken, y_took, o_of, imf, J, im, ms2, mw, ma2, ml2, False.elim, rfl, hI, hJ, hP, hD⟩ hS
set_option maxHeartbeats 400000 in
set_option maxRecDepth 100000 in
theorem lc_37 {p : Program} {l : Launch} {e : Env} {s : State} {m : MethodId} {below : List Frame} {meth : Method} {c : Code} {b L : Nat} {xs : Nat → Int32} {D : va_G} {C : Nat → ClassId} {A : Nat → Prop} {H : Heap} {locs : List Loc} {cells slots : Nat} {Q : State → Prop} {ls : Array Slot} {L0 m0 : Nat} {i : Int32} {z : Prop} (hC : LC p s m c b L xs D C A) (hl : lv_has ls 4 [(3, .int i), (2, .ref m0), (1, .ref L0), (0, .ref b)]) (i1 : vp_in (i + 1) L) (i2 : vp_in (i + 2) L) (i3 : vp_in (i + 3) L) (i4 : vp_in (i + 4) L) (i5 : vp_in (i + 5) L) (hcs : cells ≤ 600000 ∧ slots ≤ room_1.slots) (hS : va_S A s.heap H locs) (hW : LSt z D C A L0 m0 H)  (kk : ∀ (H : Heap) (locs : List Loc), LSt False D C A L0 m0 H → va_S A s.heap H locs → W p l e room_1 s m #[Value.ref b] below meth c H locs cells slots Q (F0 m 1978 ls [])) : W p l e room_1 s m #[Value.ref b] below meth c H locs cells slots Q (F0 m 1272 ls []) := by
  obtain ⟨hx, hb, hml, hown, hw, hK, hN, hA, hX, hbl, hbA, hZ⟩ := hC
  obtain ⟨aU, aR, aR2, h_images, aS, n0, aN, y0, y1, y2, o0, aM, us, ua, rs, ra, rs2, ra2, sa, sl, ns, na, nl, y_isThere, y_taken, y_took, o_of, imf, J, im, ms, mw, ma, ml, hz, e0, hI, hJ, hP, hD⟩ := hW
  subst e0
  refine lv_aload_n hx hb dL_law_1272 rfl (lv_at hl 2 rfl) ?_
  refine lGoI11 (cRunV (As := []) (rest := []) ⟨hx, hb, hml, hown, hw⟩ hK hN hP hD [0] rfl rfl (met_oneI (k_X11_enough l D C _ L0 aU aR aR2 aS n0 aN y0 y1 y2 o0 h_images us ua rs ra rs2 ra2 sa sl ns na nl y_isThere y_taken y_took o_of  (q_enough hI rs2 o_of))) (cwV 0 hw (goodV mw_5_37 mw_5_38 mw_5_39 mw_1_1 mw_5_40) rfl rfl rfl (by decide +kernel) ⟨Nat.le_of_ble_eq_true rfl, Nat.le_of_ble_eq_true rfl⟩) rfl rfl rfl hl.1 rfl (Nat.le_of_ble_eq_true rfl) dL_law_1273 hcs) hP hD hS hA (fun r1 u H locs h hP hD hS => ?_)
  obtain ⟨aN1, rs21, ra21, ns1, na1, nl1, o_of1⟩ := u
  have hP : va_P D vwCl (List.flatten (lW L0 C aU aR aR2 h_images aS n0 aN1 y0 y1 y2 o0 aM us ua rs ra rs21 ra21 sa sl ns1 na1 nl1 y_isThere y_taken y_took o_of1 imf J ms mw ma ml)) H := hP
  have hD : va_D A (List.flatten (lW L0 C aU aR aR2 h_images aS n0 aN1 y0 y1 y2 o0 aM us ua rs ra rs21 ra21 sa sl ns1 na1 nl1 y_isThere y_taken y_took o_of1 imf J ms mw ma ml)) := hD
  refine lv_pop hx hb dL_law_1276 rfl ?_
  refine lv_aload_n hx hb dL_law_1277 rfl (lv_at hl 1 rfl) ?_
  refine lGoI12 (cRunV (As := []) (rest := []) ⟨hx, hb, hml, hown, hw⟩ hK hN hP hD [5] rfl rfl (met_oneI (k_X12_enough l D C _ aM ms mw ma ml  h)) (cwV 0 hw (goodV mw_8_195 mw_8_196 mw_8_197 mw_1_13 mw_8_198) rfl rfl rfl (by decide +kernel) ⟨Nat.le_of_ble_eq_true rfl, Nat.le_of_ble_eq_true rfl⟩) rfl rfl rfl hl.1 rfl (Nat.le_of_ble_eq_true rfl) dL_law_1278 hcs) hP hD hS hA (fun r2 u H locs h hP hD hS => ?_)
  obtain ⟨ms2, ma2, ml2⟩ := u
  have hP : va_P D vwCl (List.flatten (lW L0 C aU aR aR2 h_images aS n0 aN1 y0 y1 y2 o0 aM us ua rs ra rs21 ra21 sa sl ns1 na1 nl1 y_isThere y_taken y_took o_of1 imf J ms2 mw ma2 ml2)) H := hP
  have hD : va_D A (List.flatten (lW L0 C aU aR aR2 h_images aS n0 aN1 y0 y1 y2 o0 aM us ua rs ra rs21 ra21 sa sl ns1 na1 nl1 y_isThere y_taken y_took o_of1 imf J ms2 mw ma2 ml2)) := hD
  refine lv_pop hx hb dL_law_1281 rfl ?_
  refine lv_goto (tgt := 1978) hx hb dL_law_1282 (by decide) ?_
  obtain ⟨-, hI⟩ := h
  exact kk H locs ⟨aU, aR, aR2, h_images, aS, n0, aN1, y0, y1, y2, o0, aM, us, ua, rs, ra, rs21, ra21, sa, sl, ns1, na1, nl1, y_isThere, y_taken, y_took, o_of1, imf, J, im, ms2, mw, ma2, ml2, False.elim, rfl, hI, hJ, hP, hD⟩ hS
set_option maxHeartbeats 400000 in
set_option maxRecDepth 100000 in
theorem lc_38 {p : Program} {l : Launch} {e : Env} {s : State} {m : MethodId} {below : List Frame} {meth : Method} {c : Code} {b L : Nat} {xs : Nat → Int32} {D : va_G} {C : Nat → ClassId} {A : Nat → Prop} {H : Heap} {locs : List Loc} {cells slots : Nat} {Q : State → Prop} {ls : Array Slot} {L0 m0 : Nat} {i : Int32} {z : Prop} (hC : LC p s m c b L xs D C A) (hl : lv_has ls 4 [(3, .int i), (2, .ref m0), (1, .ref L0), (0, .ref b)]) (i1 : vp_in (i + 1) L) (i2 : vp_in (i + 2) L) (i3 : vp_in (i + 3) L) (i4 : vp_in (i + 4) L) (i5 : vp_in (i + 5) L) (hcs : cells ≤ 600000 ∧ slots ≤ room_1.slots) (hS : va_S A s.heap H locs) (hW : LSt z D C A L0 m0 H)  (kk : ∀ (H : Heap) (locs : List Loc), LSt False D C A L0 m0 H → va_S A s.heap H locs → W p l e room_1 s m #[Value.ref b] below meth c H locs cells slots Q (F0 m 1978 ls [])) : W p l e room_1 s m #[Value.ref b] below meth c H locs cells slots Q (F0 m 1285 ls []) := by
  obtain ⟨hx, hb, hml, hown, hw, hK, hN, hA, hX, hbl, hbA, hZ⟩ := hC
  obtain ⟨aU, aR, aR2, h_images, aS, n0, aN, y0, y1, y2, o0, aM, us, ua, rs, ra, rs2, ra2, sa, sl, ns, na, nl, y_isThere, y_taken, y_took, o_of, imf, J, im, ms, mw, ma, ml, hz, e0, hI, hJ, hP, hD⟩ := hW
  subst e0
  refine lv_aload_n hx hb dL_law_1285 rfl (lv_at hl 2 rfl) ?_
  refine lGoI11 (cRunV (As := []) (rest := []) ⟨hx, hb, hml, hown, hw⟩ hK hN hP hD [0] rfl rfl (met_oneI (k_X11_marks l D C _ L0 aU aR aR2 aS n0 aN y0 y1 y2 o0 h_images us ua rs ra rs2 ra2 sa sl ns na nl y_isThere y_taken y_took o_of  (q_marks hI rs2))) (cwV 0 hw (goodV mw_5_45 mw_5_46 mw_5_47 mw_1_1 mw_5_48) rfl rfl rfl (by decide +kernel) ⟨Nat.le_of_ble_eq_true rfl, Nat.le_of_ble_eq_true rfl⟩) rfl rfl rfl hl.1 rfl (Nat.le_of_ble_eq_true rfl) dL_law_1286 hcs) hP hD hS hA (fun r1 u H locs h hP hD hS => ?_)
  obtain ⟨rs21, ra21, ns1, na1⟩ := u
  have hP : va_P D vwCl (List.flatten (lW L0 C aU aR aR2 h_images aS n0 aN y0 y1 y2 o0 aM us ua rs ra rs21 ra21 sa sl ns1 na1 nl y_isThere y_taken y_took o_of imf J ms mw ma ml)) H := hP
  have hD : va_D A (List.flatten (lW L0 C aU aR aR2 h_images aS n0 aN y0 y1 y2 o0 aM us ua rs ra rs21 ra21 sa sl ns1 na1 nl y_isThere y_taken y_took o_of imf J ms mw ma ml)) := hD
  refine lv_pop hx hb dL_law_1289 rfl ?_
  refine lv_aload_n hx hb dL_law_1290 rfl (lv_at hl 1 rfl) ?_
  refine lGoI12 (cRunV (As := []) (rest := []) ⟨hx, hb, hml, hown, hw⟩ hK hN hP hD [5] rfl rfl (met_oneI (k_X12_marks l D C _ aM ms mw ma ml  h)) (cwV 0 hw (goodV mw_8_199 mw_8_200 mw_8_201 mw_1_13 mw_8_202) rfl rfl rfl (by decide +kernel) ⟨Nat.le_of_ble_eq_true rfl, Nat.le_of_ble_eq_true rfl⟩) rfl rfl rfl hl.1 rfl (Nat.le_of_ble_eq_true rfl) dL_law_1291 hcs) hP hD hS hA (fun r2 u H locs h hP hD hS => ?_)
  obtain ⟨ms2, ma2⟩ := u
  have hP : va_P D vwCl (List.flatten (lW L0 C aU aR aR2 h_images aS n0 aN y0 y1 y2 o0 aM us ua rs ra rs21 ra21 sa sl ns1 na1 nl y_isThere y_taken y_took o_of imf J ms2 mw ma2 ml)) H := hP
  have hD : va_D A (List.flatten (lW L0 C aU aR aR2 h_images aS n0 aN y0 y1 y2 o0 aM us ua rs ra rs21 ra21 sa sl ns1 na1 nl y_isThere y_taken y_took o_of imf J ms2 mw ma2 ml)) := hD
  refine lv_pop hx hb dL_law_1294 rfl ?_
  refine lv_goto (tgt := 1978) hx hb dL_law_1295 (by decide) ?_
  obtain ⟨-, hI⟩ := h
  exact kk H locs ⟨aU, aR, aR2, h_images, aS, n0, aN, y0, y1, y2, o0, aM, us, ua, rs, ra, rs21, ra21, sa, sl, ns1, na1, nl, y_isThere, y_taken, y_took, o_of, imf, J, im, ms2, mw, ma2, ml, False.elim, rfl, hI, hJ, hP, hD⟩ hS
set_option maxHeartbeats 400000 in
set_option maxRecDepth 100000 in
theorem lc_39 {p : Program} {l : Launch} {e : Env} {s : State} {m : MethodId} {below : List Frame} {meth : Method} {c : Code} {b L : Nat} {xs : Nat → Int32} {D : va_G} {C : Nat → ClassId} {A : Nat → Prop} {H : Heap} {locs : List Loc} {cells slots : Nat} {Q : State → Prop} {ls : Array Slot} {L0 m0 : Nat} {i : Int32} {z : Prop} (hC : LC p s m c b L xs D C A) (hl : lv_has ls 4 [(3, .int i), (2, .ref m0), (1, .ref L0), (0, .ref b)]) (i1 : vp_in (i + 1) L) (i2 : vp_in (i + 2) L) (i3 : vp_in (i + 3) L) (i4 : vp_in (i + 4) L) (i5 : vp_in (i + 5) L) (hcs : cells ≤ 600000 ∧ slots ≤ room_1.slots) (hS : va_S A s.heap H locs) (hW : LSt z D C A L0 m0 H)  (kk : ∀ (H : Heap) (locs : List Loc), LSt False D C A L0 m0 H → va_S A s.heap H locs → W p l e room_1 s m #[Value.ref b] below meth c H locs cells slots Q (F0 m 1978 ls [])) : W p l e room_1 s m #[Value.ref b] below meth c H locs cells slots Q (F0 m 1298 ls []) := by
  obtain ⟨hx, hb, hml, hown, hw, hK, hN, hA, hX, hbl, hbA, hZ⟩ := hC
  obtain ⟨aU, aR, aR2, h_images, aS, n0, aN, y0, y1, y2, o0, aM, us, ua, rs, ra, rs2, ra2, sa, sl, ns, na, nl, y_isThere, y_taken, y_took, o_of, imf, J, im, ms, mw, ma, ml, hz, e0, hI, hJ, hP, hD⟩ := hW
  subst e0
  refine lv_aload_n hx hb dL_law_1298 rfl (lv_at hl 2 rfl) ?_
  refine lv_aload_n hx hb dL_law_1299 rfl (lv_at hl 3 rfl) ?_
  refine lv_iload_n hx hb dL_law_1300 rfl (lv_at hl 0 rfl) ?_
  refine lv_iconst (v := 1) hx hb dL_law_1301 (by decide) ?_
  refine lv_iadd hx hb dL_law_1302 ?_
  refine va_sld hx hb hX hbl hbA hS i1 dL_law_1303 ?_
  refine lGoL11 (cRunV (As := [.int (xs (i + 1).toNatClampNeg)]) (rest := []) ⟨hx, hb, hml, hown, hw⟩ hK hN hP hD [0] rfl rfl (met_oneL (k_X11_hides l D C _ L0 aU aR aR2 aS n0 aN y0 y1 y2 o0 h_images us ua rs ra rs2 ra2 sa sl ns na nl y_isThere y_taken y_took o_of (xs (i + 1).toNatClampNeg) (q_hides hI rs2 (xs (i + 1).toNatClampNeg)))) (cwV 1 hw (goodV mw_5_53 mw_5_54 mw_5_55 mw_1_1 mw_5_56) rfl rfl rfl (by decide +kernel) ⟨Nat.le_of_ble_eq_true rfl, Nat.le_of_ble_eq_true rfl⟩) rfl rfl rfl hl.1 rfl (Nat.le_of_ble_eq_true rfl) dL_law_1304 hcs) hP hD hS hA (fun r1 u H locs h hP hD hS => ?_)
  obtain ⟨aN1, rs21, ra21, ns1, na1, nl1⟩ := u
  have hP : va_P D vwCl (List.flatten (lW L0 C aU aR aR2 h_images aS n0 aN1 y0 y1 y2 o0 aM us ua rs ra rs21 ra21 sa sl ns1 na1 nl1 y_isThere y_taken y_took o_of imf J ms mw ma ml)) H := hP
  have hD : va_D A (List.flatten (lW L0 C aU aR aR2 h_images aS n0 aN1 y0 y1 y2 o0 aM us ua rs ra rs21 ra21 sa sl ns1 na1 nl1 y_isThere y_taken y_took o_of imf J ms mw ma ml)) := hD
  refine lv_pop2_2 hx hb dL_law_1307 rfl ?_
  refine lv_aload_n hx hb dL_law_1308 rfl (lv_at hl 1 rfl) ?_
  refine lv_aload_n hx hb dL_law_1309 rfl (lv_at hl 3 rfl) ?_
  refine lv_iload_n hx hb dL_law_1310 rfl (lv_at hl 0 rfl) ?_
  refine lv_iconst (v := 1) hx hb dL_law_1311 (by decide) ?_
  refine lv_iadd hx hb dL_law_1312 ?_
  refine va_sld hx hb hX hbl hbA hS i1 dL_law_1313 ?_
  refine lGoL12 (cRunV (As := [.int (xs (i + 1).toNatClampNeg)]) (rest := []) ⟨hx, hb, hml, hown, hw⟩ hK hN hP hD [5] rfl rfl (met_oneL (k_X12_hides l D C _ aM ms mw ma ml (xs (i + 1).toNatClampNeg) h)) (cwV 1 hw (goodV mw_8_211 mw_8_212 mw_8_213 mw_1_13 mw_8_214) rfl rfl rfl (by decide +kernel) ⟨Nat.le_of_ble_eq_true rfl, Nat.le_of_ble_eq_true rfl⟩) rfl rfl rfl hl.1 rfl (Nat.le_of_ble_eq_true rfl) dL_law_1314 hcs) hP hD hS hA (fun r2 u H locs h hP hD hS => ?_)
  obtain ⟨ms2, ma2, ml2⟩ := u
  have hP : va_P D vwCl (List.flatten (lW L0 C aU aR aR2 h_images aS n0 aN1 y0 y1 y2 o0 aM us ua rs ra rs21 ra21 sa sl ns1 na1 nl1 y_isThere y_taken y_took o_of imf J ms2 mw ma2 ml2)) H := hP
  have hD : va_D A (List.flatten (lW L0 C aU aR aR2 h_images aS n0 aN1 y0 y1 y2 o0 aM us ua rs ra rs21 ra21 sa sl ns1 na1 nl1 y_isThere y_taken y_took o_of imf J ms2 mw ma2 ml2)) := hD
  refine lv_pop2_2 hx hb dL_law_1317 rfl ?_
  refine lv_goto (tgt := 1978) hx hb dL_law_1318 (by decide) ?_
  obtain ⟨-, hI⟩ := h
  exact kk H locs ⟨aU, aR, aR2, h_images, aS, n0, aN1, y0, y1, y2, o0, aM, us, ua, rs, ra, rs21, ra21, sa, sl, ns1, na1, nl1, y_isThere, y_taken, y_took, o_of, imf, J, im, ms2, mw, ma2, ml2, False.elim, rfl, hI, hJ, hP, hD⟩ hS
set_option maxHeartbeats 400000 in
set_option maxRecDepth 100000 in
theorem lc_40 {p : Program} {l : Launch} {e : Env} {s : State} {m : MethodId} {below : List Frame} {meth : Method} {c : Code} {b L : Nat} {xs : Nat → Int32} {D : va_G} {C : Nat → ClassId} {A : Nat → Prop} {H : Heap} {locs : List Loc} {cells slots : Nat} {Q : State → Prop} {ls : Array Slot} {L0 m0 : Nat} {i : Int32} {z : Prop} (hC : LC p s m c b L xs D C A) (hl : lv_has ls 4 [(3, .int i), (2, .ref m0), (1, .ref L0), (0, .ref b)]) (i1 : vp_in (i + 1) L) (i2 : vp_in (i + 2) L) (i3 : vp_in (i + 3) L) (i4 : vp_in (i + 4) L) (i5 : vp_in (i + 5) L) (hcs : cells ≤ 600000 ∧ slots ≤ room_1.slots) (hS : va_S A s.heap H locs) (hW : LSt z D C A L0 m0 H)  (kk : ∀ (H : Heap) (locs : List Loc), LSt False D C A L0 m0 H → va_S A s.heap H locs → W p l e room_1 s m #[Value.ref b] below meth c H locs cells slots Q (F0 m 1978 ls [])) : W p l e room_1 s m #[Value.ref b] below meth c H locs cells slots Q (F0 m 1321 ls []) := by
  obtain ⟨hx, hb, hml, hown, hw, hK, hN, hA, hX, hbl, hbA, hZ⟩ := hC
  obtain ⟨aU, aR, aR2, h_images, aS, n0, aN, y0, y1, y2, o0, aM, us, ua, rs, ra, rs2, ra2, sa, sl, ns, na, nl, y_isThere, y_taken, y_took, o_of, imf, J, im, ms, mw, ma, ml, hz, e0, hI, hJ, hP, hD⟩ := hW
  subst e0
  refine lv_aload_n hx hb dL_law_1321 rfl (lv_at hl 2 rfl) ?_
  refine lv_aload_n hx hb dL_law_1322 rfl (lv_at hl 3 rfl) ?_
  refine lv_iload_n hx hb dL_law_1323 rfl (lv_at hl 0 rfl) ?_
  refine lv_iconst (v := 1) hx hb dL_law_1324 (by decide) ?_
  refine lv_iadd hx hb dL_law_1325 ?_
  refine va_sld hx hb hX hbl hbA hS i1 dL_law_1326 ?_
  refine lv_aload_n hx hb dL_law_1327 rfl (lv_at hl 3 rfl) ?_
  refine lv_iload_n hx hb dL_law_1328 rfl (lv_at hl 0 rfl) ?_
  refine lv_iconst (v := 2) hx hb dL_law_1329 (by decide) ?_
  refine lv_iadd hx hb dL_law_1330 ?_
  refine va_sld hx hb hX hbl hbA hS i2 dL_law_1331 ?_
  refine lv_aload_n hx hb dL_law_1332 rfl (lv_at hl 3 rfl) ?_
  refine lv_iload_n hx hb dL_law_1333 rfl (lv_at hl 0 rfl) ?_
  refine lv_iconst (v := 3) hx hb dL_law_1334 (by decide) ?_
  refine lv_iadd hx hb dL_law_1335 ?_
  refine va_sld hx hb hX hbl hbA hS i3 dL_law_1336 ?_
  refine lGoL11 (cRunV (As := [.int (xs (i + 1).toNatClampNeg), .int (xs (i + 2).toNatClampNeg), .int (xs (i + 3).toNatClampNeg)]) (rest := []) ⟨hx, hb, hml, hown, hw⟩ hK hN hP hD [0] rfl rfl (met_oneL (k_X11_bait l D C _ L0 aU aR aR2 aS n0 aN y0 y1 y2 o0 h_images us ua rs ra rs2 ra2 sa sl ns na nl y_isThere y_taken y_took o_of (xs (i + 1).toNatClampNeg) (xs (i + 2).toNatClampNeg) (xs (i + 3).toNatClampNeg) (q_bait hI mw (xs (i + 1).toNatClampNeg) (xs (i + 2).toNatClampNeg) (xs (i + 3).toNatClampNeg)))) (cwV 3 hw (goodV mw_5_65 mw_5_66 mw_5_67 mw_1_1 mw_5_68) rfl rfl rfl (by decide +kernel) ⟨Nat.le_of_ble_eq_true rfl, Nat.le_of_ble_eq_true rfl⟩) rfl rfl rfl hl.1 rfl (Nat.le_of_ble_eq_true rfl) dL_law_1337 hcs) hP hD hS hA (fun r1 u H locs h hP hD hS => ?_)
  obtain ⟨aN1, ns1, na1, nl1⟩ := u
  have hP : va_P D vwCl (List.flatten (lW L0 C aU aR aR2 h_images aS n0 aN1 y0 y1 y2 o0 aM us ua rs ra rs2 ra2 sa sl ns1 na1 nl1 y_isThere y_taken y_took o_of imf J ms mw ma ml)) H := hP
  have hD : va_D A (List.flatten (lW L0 C aU aR aR2 h_images aS n0 aN1 y0 y1 y2 o0 aM us ua rs ra rs2 ra2 sa sl ns1 na1 nl1 y_isThere y_taken y_took o_of imf J ms mw ma ml)) := hD
  refine lv_pop2_2 hx hb dL_law_1340 rfl ?_
  refine lv_aload_n hx hb dL_law_1341 rfl (lv_at hl 1 rfl) ?_
  refine lv_aload_n hx hb dL_law_1342 rfl (lv_at hl 3 rfl) ?_
  refine lv_iload_n hx hb dL_law_1343 rfl (lv_at hl 0 rfl) ?_
  refine lv_iconst (v := 1) hx hb dL_law_1344 (by decide) ?_
  refine lv_iadd hx hb dL_law_1345 ?_
  refine va_sld hx hb hX hbl hbA hS i1 dL_law_1346 ?_
  refine lv_aload_n hx hb dL_law_1347 rfl (lv_at hl 3 rfl) ?_
  refine lv_iload_n hx hb dL_law_1348 rfl (lv_at hl 0 rfl) ?_
  refine lv_iconst (v := 2) hx hb dL_law_1349 (by decide) ?_
  refine lv_iadd hx hb dL_law_1350 ?_
  refine va_sld hx hb hX hbl hbA hS i2 dL_law_1351 ?_
  refine lv_aload_n hx hb dL_law_1352 rfl (lv_at hl 3 rfl) ?_
  refine lv_iload_n hx hb dL_law_1353 rfl (lv_at hl 0 rfl) ?_
  refine lv_iconst (v := 3) hx hb dL_law_1354 (by decide) ?_
  refine lv_iadd hx hb dL_law_1355 ?_
  refine va_sld hx hb hX hbl hbA hS i3 dL_law_1356 ?_
  refine lGoL12 (cRunV (As := [.int (xs (i + 1).toNatClampNeg), .int (xs (i + 2).toNatClampNeg), .int (xs (i + 3).toNatClampNeg)]) (rest := []) ⟨hx, hb, hml, hown, hw⟩ hK hN hP hD [5] rfl rfl (met_oneL (k_X12_bait l D C _ aM ms mw ma ml (xs (i + 1).toNatClampNeg) (xs (i + 2).toNatClampNeg) (xs (i + 3).toNatClampNeg) h)) (cwV 3 hw (goodV mw_8_215 mw_8_216 mw_8_217 mw_1_13 mw_8_218) rfl rfl rfl (by decide +kernel) ⟨Nat.le_of_ble_eq_true rfl, Nat.le_of_ble_eq_true rfl⟩) rfl rfl rfl hl.1 rfl (Nat.le_of_ble_eq_true rfl) dL_law_1357 hcs) hP hD hS hA (fun r2 u H locs h hP hD hS => ?_)
  obtain ⟨ms2, mw2, ma2, ml2⟩ := u
  have hP : va_P D vwCl (List.flatten (lW L0 C aU aR aR2 h_images aS n0 aN1 y0 y1 y2 o0 aM us ua rs ra rs2 ra2 sa sl ns1 na1 nl1 y_isThere y_taken y_took o_of imf J ms2 mw2 ma2 ml2)) H := hP
  have hD : va_D A (List.flatten (lW L0 C aU aR aR2 h_images aS n0 aN1 y0 y1 y2 o0 aM us ua rs ra rs2 ra2 sa sl ns1 na1 nl1 y_isThere y_taken y_took o_of imf J ms2 mw2 ma2 ml2)) := hD
  refine lv_pop2_2 hx hb dL_law_1360 rfl ?_
  refine lv_goto (tgt := 1978) hx hb dL_law_1361 (by decide) ?_
  obtain ⟨-, hI⟩ := h
  exact kk H locs ⟨aU, aR, aR2, h_images, aS, n0, aN1, y0, y1, y2, o0, aM, us, ua, rs, ra, rs2, ra2, sa, sl, ns1, na1, nl1, y_isThere, y_taken, y_took, o_of, imf, J, im, ms2, mw2, ma2, ml2, False.elim, rfl, hI, hJ, hP, hD⟩ hS
set_option maxHeartbeats 400000 in
set_option maxRecDepth 100000 in
theorem lc_41 {p : Program} {l : Launch} {e : Env} {s : State} {m : MethodId} {below : List Frame} {meth : Method} {c : Code} {b L : Nat} {xs : Nat → Int32} {D : va_G} {C : Nat → ClassId} {A : Nat → Prop} {H : Heap} {locs : List Loc} {cells slots : Nat} {Q : State → Prop} {ls : Array Slot} {L0 m0 : Nat} {i : Int32} {z : Prop} (hC : LC p s m c b L xs D C A) (hl : lv_has ls 4 [(3, .int i), (2, .ref m0), (1, .ref L0), (0, .ref b)]) (i1 : vp_in (i + 1) L) (i2 : vp_in (i + 2) L) (i3 : vp_in (i + 3) L) (i4 : vp_in (i + 4) L) (i5 : vp_in (i + 5) L) (hcs : cells ≤ 600000 ∧ slots ≤ room_1.slots) (hS : va_S A s.heap H locs) (hW : LSt z D C A L0 m0 H)  (kk : ∀ (H : Heap) (locs : List Loc), LSt False D C A L0 m0 H → va_S A s.heap H locs → W p l e room_1 s m #[Value.ref b] below meth c H locs cells slots Q (F0 m 1978 ls [])) : W p l e room_1 s m #[Value.ref b] below meth c H locs cells slots Q (F0 m 1364 ls []) := by
  obtain ⟨hx, hb, hml, hown, hw, hK, hN, hA, hX, hbl, hbA, hZ⟩ := hC
  obtain ⟨aU, aR, aR2, h_images, aS, n0, aN, y0, y1, y2, o0, aM, us, ua, rs, ra, rs2, ra2, sa, sl, ns, na, nl, y_isThere, y_taken, y_took, o_of, imf, J, im, ms, mw, ma, ml, hz, e0, hI, hJ, hP, hD⟩ := hW
  subst e0
  refine lv_aload_n hx hb dL_law_1364 rfl (lv_at hl 2 rfl) ?_
  refine lv_aload_n hx hb dL_law_1365 rfl (lv_at hl 3 rfl) ?_
  refine lv_iload_n hx hb dL_law_1366 rfl (lv_at hl 0 rfl) ?_
  refine lv_iconst (v := 1) hx hb dL_law_1367 (by decide) ?_
  refine lv_iadd hx hb dL_law_1368 ?_
  refine va_sld hx hb hX hbl hbA hS i1 dL_law_1369 ?_
  refine lv_aload_n hx hb dL_law_1370 rfl (lv_at hl 3 rfl) ?_
  refine lv_iload_n hx hb dL_law_1371 rfl (lv_at hl 0 rfl) ?_
  refine lv_iconst (v := 2) hx hb dL_law_1372 (by decide) ?_
  refine lv_iadd hx hb dL_law_1373 ?_
  refine va_sld hx hb hX hbl hbA hS i2 dL_law_1374 ?_
  refine lv_aload_n hx hb dL_law_1375 rfl (lv_at hl 3 rfl) ?_
  refine lv_iload_n hx hb dL_law_1376 rfl (lv_at hl 0 rfl) ?_
  refine lv_iconst (v := 3) hx hb dL_law_1377 (by decide) ?_
  refine lv_iadd hx hb dL_law_1378 ?_
  refine va_sld hx hb hX hbl hbA hS i3 dL_law_1379 ?_
  refine lv_aload_n hx hb dL_law_1380 rfl (lv_at hl 3 rfl) ?_
  refine lv_iload_n hx hb dL_law_1381 rfl (lv_at hl 0 rfl) ?_
  refine lv_iconst (v := 4) hx hb dL_law_1382 (by decide) ?_
  refine lv_iadd hx hb dL_law_1383 ?_
  refine va_sld hx hb hX hbl hbA hS i4 dL_law_1384 ?_
  refine lGoL11 (cRunV (As := [.int (xs (i + 1).toNatClampNeg), .int (xs (i + 2).toNatClampNeg), .int (xs (i + 3).toNatClampNeg), .int (xs (i + 4).toNatClampNeg)]) (rest := []) ⟨hx, hb, hml, hown, hw⟩ hK hN hP hD [0] rfl rfl (met_oneL (k_X11_caught l D C _ L0 aU aR aR2 aS n0 aN y0 y1 y2 o0 h_images us ua rs ra rs2 ra2 sa sl ns na nl y_isThere y_taken y_took o_of (xs (i + 1).toNatClampNeg) (xs (i + 2).toNatClampNeg) (xs (i + 3).toNatClampNeg) (xs (i + 4).toNatClampNeg) (q_caught hI mw (xs (i + 1).toNatClampNeg) (xs (i + 2).toNatClampNeg) (xs (i + 3).toNatClampNeg) (xs (i + 4).toNatClampNeg)))) (cwV 4 hw (goodV mw_5_85 mw_5_86 mw_5_87 mw_1_1 mw_5_88) rfl rfl rfl (by decide +kernel) ⟨Nat.le_of_ble_eq_true rfl, Nat.le_of_ble_eq_true rfl⟩) rfl rfl rfl hl.1 rfl (Nat.le_of_ble_eq_true rfl) dL_law_1385 hcs) hP hD hS hA (fun r1 u H locs h hP hD hS => ?_)
  obtain ⟨aN1, ns1, na1, nl1⟩ := u
  have hP : va_P D vwCl (List.flatten (lW L0 C aU aR aR2 h_images aS n0 aN1 y0 y1 y2 o0 aM us ua rs ra rs2 ra2 sa sl ns1 na1 nl1 y_isThere y_taken y_took o_of imf J ms mw ma ml)) H := hP
  have hD : va_D A (List.flatten (lW L0 C aU aR aR2 h_images aS n0 aN1 y0 y1 y2 o0 aM us ua rs ra rs2 ra2 sa sl ns1 na1 nl1 y_isThere y_taken y_took o_of imf J ms mw ma ml)) := hD
  refine lv_pop2_2 hx hb dL_law_1388 rfl ?_
  refine lv_aload_n hx hb dL_law_1389 rfl (lv_at hl 1 rfl) ?_
  refine lv_aload_n hx hb dL_law_1390 rfl (lv_at hl 3 rfl) ?_
  refine lv_iload_n hx hb dL_law_1391 rfl (lv_at hl 0 rfl) ?_
  refine lv_iconst (v := 1) hx hb dL_law_1392 (by decide) ?_
  refine lv_iadd hx hb dL_law_1393 ?_
  refine va_sld hx hb hX hbl hbA hS i1 dL_law_1394 ?_
  refine lv_aload_n hx hb dL_law_1395 rfl (lv_at hl 3 rfl) ?_
  refine lv_iload_n hx hb dL_law_1396 rfl (lv_at hl 0 rfl) ?_
  refine lv_iconst (v := 2) hx hb dL_law_1397 (by decide) ?_
  refine lv_iadd hx hb dL_law_1398 ?_
  refine va_sld hx hb hX hbl hbA hS i2 dL_law_1399 ?_
  refine lv_aload_n hx hb dL_law_1400 rfl (lv_at hl 3 rfl) ?_
  refine lv_iload_n hx hb dL_law_1401 rfl (lv_at hl 0 rfl) ?_
  refine lv_iconst (v := 3) hx hb dL_law_1402 (by decide) ?_
  refine lv_iadd hx hb dL_law_1403 ?_
  refine va_sld hx hb hX hbl hbA hS i3 dL_law_1404 ?_
  refine lv_aload_n hx hb dL_law_1405 rfl (lv_at hl 3 rfl) ?_
  refine lv_iload_n hx hb dL_law_1406 rfl (lv_at hl 0 rfl) ?_
  refine lv_iconst (v := 4) hx hb dL_law_1407 (by decide) ?_
  refine lv_iadd hx hb dL_law_1408 ?_
  refine va_sld hx hb hX hbl hbA hS i4 dL_law_1409 ?_
  refine lGoL12 (cRunV (As := [.int (xs (i + 1).toNatClampNeg), .int (xs (i + 2).toNatClampNeg), .int (xs (i + 3).toNatClampNeg), .int (xs (i + 4).toNatClampNeg)]) (rest := []) ⟨hx, hb, hml, hown, hw⟩ hK hN hP hD [5] rfl rfl (met_oneL (k_X12_caught l D C _ aM ms mw ma ml (xs (i + 1).toNatClampNeg) (xs (i + 2).toNatClampNeg) (xs (i + 3).toNatClampNeg) (xs (i + 4).toNatClampNeg) h)) (cwV 4 hw (goodV mw_8_235 mw_8_236 mw_8_237 mw_1_13 mw_8_238) rfl rfl rfl (by decide +kernel) ⟨Nat.le_of_ble_eq_true rfl, Nat.le_of_ble_eq_true rfl⟩) rfl rfl rfl hl.1 rfl (Nat.le_of_ble_eq_true rfl) dL_law_1410 hcs) hP hD hS hA (fun r2 u H locs h hP hD hS => ?_)
  obtain ⟨ms2, mw2, ma2, ml2⟩ := u
  have hP : va_P D vwCl (List.flatten (lW L0 C aU aR aR2 h_images aS n0 aN1 y0 y1 y2 o0 aM us ua rs ra rs2 ra2 sa sl ns1 na1 nl1 y_isThere y_taken y_took o_of imf J ms2 mw2 ma2 ml2)) H := hP
  have hD : va_D A (List.flatten (lW L0 C aU aR aR2 h_images aS n0 aN1 y0 y1 y2 o0 aM us ua rs ra rs2 ra2 sa sl ns1 na1 nl1 y_isThere y_taken y_took o_of imf J ms2 mw2 ma2 ml2)) := hD
  refine lv_pop2_2 hx hb dL_law_1413 rfl ?_
  refine lv_goto (tgt := 1978) hx hb dL_law_1414 (by decide) ?_
  obtain ⟨-, hI⟩ := h
  exact kk H locs ⟨aU, aR, aR2, h_images, aS, n0, aN1, y0, y1, y2, o0, aM, us, ua, rs, ra, rs2, ra2, sa, sl, ns1, na1, nl1, y_isThere, y_taken, y_took, o_of, imf, J, im, ms2, mw2, ma2, ml2, False.elim, rfl, hI, hJ, hP, hD⟩ hS
