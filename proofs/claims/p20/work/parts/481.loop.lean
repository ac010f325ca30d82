/-! the law: one turn, the loop, the start -/
theorem lp_end {t L : Nat} (hL : L ≤ 3072) (ht : 6 * t ≤ 3072) (h : L < 6 * t + 6) : Int32.ofNat L - 6 < nI (6 * t) := by
  show nI L - nI 6 < nI (6 * t)
  rw [Int32.lt_iff_toInt_lt, pk_sub_toInt (by omega) (by decide), nI_toInt (by omega)]
  omega
theorem lp_go {t L : Nat} (hL : L ≤ 3072) (h : 6 * t + 6 ≤ L) : ¬ Int32.ofNat L - 6 < nI (6 * t) := by
  show ¬ nI L - nI 6 < nI (6 * t)
  rw [Int32.lt_iff_toInt_lt, pk_sub_toInt (by omega) (by decide), nI_toInt (by omega)]
  omega
theorem lp_inc (t : Nat) : nI (6 * t) + Int32.ofInt 6 = nI (6 * (t + 1)) := by
  show nI (6 * t) + nI 6 = nI (6 * (t + 1))
  rw [nI_add]
  rfl
theorem rm_slots : 1000000 ≤ room_1.slots := by decide +kernel
theorem lp_ret {p : Program} {l : Launch} {e : Env} {s : State} {m : MethodId} {below : List Frame} {meth : Method} {c : Code} {b : Nat} {H : Heap} {locs : List Loc} {ls : Array Slot} {cells slots : Nat} (hx : p.tables.exec = Jvm.exec) (hb : c.code = cL_law) (hr : meth.sig.returnType = ret) (hlocks : meth.locks = false) (hS : va_S (fun q : Nat => s.heap.size ≤ q) s.heap H locs) (h1 : cells ≤ 600000) (h2 : slots ≤ room_1.slots) : W p l e room_1 s m #[Value.ref b] below meth c H locs cells slots (lw_Z below #[Value.ref b] s) (F0 m 1983 ls []) := by
  refine lv_iconst (v := 1) hx hb dL_law_1983 (by decide) ?_
  refine va_forget hS.2.2 ?_
  refine W.widen (k := 600000) (n := room_1.slots) h1 h2 ?_
  exact lw_ret hx hb hr hlocks dL_law_1984
set_option maxRecDepth 100000 in
set_option maxHeartbeats 4000000 in
theorem lc_all {p : Program} {l : Launch} {e : Env} {s : State} {m : MethodId} {below : List Frame} {meth : Method} {c : Code} {b L : Nat} {xs : Nat → Int32} {D : va_G} {C : Nat → ClassId} {A : Nat → Prop} {H : Heap} {locs : List Loc} {cells slots : Nat} {Q : State → Prop} {ls : Array Slot} {L0 m0 : Nat} {i : Int32} {z : Prop} (hC : LC p s m c b L xs D C A) (hl : lv_has ls 4 [(3, .int i), (2, .ref m0), (1, .ref L0), (0, .ref b)]) (i1 : vp_in (i + 1) L) (i2 : vp_in (i + 2) L) (i3 : vp_in (i + 3) L) (i4 : vp_in (i + 4) L) (i5 : vp_in (i + 5) L) (hcs : cells + 22 ≤ 600000 ∧ slots + 163 ≤ room_1.slots) (hS : va_S A s.heap H locs) (hW : LSt z D C A L0 m0 H)  (kk : ∀ (H : Heap) (locs : List Loc), LSt False D C A L0 m0 H → va_S A s.heap H locs → W p l e room_1 s m #[Value.ref b] below meth c H locs (cells + 22) (slots + 163) Q (F0 m 1977 ls [])) {x : Int32} : W p l e room_1 s m #[Value.ref b] below meth c H locs cells slots Q (F0 m 33 ls [.int x]) := by
  have hx := hC.1
  have hb := hC.2.1
  have hcs2 : cells ≤ 600000 ∧ slots ≤ room_1.slots := ⟨by omega, by omega⟩
  have kk2 : ∀ (H : Heap) (locs : List Loc), LSt False D C A L0 m0 H → va_S A s.heap H locs → W p l e room_1 s m #[Value.ref b] below meth c H locs cells slots Q (F0 m 1977 ls []) := fun H locs h1 h2 => W.widen (k := cells + 22) (n := slots + 163) (by omega) (by omega) (kk H locs h1 h2)
  by_cases c0 : x = 0
  · exact lv_tableIn (tgt := 284) hx hb dL_law_33 (by rw [c0] <;> decide) (by rw [c0] <;> decide) (by rw [c0] <;> rfl) (by decide) (lc_0 hC hl i1 i2 i3 i4 i5 hcs2 hS hW kk2)
  by_cases c1 : x = 1
  · exact lv_tableIn (tgt := 347) hx hb dL_law_33 (by rw [c1] <;> decide) (by rw [c1] <;> decide) (by rw [c1] <;> rfl) (by decide) (lc_1 hC hl i1 i2 i3 i4 i5 hcs2 hS hW kk2)
  by_cases c2 : x = 2
  · exact lv_tableIn (tgt := 370) hx hb dL_law_33 (by rw [c2] <;> decide) (by rw [c2] <;> decide) (by rw [c2] <;> rfl) (by decide) (lc_2 hC hl i1 i2 i3 i4 i5 hcs2 hS hW kk2)
  by_cases c3 : x = 3
  · exact lv_tableIn (tgt := 383) hx hb dL_law_33 (by rw [c3] <;> decide) (by rw [c3] <;> decide) (by rw [c3] <;> rfl) (by decide) (lc_3 hC hl i1 i2 i3 i4 i5 hcs2 hS hW kk2)
  by_cases c4 : x = 4
  · exact lv_tableIn (tgt := 406) hx hb dL_law_33 (by rw [c4] <;> decide) (by rw [c4] <;> decide) (by rw [c4] <;> rfl) (by decide) (lc_4 hC hl i1 i2 i3 i4 i5 hcs2 hS hW kk2)
  by_cases c5 : x = 5
  · exact lv_tableIn (tgt := 429) hx hb dL_law_33 (by rw [c5] <;> decide) (by rw [c5] <;> decide) (by rw [c5] <;> rfl) (by decide) (lc_5 hC hl i1 i2 i3 i4 i5 hcs2 hS hW kk2)
  by_cases c6 : x = 6
  · exact lv_tableIn (tgt := 462) hx hb dL_law_33 (by rw [c6] <;> decide) (by rw [c6] <;> decide) (by rw [c6] <;> rfl) (by decide) (lc_6 hC hl i1 i2 i3 i4 i5 hcs2 hS hW kk2)
  by_cases c7 : x = 7
  · exact lv_tableIn (tgt := 495) hx hb dL_law_33 (by rw [c7] <;> decide) (by rw [c7] <;> decide) (by rw [c7] <;> rfl) (by decide) (lc_7 hC hl i1 i2 i3 i4 i5 hcs2 hS hW kk2)
  by_cases c8 : x = 8
  · exact lv_tableIn (tgt := 518) hx hb dL_law_33 (by rw [c8] <;> decide) (by rw [c8] <;> decide) (by rw [c8] <;> rfl) (by decide) (lc_8 hC hl i1 i2 i3 i4 i5 hcs2 hS hW kk2)
  by_cases c9 : x = 9
  · exact lv_tableIn (tgt := 551) hx hb dL_law_33 (by rw [c9] <;> decide) (by rw [c9] <;> decide) (by rw [c9] <;> rfl) (by decide) (lc_9 hC hl i1 i2 i3 i4 i5 hcs2 hS hW kk2)
  by_cases c10 : x = 10
  · exact lv_tableIn (tgt := 574) hx hb dL_law_33 (by rw [c10] <;> decide) (by rw [c10] <;> decide) (by rw [c10] <;> rfl) (by decide) (lc_10 hC hl i1 i2 i3 i4 i5 hcs2 hS hW kk2)
  by_cases c11 : x = 11
  · exact lv_tableIn (tgt := 597) hx hb dL_law_33 (by rw [c11] <;> decide) (by rw [c11] <;> decide) (by rw [c11] <;> rfl) (by decide) (lc_11 hC hl i1 i2 i3 i4 i5 hcs2 hS hW kk2)
  by_cases c12 : x = 12
  · exact lv_tableIn (tgt := 620) hx hb dL_law_33 (by rw [c12] <;> decide) (by rw [c12] <;> decide) (by rw [c12] <;> rfl) (by decide) (lc_12 hC hl i1 i2 i3 i4 i5 hcs2 hS hW kk2)
  by_cases c13 : x = 13
  · exact lv_tableIn (tgt := 643) hx hb dL_law_33 (by rw [c13] <;> decide) (by rw [c13] <;> decide) (by rw [c13] <;> rfl) (by decide) (lc_13 hC hl i1 i2 i3 i4 i5 hcs2 hS hW kk2)
  by_cases c14 : x = 14
  · exact lv_tableIn (tgt := 676) hx hb dL_law_33 (by rw [c14] <;> decide) (by rw [c14] <;> decide) (by rw [c14] <;> rfl) (by decide) (lc_14 hC hl i1 i2 i3 i4 i5 hcs2 hS hW kk2)
  by_cases c15 : x = 15
  · exact lv_tableIn (tgt := 709) hx hb dL_law_33 (by rw [c15] <;> decide) (by rw [c15] <;> decide) (by rw [c15] <;> rfl) (by decide) (lc_15 hC hl i1 i2 i3 i4 i5 hcs2 hS hW kk2)
  by_cases c16 : x = 16
  · exact lv_tableIn (tgt := 732) hx hb dL_law_33 (by rw [c16] <;> decide) (by rw [c16] <;> decide) (by rw [c16] <;> rfl) (by decide) (lc_16 hC hl i1 i2 i3 i4 i5 hcs2 hS hW kk2)
  by_cases c17 : x = 17
  · exact lv_tableIn (tgt := 765) hx hb dL_law_33 (by rw [c17] <;> decide) (by rw [c17] <;> decide) (by rw [c17] <;> rfl) (by decide) (lc_17 hC hl i1 i2 i3 i4 i5 hcs2 hS hW kk2)
  by_cases c18 : x = 18
  · exact lv_tableIn (tgt := 798) hx hb dL_law_33 (by rw [c18] <;> decide) (by rw [c18] <;> decide) (by rw [c18] <;> rfl) (by decide) (lc_18 hC hl i1 i2 i3 i4 i5 hcs2 hS hW kk2)
  by_cases c19 : x = 19
  · exact lv_tableIn (tgt := 821) hx hb dL_law_33 (by rw [c19] <;> decide) (by rw [c19] <;> decide) (by rw [c19] <;> rfl) (by decide) (lc_19 hC hl i1 i2 i3 i4 i5 hcs2 hS hW kk2)
  by_cases c20 : x = 20
  · exact lv_tableIn (tgt := 834) hx hb dL_law_33 (by rw [c20] <;> decide) (by rw [c20] <;> decide) (by rw [c20] <;> rfl) (by decide) (lc_20 hC hl i1 i2 i3 i4 i5 hcs2 hS hW kk2)
  by_cases c21 : x = 21
  · exact lv_tableIn (tgt := 857) hx hb dL_law_33 (by rw [c21] <;> decide) (by rw [c21] <;> decide) (by rw [c21] <;> rfl) (by decide) (lc_21 hC hl i1 i2 i3 i4 i5 hcs2 hS hW kk2)
  by_cases c22 : x = 22
  · exact lv_tableIn (tgt := 870) hx hb dL_law_33 (by rw [c22] <;> decide) (by rw [c22] <;> decide) (by rw [c22] <;> rfl) (by decide) (lc_22 hC hl i1 i2 i3 i4 i5 hcs2 hS hW kk2)
  by_cases c23 : x = 23
  · exact lv_tableIn (tgt := 883) hx hb dL_law_33 (by rw [c23] <;> decide) (by rw [c23] <;> decide) (by rw [c23] <;> rfl) (by decide) (lc_23 hC hl i1 i2 i3 i4 i5 hcs2 hS hW kk2)
  by_cases c24 : x = 24
  · exact lv_tableIn (tgt := 906) hx hb dL_law_33 (by rw [c24] <;> decide) (by rw [c24] <;> decide) (by rw [c24] <;> rfl) (by decide) (lc_24 hC hl i1 i2 i3 i4 i5 hcs2 hS hW kk2)
  by_cases c25 : x = 25
  · exact lv_tableIn (tgt := 919) hx hb dL_law_33 (by rw [c25] <;> decide) (by rw [c25] <;> decide) (by rw [c25] <;> rfl) (by decide) (lc_25 hC hl i1 i2 i3 i4 i5 hcs2 hS hW kk2)
  by_cases c26 : x = 26
  · exact lv_tableIn (tgt := 952) hx hb dL_law_33 (by rw [c26] <;> decide) (by rw [c26] <;> decide) (by rw [c26] <;> rfl) (by decide) (lc_26 hC hl i1 i2 i3 i4 i5 hcs2 hS hW kk2)
  by_cases c27 : x = 27
  · exact lv_tableIn (tgt := 965) hx hb dL_law_33 (by rw [c27] <;> decide) (by rw [c27] <;> decide) (by rw [c27] <;> rfl) (by decide) (lc_27 hC hl i1 i2 i3 i4 i5 hcs2 hS hW kk2)
  by_cases c28 : x = 28
  · exact lv_tableIn (tgt := 1008) hx hb dL_law_33 (by rw [c28] <;> decide) (by rw [c28] <;> decide) (by rw [c28] <;> rfl) (by decide) (lc_28 hC hl i1 i2 i3 i4 i5 hcs2 hS hW kk2)
  by_cases c29 : x = 29
  · exact lv_tableIn (tgt := 1041) hx hb dL_law_33 (by rw [c29] <;> decide) (by rw [c29] <;> decide) (by rw [c29] <;> rfl) (by decide) (lc_29 hC hl i1 i2 i3 i4 i5 hcs2 hS hW kk2)
  by_cases c30 : x = 30
  · exact lv_tableIn (tgt := 1074) hx hb dL_law_33 (by rw [c30] <;> decide) (by rw [c30] <;> decide) (by rw [c30] <;> rfl) (by decide) (lc_30 hC hl i1 i2 i3 i4 i5 hcs2 hS hW kk2)
  by_cases c31 : x = 31
  · exact lv_tableIn (tgt := 1107) hx hb dL_law_33 (by rw [c31] <;> decide) (by rw [c31] <;> decide) (by rw [c31] <;> rfl) (by decide) (lc_31 hC hl i1 i2 i3 i4 i5 hcs2 hS hW kk2)
  by_cases c32 : x = 32
  · exact lv_tableIn (tgt := 1140) hx hb dL_law_33 (by rw [c32] <;> decide) (by rw [c32] <;> decide) (by rw [c32] <;> rfl) (by decide) (lc_32 hC hl i1 i2 i3 i4 i5 hcs2 hS hW kk2)
  by_cases c33 : x = 33
  · exact lv_tableIn (tgt := 1163) hx hb dL_law_33 (by rw [c33] <;> decide) (by rw [c33] <;> decide) (by rw [c33] <;> rfl) (by decide) (lc_33 hC hl i1 i2 i3 i4 i5 hcs2 hS hW kk2)
  by_cases c34 : x = 34
  · exact lv_tableIn (tgt := 1186) hx hb dL_law_33 (by rw [c34] <;> decide) (by rw [c34] <;> decide) (by rw [c34] <;> rfl) (by decide) (lc_34 hC hl i1 i2 i3 i4 i5 hcs2 hS hW kk2)
  by_cases c35 : x = 35
  · exact lv_tableIn (tgt := 1219) hx hb dL_law_33 (by rw [c35] <;> decide) (by rw [c35] <;> decide) (by rw [c35] <;> rfl) (by decide) (lc_35 hC hl i1 i2 i3 i4 i5 hcs2 hS hW kk2)
  by_cases c36 : x = 36
  · exact lv_tableIn (tgt := 1258) hx hb dL_law_33 (by rw [c36] <;> decide) (by rw [c36] <;> decide) (by rw [c36] <;> rfl) (by decide) (lc_36 hC hl i1 i2 i3 i4 i5 hcs2 hS hW kk2)
  by_cases c37 : x = 37
  · exact lv_tableIn (tgt := 1271) hx hb dL_law_33 (by rw [c37] <;> decide) (by rw [c37] <;> decide) (by rw [c37] <;> rfl) (by decide) (lc_37 hC hl i1 i2 i3 i4 i5 hcs2 hS hW kk2)
  by_cases c38 : x = 38
  · exact lv_tableIn (tgt := 1284) hx hb dL_law_33 (by rw [c38] <;> decide) (by rw [c38] <;> decide) (by rw [c38] <;> rfl) (by decide) (lc_38 hC hl i1 i2 i3 i4 i5 hcs2 hS hW kk2)
  by_cases c39 : x = 39
  · exact lv_tableIn (tgt := 1297) hx hb dL_law_33 (by rw [c39] <;> decide) (by rw [c39] <;> decide) (by rw [c39] <;> rfl) (by decide) (lc_39 hC hl i1 i2 i3 i4 i5 hcs2 hS hW kk2)
  by_cases c40 : x = 40
  · exact lv_tableIn (tgt := 1320) hx hb dL_law_33 (by rw [c40] <;> decide) (by rw [c40] <;> decide) (by rw [c40] <;> rfl) (by decide) (lc_40 hC hl i1 i2 i3 i4 i5 hcs2 hS hW kk2)
  by_cases c41 : x = 41
  · exact lv_tableIn (tgt := 1363) hx hb dL_law_33 (by rw [c41] <;> decide) (by rw [c41] <;> decide) (by rw [c41] <;> rfl) (by decide) (lc_41 hC hl i1 i2 i3 i4 i5 hcs2 hS hW kk2)
  by_cases c42 : x = 42
  · exact lv_tableIn (tgt := 1416) hx hb dL_law_33 (by rw [c42] <;> decide) (by rw [c42] <;> decide) (by rw [c42] <;> rfl) (by decide) (lc_42 hC hl i1 i2 i3 i4 i5 hcs2 hS hW kk2)
  by_cases c43 : x = 43
  · exact lv_tableIn (tgt := 1439) hx hb dL_law_33 (by rw [c43] <;> decide) (by rw [c43] <;> decide) (by rw [c43] <;> rfl) (by decide) (lc_43 hC hl i1 i2 i3 i4 i5 hcs2 hS hW kk2)
  by_cases c44 : x = 44
  · exact lv_tableIn (tgt := 1482) hx hb dL_law_33 (by rw [c44] <;> decide) (by rw [c44] <;> decide) (by rw [c44] <;> rfl) (by decide) (lc_44 hC hl i1 i2 i3 i4 i5 hcs2 hS hW kk2)
  by_cases c45 : x = 45
  · exact lv_tableIn (tgt := 1525) hx hb dL_law_33 (by rw [c45] <;> decide) (by rw [c45] <;> decide) (by rw [c45] <;> rfl) (by decide) (lc_45 hC hl i1 i2 i3 i4 i5 hcs2 hS hW kk2)
  by_cases c46 : x = 46
  · exact lv_tableIn (tgt := 1548) hx hb dL_law_33 (by rw [c46] <;> decide) (by rw [c46] <;> decide) (by rw [c46] <;> rfl) (by decide) (lc_46 hC hl i1 i2 i3 i4 i5 hcs2 hS hW kk2)
  by_cases c47 : x = 47
  · exact lv_tableIn (tgt := 1561) hx hb dL_law_33 (by rw [c47] <;> decide) (by rw [c47] <;> decide) (by rw [c47] <;> rfl) (by decide) (lc_47 hC hl i1 i2 i3 i4 i5 hcs2 hS hW kk2)
  by_cases c48 : x = 48
  · exact lv_tableIn (tgt := 1594) hx hb dL_law_33 (by rw [c48] <;> decide) (by rw [c48] <;> decide) (by rw [c48] <;> rfl) (by decide) (lc_48 hC hl i1 i2 i3 i4 i5 hcs2 hS hW kk2)
  by_cases c49 : x = 49
  · exact lv_tableIn (tgt := 1617) hx hb dL_law_33 (by rw [c49] <;> decide) (by rw [c49] <;> decide) (by rw [c49] <;> rfl) (by decide) (lc_49 hC hl i1 i2 i3 i4 i5 hcs2 hS hW kk2)
  by_cases c50 : x = 50
  · exact lv_tableIn (tgt := 1640) hx hb dL_law_33 (by rw [c50] <;> decide) (by rw [c50] <;> decide) (by rw [c50] <;> rfl) (by decide) (lc_50 hC hl i1 i2 i3 i4 i5 hcs2 hS hW kk2)
  by_cases c51 : x = 51
  · exact lv_tableIn (tgt := 1663) hx hb dL_law_33 (by rw [c51] <;> decide) (by rw [c51] <;> decide) (by rw [c51] <;> rfl) (by decide) (lc_51 hC hl i1 i2 i3 i4 i5 hcs2 hS hW kk2)
  by_cases c52 : x = 52
  · exact lv_tableIn (tgt := 1686) hx hb dL_law_33 (by rw [c52] <;> decide) (by rw [c52] <;> decide) (by rw [c52] <;> rfl) (by decide) (lc_52 hC hl i1 i2 i3 i4 i5 hcs2 hS hW kk2)
  by_cases c53 : x = 53
  · exact lv_tableIn (tgt := 1729) hx hb dL_law_33 (by rw [c53] <;> decide) (by rw [c53] <;> decide) (by rw [c53] <;> rfl) (by decide) (lc_53 hC hl i1 i2 i3 i4 i5 hcs2 hS hW kk2)
  by_cases c54 : x = 54
  · exact lv_tableIn (tgt := 1752) hx hb dL_law_33 (by rw [c54] <;> decide) (by rw [c54] <;> decide) (by rw [c54] <;> rfl) (by decide) (lc_54 hC hl i1 i2 i3 i4 i5 hcs hS hW kk)
  by_cases c55 : x = 55
  · exact lv_tableIn (tgt := 1775) hx hb dL_law_33 (by rw [c55] <;> decide) (by rw [c55] <;> decide) (by rw [c55] <;> rfl) (by decide) (lc_55 hC hl i1 i2 i3 i4 i5 hcs2 hS hW kk2)
  by_cases c56 : x = 56
  · exact lv_tableIn (tgt := 1798) hx hb dL_law_33 (by rw [c56] <;> decide) (by rw [c56] <;> decide) (by rw [c56] <;> rfl) (by decide) (lc_56 hC hl i1 i2 i3 i4 i5 hcs2 hS hW kk2)
  by_cases c57 : x = 57
  · exact lv_tableIn (tgt := 1841) hx hb dL_law_33 (by rw [c57] <;> decide) (by rw [c57] <;> decide) (by rw [c57] <;> rfl) (by decide) (lc_57 hC hl i1 i2 i3 i4 i5 hcs2 hS hW kk2)
  by_cases c58 : x = 58
  · exact lv_tableIn (tgt := 1914) hx hb dL_law_33 (by rw [c58] <;> decide) (by rw [c58] <;> decide) (by rw [c58] <;> rfl) (by decide) (lc_58 hC hl i1 i2 i3 i4 i5 hcs2 hS hW kk2)
  refine lv_tableOut (tgt := 1977) hx hb dL_law_33 ?_ (by decide) (kk2 H locs hW.f hS)
  have := sw_ne c0
  have := sw_ne c1
  have := sw_ne c2
  have := sw_ne c3
  have := sw_ne c4
  have := sw_ne c5
  have := sw_ne c6
  have := sw_ne c7
  have := sw_ne c8
  have := sw_ne c9
  have := sw_ne c10
  have := sw_ne c11
  have := sw_ne c12
  have := sw_ne c13
  have := sw_ne c14
  have := sw_ne c15
  have := sw_ne c16
  have := sw_ne c17
  have := sw_ne c18
  have := sw_ne c19
  have := sw_ne c20
  have := sw_ne c21
  have := sw_ne c22
  have := sw_ne c23
  have := sw_ne c24
  have := sw_ne c25
  have := sw_ne c26
  have := sw_ne c27
  have := sw_ne c28
  have := sw_ne c29
  have := sw_ne c30
  have := sw_ne c31
  have := sw_ne c32
  have := sw_ne c33
  have := sw_ne c34
  have := sw_ne c35
  have := sw_ne c36
  have := sw_ne c37
  have := sw_ne c38
  have := sw_ne c39
  have := sw_ne c40
  have := sw_ne c41
  have := sw_ne c42
  have := sw_ne c43
  have := sw_ne c44
  have := sw_ne c45
  have := sw_ne c46
  have := sw_ne c47
  have := sw_ne c48
  have := sw_ne c49
  have := sw_ne c50
  have := sw_ne c51
  have := sw_ne c52
  have := sw_ne c53
  have := sw_ne c54
  have := sw_ne c55
  have := sw_ne c56
  have := sw_ne c57
  have := sw_ne c58
  simp only [show (0 : Int32).toInt = 0 from rfl, show (1 : Int32).toInt = 1 from rfl, show (2 : Int32).toInt = 2 from rfl, show (3 : Int32).toInt = 3 from rfl, show (4 : Int32).toInt = 4 from rfl, show (5 : Int32).toInt = 5 from rfl, show (6 : Int32).toInt = 6 from rfl, show (7 : Int32).toInt = 7 from rfl, show (8 : Int32).toInt = 8 from rfl, show (9 : Int32).toInt = 9 from rfl, show (10 : Int32).toInt = 10 from rfl, show (11 : Int32).toInt = 11 from rfl, show (12 : Int32).toInt = 12 from rfl, show (13 : Int32).toInt = 13 from rfl, show (14 : Int32).toInt = 14 from rfl, show (15 : Int32).toInt = 15 from rfl, show (16 : Int32).toInt = 16 from rfl, show (17 : Int32).toInt = 17 from rfl, show (18 : Int32).toInt = 18 from rfl, show (19 : Int32).toInt = 19 from rfl, show (20 : Int32).toInt = 20 from rfl, show (21 : Int32).toInt = 21 from rfl, show (22 : Int32).toInt = 22 from rfl, show (23 : Int32).toInt = 23 from rfl, show (24 : Int32).toInt = 24 from rfl, show (25 : Int32).toInt = 25 from rfl, show (26 : Int32).toInt = 26 from rfl, show (27 : Int32).toInt = 27 from rfl, show (28 : Int32).toInt = 28 from rfl, show (29 : Int32).toInt = 29 from rfl, show (30 : Int32).toInt = 30 from rfl, show (31 : Int32).toInt = 31 from rfl, show (32 : Int32).toInt = 32 from rfl, show (33 : Int32).toInt = 33 from rfl, show (34 : Int32).toInt = 34 from rfl, show (35 : Int32).toInt = 35 from rfl, show (36 : Int32).toInt = 36 from rfl, show (37 : Int32).toInt = 37 from rfl, show (38 : Int32).toInt = 38 from rfl, show (39 : Int32).toInt = 39 from rfl, show (40 : Int32).toInt = 40 from rfl, show (41 : Int32).toInt = 41 from rfl, show (42 : Int32).toInt = 42 from rfl, show (43 : Int32).toInt = 43 from rfl, show (44 : Int32).toInt = 44 from rfl, show (45 : Int32).toInt = 45 from rfl, show (46 : Int32).toInt = 46 from rfl, show (47 : Int32).toInt = 47 from rfl, show (48 : Int32).toInt = 48 from rfl, show (49 : Int32).toInt = 49 from rfl, show (50 : Int32).toInt = 50 from rfl, show (51 : Int32).toInt = 51 from rfl, show (52 : Int32).toInt = 52 from rfl, show (53 : Int32).toInt = 53 from rfl, show (54 : Int32).toInt = 54 from rfl, show (55 : Int32).toInt = 55 from rfl, show (56 : Int32).toInt = 56 from rfl, show (57 : Int32).toInt = 57 from rfl, show (58 : Int32).toInt = 58 from rfl] at *
  omega
theorem lp_in {t L j : Nat} (hL : L ≤ 3072) (h : 6 * t + 6 ≤ L) (hj : j < 6) : vp_in (nI (6 * t) + nI j) L := by
  rw [nI_add]
  exact vp_in_nI (by omega) (by omega)
set_option maxHeartbeats 4000000 in
theorem lp_all {p : Program} {l : Launch} {e : Env} {s : State} {m : MethodId} {below : List Frame} {meth : Method} {c : Code} {b L : Nat} {xs : Nat → Int32} {D : va_G} {C : Nat → ClassId} {L0 m0 : Nat} (hL9 : L ≤ 3072) (hC : LC p s m c b L xs D C (fun q : Nat => s.heap.size ≤ q)) (hr : meth.sig.returnType = ret) (hlocks : meth.locks = false) : ∀ (d t : Nat), L ≤ 6 * t + 6 * d → 6 * t ≤ 3072 → ∀ (H : Heap) (locs : List Loc) (ls : Array Slot), LSt (t = 0) D C (fun q : Nat => s.heap.size ≤ q) L0 m0 H → va_S (fun q : Nat => s.heap.size ≤ q) s.heap H locs → lv_has ls 4 [(3, .int (nI (6 * t))), (2, .ref m0), (1, .ref L0), (0, .ref b)] → W p l e room_1 s m #[Value.ref b] below meth c H locs (107 + 22 * t) (286978 + 163 * t) (lw_Z below #[Value.ref b] s) (F0 m 18 ls []) := by
  have C9 := hC
  obtain ⟨hx, hb, hml, hown, hw, hK, hN, hA, hX, hbl, hbA, hZ⟩ := C9
  have hroom := rm_slots
  have hL : L ≤ 3072 := by omega
  intro d
  induction d with
  | zero =>
    intro t h1 h2 H locs ls hW hS hl
    refine lv_iload_n hx hb dL_law_18 rfl (lv_at hl 0 rfl) ?_
    refine lv_aload_n hx hb dL_law_19 rfl (lv_at hl 3 rfl) ?_
    refine va_slen hx hb hX hbl hbA hS dL_law_20 ?_
    refine lv_bipush (v := 6) hx hb dL_law_21 (by decide) ?_
    refine lv_isub hx hb dL_law_23 ?_
    refine lv_icmp_gt (tgt := 1983) hx hb dL_law_24 (by decide) (fun _ => ?_) (fun c9 => absurd (lp_end hL (by omega) (by omega)) c9)
    exact lp_ret hx hb hr hlocks hS (by omega) (by omega)
  | succ d ih =>
    intro t h1 h2 H locs ls hW hS hl
    refine lv_iload_n hx hb dL_law_18 rfl (lv_at hl 0 rfl) ?_
    refine lv_aload_n hx hb dL_law_19 rfl (lv_at hl 3 rfl) ?_
    refine va_slen hx hb hX hbl hbA hS dL_law_20 ?_
    refine lv_bipush (v := 6) hx hb dL_law_21 (by decide) ?_
    refine lv_isub hx hb dL_law_23 ?_
    by_cases c1 : 6 * t + 6 ≤ L
    · refine lv_icmp_gt (tgt := 1983) hx hb dL_law_24 (by decide) (fun c9 => absurd c9 (lp_go hL c1)) (fun _ => ?_)
      refine lv_aload_n hx hb dL_law_27 rfl (lv_at hl 3 rfl) ?_
      refine lv_iload_n hx hb dL_law_28 rfl (lv_at hl 0 rfl) ?_
      refine va_sld hx hb hX hbl hbA hS (vp_in_nI (by omega) (by omega)) dL_law_29 ?_
      refine lv_bipush (v := 63) hx hb dL_law_30 (by decide) ?_
      refine lv_iand hx hb dL_law_32 ?_
      refine lc_all hC hl (lp_in hL c1 (j := 1) (by decide)) (lp_in hL c1 (j := 2) (by decide)) (lp_in hL c1 (j := 3) (by decide)) (lp_in hL c1 (j := 4) (by decide)) (lp_in hL c1 (j := 5) (by decide)) ⟨by omega, by omega⟩ hS hW  (fun H locs hW hS => ?_)
      refine lv_iinc (v := nI (6 * (t + 1))) (lv' := [(3, .int (nI (6 * (t + 1)))), (2, .ref m0), (1, .ref L0), (0, .ref b)]) hx hb dL_law_1977 hl (k := 0) rfl (lp_inc t) (by decide) rfl (fun ls hl => ?_)
      refine lv_goto (tgt := 18) hx hb dL_law_1980 (by decide) ?_
      have g9 := ih (t + 1) (by omega) (by omega) H locs ls (hW.g (by omega)) hS hl
      rw [show 107 + 22 * (t + 1) = 107 + 22 * t + 22 by omega, show 286978 + 163 * (t + 1) = 286978 + 163 * t + 163 by omega] at g9
      exact g9
    · refine lv_icmp_gt (tgt := 1983) hx hb dL_law_24 (by decide) (fun _ => ?_) (fun c9 => absurd (lp_end hL (by omega) (by omega)) c9)
      exact lp_ret hx hb hr hlocks hS (by omega) (by omega)
