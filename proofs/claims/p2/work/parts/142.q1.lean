/-! promises 6 to 19, call by call: both answer alike, and the invariant stays -/
section Q
variable {us : A1} {ua : A2} {rs : A1} {ra ra2 sa : A2} {sl : L2} {ns : A1} {na : A2} {nl : L2} {yt : Int32} {im : Img} {ms : A1} {ma : A2} {ml : L2}
theorem q_light (hI : Inv us ua rs ra ra2 sa sl ns na nl yt im ms ma ml) (p : Int32) : P_X11_light rs ra p (fun r => P_X12_light ms ma p (fun r' mt => r = r' ∧ Inv us ua rs ra ra2 sa sl ns na nl yt im mt ma ml)) := by
  obtain ⟨v, hv, hC, hM, hP, hY, hK, hB, F⟩ := hI.get
  have h0 := ok0 hv.1
  have fin := F ra2 ns na nl _ _ _ (MG.refl _ _ _) hM.1 hB hK
  rcases ixs p (n := v 0 0) (by omega) with h | ⟨j, hj, rfl⟩
  · exact c_hasP0 hC h (b0f (m_isP0 hM.1 hv.1 h (b0f ⟨rfl, fin⟩)))
  · refine c_hasP hC hv.1 hj (b1f (c_lightOf hC hv.1 (by omega) (m_isP hM.1 hv.1 hj (b1f ?_))))
    exact m_lightOf (j := 0) hv.1 hM.1 hM.2.2 (by decide) (by omega) ⟨rfl, fin⟩
theorem q_bike (hI : Inv us ua rs ra ra2 sa sl ns na nl yt im ms ma ml) (p w : Int32) : P_X11_bike rs ra p w (fun r => P_X12_bike ms ma p w (fun r' mt => r = r' ∧ Inv us ua rs ra ra2 sa sl ns na nl yt im mt ma ml)) := by
  obtain ⟨v, hv, hC, hM, hP, hY, hK, hB, F⟩ := hI.get
  have h13 := ok13 hv.1
  have fin := F ra2 ns na nl _ _ _ (MG.refl _ _ _) hM.1 hB hK
  rcases ixs p (n := v 13 0) (by omega) with h | ⟨j, hj, rfl⟩
  · exact c_hasB0 hC h (b0t (m_isB0 hM.1 hv.1 h (b0f ⟨rfl, fin⟩)))
  · obtain ⟨a1, a2, a3, a4, a5⟩ := hC.2.2.2.2.1 j hj
    obtain ⟨m1, m2, m3, m4, m5⟩ := hM.1.2.2.2.1 j hj
    have b24 := (hv.1.2.2.2.2.1 j hj).2.2.2.2
    have G : ∀ (i : Nat) (x : Int32), i < 5 → ma 11 (5 * (10 * 0 + j) + i) = x → P_X12_bike ms ma (nI j) (nI i) (fun r' mt => x = r' ∧ Inv us ua rs ra ra2 sa sl ns na nl yt im mt ma ml) := by
      intro i x hi hx
      refine m_isB hM.1 hv.1 hj (b1f (m_inL_ok (m := 4) (by omega) (by decide) (b1f ?_)))
      show vp_in ((5 : Int32) * ((10 : Int32) * nI 0 + nI j) + nI i) 250 ∧ (x = ma 11 (((5 : Int32) * ((10 : Int32) * nI 0 + nI j) + nI i).toNatClampNeg) ∧ _)
      rw [ix5 0 j i, nI_clamp (by omega), hx]
      exact ⟨vp_in_nI (by omega) (by decide), rfl, fin⟩
    refine c_hasB hC hv.1 hj (b1t ?_)
    rw [nI_clamp (by omega), a1, a2, a3, a4, a5]
    refine ⟨fun e => ⟨vp_in_nI (by omega) (by decide), ?_⟩, fun e => ⟨vp_in_nI (by omega) (by decide), ?_⟩, fun e => ⟨vp_in_nI (by omega) (by decide), ?_⟩, fun e => ⟨vp_in_nI (by omega) (by decide), ?_⟩, fun e => ⟨vp_in_nI (by omega) (by decide), ?_⟩, fun e0 e1 e2 e3 e4 => ?_⟩
    · rw [e]; exact G 0 _ (by decide) m1
    · rw [e]; exact G 1 _ (by decide) m2
    · rw [e]; exact G 2 _ (by decide) m3
    · rw [e]; exact G 3 _ (by decide) m4
    · rw [e]
      refine ⟨fun c => ?_, fun c => ?_⟩
      · have z : v 24 j = 0 := (nI_eq (b := 0) (by omega) (by decide)).mp c
        exact G 4 _ (by decide) (by rw [m5, z]; rfl)
      · have z : v 24 j = 1 := by
          have : v 24 j ≠ 0 := fun q => c (by rw [q]; rfl)
          omega
        exact G 4 _ (by decide) (by rw [m5, z]; rfl)
    · refine m_isB hM.1 hv.1 hj (b1f (m_inL_bad (m := 4) ?_ (by decide) (b0f ⟨rfl, fin⟩)))
      rcases ixs w (n := 5) (by decide) with h | ⟨i, hi, rfl⟩
      · exact h
      · exfalso
        have : i = 0 ∨ i = 1 ∨ i = 2 ∨ i = 3 ∨ i = 4 := by omega
        rcases this with rfl | rfl | rfl | rfl | rfl
        · exact e0 rfl
        · exact e1 rfl
        · exact e2 rfl
        · exact e3 rfl
        · exact e4 rfl
theorem q_trouble (hI : Inv us ua rs ra ra2 sa sl ns na nl yt im ms ma ml) (p w : Int32) : P_X11_trouble rs ra p w (fun r => P_X12_trouble ms ma p w (fun r' mt => r = r' ∧ Inv us ua rs ra ra2 sa sl ns na nl yt im mt ma ml)) := by
  obtain ⟨v, hv, hC, hM, hP, hY, hK, hB, F⟩ := hI.get
  have h13 := ok13 hv.1
  have h14 := ok14 hv.1
  have fin := F ra2 ns na nl _ _ _ (MG.refl _ _ _) hM.1 hB hK
  rcases ixs p (n := v 14 0) (by omega) with h | ⟨t, ht, rfl⟩
  · exact c_hasT0 hC h (b0f (m_isT0 hM.2.1 hv.1 h (b0f ⟨rfl, fin⟩)))
  · rcases ixs w (n := v 13 0) (by omega) with h | ⟨b, hb, rfl⟩
    · exact c_hasT hC hv.1 ht (b1f (c_hasB0 hC h (b0t (m_isT hM.2.1 hv.1 ht (b1f (m_isB0 hM.1 hv.1 h (b0f ⟨rfl, fin⟩)))))))
    · refine c_hasT hC hv.1 ht (b1f (c_hasB hC hv.1 hb (b1t ⟨vp_in_nI (by omega) (by decide), ?_⟩)))
      rw [nI_clamp (by omega), (hC.2.2.2.2.1 b hb).2.2.1]
      refine c_lightOf hC hv.1 (hv.1.2.2.2.2.1 b hb).2.2.1 (c_troubleOf hC hv.1 ht hb rfl ?_)
      exact m_isT hM.2.1 hv.1 ht (b1f (m_isB hM.1 hv.1 hb (b1f (m_troubleOf (j := 0) hv.1 hM (by decide) ht hb ⟨rfl, fin⟩))))
theorem q_gain (hI : Inv us ua rs ra ra2 sa sl ns na nl yt im ms ma ml) (p : Int32) : P_X11_gain rs ra p (fun r => P_X12_gain ms ma p (fun r' mt => r = r' ∧ Inv us ua rs ra ra2 sa sl ns na nl yt im mt ma ml)) := by
  obtain ⟨v, hv, hC, hM, hP, hY, hK, hB, F⟩ := hI.get
  have h13 := ok13 hv.1
  have fin := F ra2 ns na nl _ _ _ (MG.refl _ _ _) hM.1 hB hK
  rcases ixs p (n := v 13 0) (by omega) with h | ⟨b, hb, rfl⟩
  · exact c_hasB0 hC h (b0f (m_isB0 hM.1 hv.1 h (b0f ⟨rfl, fin⟩)))
  · refine c_hasB hC hv.1 hb (b1f ?_)
    rw [rc_s hC 13]
    refine c_markedOnes h13 (fun b hb => ⟨(hC.2.2.2.2.1 b hb).2.2.2.2, (hv.1.2.2.2.2.1 b hb).2.2.2.2⟩) ?_
    exact c_gainOf hC hv.1 hb (m_isB hM.1 hv.1 hb (b1f (m_gainOf (j := 0) hv.1 hM.1 (by decide) hb ⟨rfl, fin⟩)))
theorem q_takes (hI : Inv us ua rs ra ra2 sa sl ns na nl yt im ms ma ml) (p w : Int32) : P_X11_takes rs ra ns na p w (fun r ns' na' => P_X12_takes_ ms ma p w (fun r' mt mb => r = r' ∧ Inv us ua rs ra ra2 sa sl ns' na' nl yt im mt mb ml)) := by
  obtain ⟨v, hv, hC, hM, hP, hY, hK, hB, F⟩ := hI.get
  have h13 := ok13 hv.1
  have h14 := ok14 hv.1
  have hn := pow13 h13
  have fin := F ra2 ns na nl _ _ _ (MG.refl _ _ _) hM.1 hB hK
  rcases ixs p (n := v 14 0) (by omega) with h | ⟨t, ht, rfl⟩
  · exact c_hasT0 hC h (b0f (m_isT0 hM.2.1 hv.1 h (b0f ⟨rfl, fin⟩)))
  · rcases ixs w (n := 2 ^ v 13 0) (by omega) with h | ⟨g, hg, rfl⟩
    · exact c_hasT hC hv.1 ht (b1f (c_hasS0 hC hv.1 h (b0t (m_isT hM.2.1 hv.1 ht (b1f (m_inS0 hM.1 hv.1 h (b0t ⟨rfl, fin⟩)))))))
    · refine c_hasT hC hv.1 ht (b1f (c_hasS hC hv.1 hg (b1t (c_lookAt hC hv.1 (fun nb hN hb => c_pickN hN ht h14 (by omega) ?_)))))
      refine m_isT hM.2.1 hv.1 ht (b1f (m_inS hM.1 hv.1 hg (b1t (m_lays hv.1 hM none (by decide) (fun mb hL hmb => ?_)))))
      have hF : MF (va_up ms 0 0) ma ml (va_up (va_up ms 0 0) 12 (nI (thO v none))) mb ml := ⟨fun j hj => up_ne hj, hmb, fun _ _ _ _ => rfl⟩
      exact m_takesOf (s := 0) hv.1 hv.2.1 (by decide) (hF.rm hM).2.1 hL ht (by omega) ⟨rfl, F _ _ _ _ _ _ _ hF.g (hF.rm hM).1 hB (hK.look hb _)⟩
theorem q_wants (hI : Inv us ua rs ra ra2 sa sl ns na nl yt im ms ma ml) (p : Int32) : P_X11_wants rs ra ns na p (fun r ns' na' => P_X12_wants ms ma p (fun r' mt mb => r = r' ∧ Inv us ua rs ra ra2 sa sl ns' na' nl yt im mt mb ml)) := by
  obtain ⟨v, hv, hC, hM, hP, hY, hK, hB, F⟩ := hI.get
  have h13 := ok13 hv.1
  have h14 := ok14 hv.1
  have fin := F ra2 ns na nl _ _ _ (MG.refl _ _ _) hM.1 hB hK
  rcases ixs p (n := v 14 0) (by omega) with h | ⟨t, ht, rfl⟩
  · exact c_hasT0 hC h (b0t (m_isT0 hM.2.1 hv.1 h (b0t ⟨rfl, fin⟩)))
  · refine c_hasT hC hv.1 ht (b1t (c_lookAt hC hv.1 (fun nb hN hb => c_wantedBy hC hv.1 hN ht ?_)))
    refine m_isT hM.2.1 hv.1 ht (b1t (m_lays hv.1 hM none (by decide) (fun mb hL hmb => ?_)))
    have hF : MF (va_up ms 0 0) ma ml (va_up (va_up ms 0 0) 12 (nI (thO v none))) mb ml := ⟨fun j hj => up_ne hj, hmb, fun _ _ _ _ => rfl⟩
    exact m_wantsOf (s := 0) hv.1 (by decide) (hF.rm hM).1 hL ht ⟨rfl, F _ _ _ _ _ _ _ hF.g (hF.rm hM).1 hB (hK.look hb _)⟩
theorem m_isS {v : Rl} (hN : RelN v 0 ma) (hv : okV v) (z : 0 < v 2 0) {g : Nat} (h : g < 2 ^ v 13 0) {post : Int32 → Prop} (hp : post 1) : P_X12_isSet ma (nI g) post := m_rail hN hv z (b1f (m_inS hN hv h (b1f hp)))
theorem m_isS0 {v : Rl} (hN : RelN v 0 ma) (hv : okV v) (z : 0 < v 2 0) {p : Int32} (h : p < 0 ∨ nI (2 ^ v 13 0) ≤ p) {post : Int32 → Prop} (hp : post 0) : P_X12_isSet ma p post := m_rail hN hv z (b1f (m_inS0 hN hv h (b0f hp)))
theorem m_isS00 {v : Rl} (hN : RelN v 0 ma) (hv : okV v) (z : v 2 0 = 0) {p : Int32} {post : Int32 → Prop} (hp : post 0) : P_X12_isSet ma p post := m_rail0 hN hv z (b0f hp)
theorem q_part (hI : Inv us ua rs ra ra2 sa sl ns na nl yt im ms ma ml) (p : Int32) : P_X11_part rs ra ns na nl p (fun r ns' na' nl' => P_X12_part ms ma ml p (fun r' mt mb mk => r = r' ∧ Inv us ua rs ra ra2 sa sl ns' na' nl' yt im mt mb mk)) := by
  obtain ⟨v, hv, hC, hM, hP, hY, hK, hB, F⟩ := hI.get
  have h13 := ok13 hv.1
  have hn := pow13 h13
  have fin := F ra2 ns na nl _ _ _ (MG.refl _ _ _) hM.1 hB hK
  rcases Nat.eq_zero_or_pos (v 2 0) with z | z
  · exact c_told0 hC z (b0f (m_isS00 hM.1 hv.1 z (b0t ⟨rfl, fin⟩)))
  · rcases ixs p (n := 2 ^ v 13 0) (by omega) with h | ⟨g, hg, rfl⟩
    · exact c_told hC hv.1 z (b1f (c_hasS0 hC hv.1 h (b0t (m_isS0 hM.1 hv.1 z h (b0t ⟨rfl, fin⟩)))))
    · refine c_told hC hv.1 z (b1f (c_hasS hC hv.1 hg (b1t (c_play hC hv.1 hK (fun ns' na' nl' hPl => ?_)))))
      obtain ⟨⟨E, hE⟩, hK', -, -⟩ := hPl
      refine c_partsOf hE (by omega) ?_
      refine m_isS hM.1 hv.1 z hg (b1t (m_nightF hv.1 hv.2.1 hM (fun mt mb mk hF hMP => ⟨vp_in_nI (by omega) (by decide), ?_⟩)))
      rw [nI_clamp (by omega), hMP.1 g hg]
      exact ⟨rfl, F _ _ _ _ _ _ _ hF.g (hF.rm hM).1 hB hK'⟩
theorem q_many (hI : Inv us ua rs ra ra2 sa sl ns na nl yt im ms ma ml) (p : Int32) : P_X11_many rs ra ns na nl p (fun r ns' na' nl' => P_X12_many ms ma ml p (fun r' mt mb mk => r = r' ∧ Inv us ua rs ra ra2 sa sl ns' na' nl' yt im mt mb mk)) := by
  obtain ⟨v, hv, hC, hM, hP, hY, hK, hB, F⟩ := hI.get
  have h13 := ok13 hv.1
  have hn := pow13 h13
  have fin := F ra2 ns na nl _ _ _ (MG.refl _ _ _) hM.1 hB hK
  rcases Nat.eq_zero_or_pos (v 2 0) with z | z
  · exact c_told0 hC z (b0f (m_rail0 hM.1 hv.1 z (b0f ⟨rfl, fin⟩)))
  · have e10 : ma 10 0 = nI (v 13 0) := hM.1.1.2.2.2.2
    rcases ixs p (n := v 13 0 + 1) (by omega) with h | ⟨k, hk, rfl⟩
    · have M : P_X12_many ms ma ml p (fun r' mt mb mk => -2 = r' ∧ Inv us ua rs ra ra2 sa sl ns na nl yt im mt mb mk) := by
        refine m_rail hM.1 hv.1 z (b1f ?_)
        rw [e10, nI_l (by omega)]
        exact m_inL_bad h (by omega) (b0t ⟨rfl, fin⟩)
      refine c_told hC hv.1 z (b1f ⟨fun _ => M, fun c => ⟨fun c2 => ?_, fun _ => M⟩⟩)
      exfalso
      rw [rc_s hC 13] at c2
      have h2 := h.resolve_left c
      rw [Int32.le_iff_toInt_le, nI_toInt (by omega)] at h2 c2
      omega
    · refine c_told hC hv.1 z (b1f ⟨fun c => absurd c (nI_pos (by omega)), fun _ => ⟨fun _ => ?_, fun c => absurd (by rw [rc_s hC 13]; exact nI_le (by omega) (by omega)) c⟩⟩)
      refine c_play hC hv.1 hK (fun ns' na' nl' hPl => ?_)
      obtain ⟨⟨E, hE⟩, hK', -, -⟩ := hPl
      -- the reference
      have M : P_X12_many ms ma ml (nI k) (fun r' mt mb mk => sumL (fun q => if popc (q % 2048) = k then nD v 0 0 D1 (v 14 0) q else 0) N17 = r' ∧ Inv us ua rs ra ra2 sa sl ns' na' nl' yt im mt mb mk) := by
        refine m_rail hM.1 hv.1 z (b1f ?_)
        rw [e10, show (nI (v 13 0)).toInt64 = lN (v 13 0) from nI_l (by omega)]
        refine m_inL_ok (by omega) (by omega) (b1t (m_nightF hv.1 hv.2.1 hM (fun mt mb mk hF hMP => ?_)))
        have e10' : mb 10 0 = nI (v 13 0) := (hF.rm hM).1.1.2.2.2.2
        have fin2 := F ra2 ns' na' nl' mt mb mk hF.g (hF.rm hM).1 hB hK'
        have hN : 2 ^ v 13 0 ≤ N17 := by unfold N17; omega
        have L : ∀ d i, i + d = 2 ^ v 13 0 → P_X12_many_41 (nI k) (fun r' mt mb mk => sumL (fun q => if popc (q % 2048) = k then nD v 0 0 D1 (v 14 0) q else 0) N17 = r' ∧ Inv us ua rs ra ra2 sa sl ns' na' nl' yt im mt mb mk) mt mb mk (d + 1) (sumL (fun q => if popc (q % 2048) = k then nD v 0 0 D1 (v 14 0) q else 0) i) (nI i) := by
          intro d
          induction d with
          | zero =>
            intro i hi
            obtain rfl : i = 2 ^ v 13 0 := by omega
            unfold P_X12_many_41 P_X12_many_41_b
            rw [e10', sh1 (by omega)]
            refine ⟨fun _ => ⟨?_, fin2⟩, fun c => absurd (nI_le (Nat.le_refl _) (by omega)) c⟩
            exact sumL_ext hN (fun q h1 _ => by rw [nD_out h13 h1]; simp)
          | succ d ih =>
            intro i hi
            have go := ih (i + 1) (by omega)
            rw [sumL] at go
            unfold P_X12_many_41 P_X12_many_41_b
            rw [e10', sh1 (by omega)]
            refine ⟨fun c => absurd ((nI_leI (by omega) (by omega)).mp c) (by omega), fun _ => m_sizeOf (by omega) ?_⟩
            have hp : popc i ≤ 11 := by
              have := sumN_le (f := fun j => if i.testBit j then 1 else 0) (c := 1) (n := 11) (fun j _ => by split <;> omega)
              unfold popc
              omega
            rw [nI_eq (by omega) (by omega), nI_1, nI_clamp (by omega), hMP.1 i (by omega)]
            rw [Nat.mod_eq_of_lt (show i < 2048 by omega)] at go
            refine ⟨fun c x hx => ?_, fun c => ⟨vp_in_nI (by omega) (by decide), fun x hx => ?_⟩⟩
            · rw [if_neg c] at go
              rw [hx]; exact go
            · rw [if_pos c] at go
              rw [hx]; exact go
        exact ⟨2 ^ v 13 0 + 1, L (2 ^ v 13 0) 0 (by omega)⟩
      obtain ⟨s1, s2, s3, s4, s5, -⟩ := hE
      have L : ∀ (d i : Nat), i + d = E.length → P_X3_partsOfMany_5 ns' na' nl' (nI k) (fun r => P_X12_many ms ma ml (nI k) (fun r' mt mb mk => r = r' ∧ Inv us ua rs ra ra2 sa sl ns' na' nl' yt im mt mb mk)) (d + 1) (sumE (E.take i) (fun q => if popc (q % 2048) = k then nD v 0 0 D1 (v 14 0) q else 0)) (nI i) := by
        intro d
        induction d with
        | zero =>
          intro i hi
          obtain rfl : i = E.length := by omega
          rw [List.take_length]
          refine ⟨fun _ => ?_, fun c => absurd ((cmp_le s1 (by omega) (by omega)).mpr (Nat.le_refl _)) c⟩
          rw [sumE_range (n := N17) s3 (fun q hq => by
            obtain ⟨i, hi, e⟩ := mem_getD hq
            rw [← e]
            exact (s5 i hi).2.1) (fun q _ hq => by rw [s4 q hq]; simp)]
          exact M
        | succ d ih =>
          intro i hi
          have hil : i < E.length := by omega
          obtain ⟨a1, a2, a3⟩ := s5 i hil
          have go := ih (i + 1) (by omega)
          rw [sumE_take hil] at go
          refine ⟨fun c => absurd ((cmp_le s1 (by omega) (by omega)).mp c) (by omega), fun _ => ⟨vp_in_nI (by omega) (by omega), ?_⟩⟩
          rw [nI_clamp (by omega), a1, and2047 (by omega)]
          refine c_bitCount (Nat.mod_lt _ (by decide)) ?_
          have hp : popc (E.getD i 0 % 2048) ≤ 11 := by
            have := sumN_le (f := fun j => if (E.getD i 0 % 2048).testBit j then 1 else 0) (c := 1) (n := 11) (fun j _ => by split <;> omega)
            unfold popc
            omega
          rw [nI_eq (by omega) (by omega), a3, nI_1]
          refine ⟨fun c => ?_, fun c => ⟨vp_in_nI (by omega) (by omega), fun x hx => ?_⟩⟩
          · rw [if_neg c, Int64.add_zero] at go
            exact go
          · rw [if_pos c] at go
            rw [hx]; exact go
      exact ⟨E.length + 1, L E.length 0 (by omega)⟩
theorem q_risk (hI : Inv us ua rs ra ra2 sa sl ns na nl yt im ms ma ml) (p : Int32) : P_X11_risk rs ra ns na nl p (fun r ns' na' nl' => P_X12_risk ms ma ml p (fun r' mt mb mk => r = r' ∧ Inv us ua rs ra ra2 sa sl ns' na' nl' yt im mt mb mk)) := by
  obtain ⟨v, hv, hC, hM, hP, hY, hK, hB, F⟩ := hI.get
  have h13 := ok13 hv.1
  have fin := F ra2 ns na nl _ _ _ (MG.refl _ _ _) hM.1 hB hK
  rcases ixs p (n := v 13 0) (by omega) with h | ⟨b, hb, rfl⟩
  · exact c_hasB0 hC h (b0t (m_isB0 hM.1 hv.1 h (b0f ⟨rfl, fin⟩)))
  · refine c_hasB hC hv.1 hb (b1t (c_play hC hv.1 hK (fun ns' na' nl' hPl => c_riskOf hPl.2.2.2 (by omega) ?_)))
    exact m_isB hM.1 hv.1 hb (b1f (m_nightF hv.1 hv.2.1 hM (fun mt mb mk hF hMP => m_riskOf hv.1 (hF.rm hM).1 hMP hb ⟨rfl, F _ _ _ _ _ _ _ hF.g (hF.rm hM).1 hB hPl.2.1⟩)))
theorem q_has (hI : Inv us ua rs ra ra2 sa sl ns na nl yt im ms ma ml) (p w : Int32) : P_X11_has rs ra ns na nl p w (fun r ns' na' nl' => P_X12_has ms ma ml p w (fun r' mt mb mk => r = r' ∧ Inv us ua rs ra ra2 sa sl ns' na' nl' yt im mt mb mk)) := by
  obtain ⟨v, hv, hC, hM, hP, hY, hK, hB, F⟩ := hI.get
  have h13 := ok13 hv.1
  have h14 := ok14 hv.1
  have fin := F ra2 ns na nl _ _ _ (MG.refl _ _ _) hM.1 hB hK
  rcases ixs p (n := v 14 0) (by omega) with h | ⟨t, ht, rfl⟩
  · exact c_hasT0 hC h (b0f (m_isT0 hM.2.1 hv.1 h (b0f ⟨rfl, fin⟩)))
  · rcases ixs w (n := v 13 0) (by omega) with h | ⟨b, hb, rfl⟩
    · exact c_hasT hC hv.1 ht (b1f (c_hasB0 hC h (b0t (m_isT hM.2.1 hv.1 ht (b1f (m_isB0 hM.1 hv.1 h (b0t ⟨rfl, fin⟩)))))))
    · refine c_hasT hC hv.1 ht (b1f (c_hasB hC hv.1 hb (b1t (c_play hC hv.1 hK (fun ns' na' nl' hPl => c_hadBy hPl.2.2.2 (by omega) (by omega) ?_)))))
      refine m_isT hM.2.1 hv.1 ht (b1f (m_isB hM.1 hv.1 hb (b1t (m_nightF hv.1 hv.2.1 hM (fun mt mb mk hF hMP => ?_)))))
      rw [show (10 : Int32) * nI t + nI b = nI (10 * t + b) by simp only [fa_lit, pk_mul, nI_add], nI_clamp (by omega), hMP.2 t b (by omega) (by omega)]
      exact ⟨vp_in_nI (by omega) (by decide), rfl, F _ _ _ _ _ _ _ hF.g (hF.rm hM).1 hB hPl.2.1⟩
theorem c_isCost {w : Nat} (h : w < 3) {post : Int32 → Prop} (hp : post 1) : P_X11_isCost (nI w) post := ⟨fun c => absurd c (nI_pos (by omega)), fun _ => ⟨fun c => absurd ((nI_ltI (a := 2) (by decide) (by omega)).mp c) (by omega), fun _ => hp⟩⟩
theorem c_isCost0 {w : Int32} (h : w < 0 ∨ nI 3 ≤ w) {post : Int32 → Prop} (hp : post 0) : P_X11_isCost w post := by
  refine ⟨fun _ => hp, fun c => ⟨fun _ => hp, fun c2 => absurd ?_ c2⟩⟩
  have h2 := h.resolve_left c
  rw [Int32.le_iff_toInt_le, nI_toInt (by decide)] at h2
  rw [Int32.lt_iff_toInt_lt, show (2 : Int32).toInt = 2 from rfl]
  omega
theorem q_cost (hI : Inv us ua rs ra ra2 sa sl ns na nl yt im ms ma ml) (p w : Int32) : P_X11_cost rs ra ns na nl p w (fun r ns' na' nl' => P_X12_cost ms ma ml p w (fun r' mt mb mk => r = r' ∧ Inv us ua rs ra ra2 sa sl ns' na' nl' yt im mt mb mk)) := by
  obtain ⟨v, hv, hC, hM, hP, hY, hK, hB, F⟩ := hI.get
  have h13 := ok13 hv.1
  have fin := F ra2 ns na nl _ _ _ (MG.refl _ _ _) hM.1 hB hK
  rcases ixs p (n := v 13 0) (by omega) with h | ⟨b, hb, rfl⟩
  · exact c_hasB0 hC h (b0f (m_isB0 hM.1 hv.1 h (b0f ⟨rfl, fin⟩)))
  · rcases ixs w (n := 3) (by omega) with h | ⟨k, hk, rfl⟩
    · exact c_hasB hC hv.1 hb (b1f (c_isCost0 h (b0t (m_isB hM.1 hv.1 hb (b1f (m_inL_bad (m := 2) h (by decide) (b0t ⟨rfl, fin⟩)))))))
    · refine c_hasB hC hv.1 hb (b1f (c_isCost hk (b1t (c_play hC hv.1 hK (fun ns' na' nl' hPl => c_costOf hC hv.1 hPl.2.2.2 hb hk ?_)))))
      exact m_isB hM.1 hv.1 hb (b1f (m_inL_ok (m := 2) (by omega) (by decide) (b1t (m_nightF hv.1 hv.2.1 hM (fun mt mb mk hF hMP => m_whatOf hv.1 (hF.rm hM).1 hMP hb hk ⟨rfl, F _ _ _ _ _ _ _ hF.g (hF.rm hM).1 hB hPl.2.1⟩)))))
theorem c_allOn {v : Rl} (hR : RelC v rs ra) (hv : okV v) (hK : NOK ns na nl) {w : Nat} (hw : w < 3) {post : Int64 → A1 → A2 → L2 → Prop} (h : ∀ ns' na' nl', NOK ns' na' nl' → post (allL v w) ns' na' nl') : P_X11_allOn rs ra ns na nl (nI w) post :=
  c_play hR hv hK (fun ns' na' nl' hPl => c_costOfAll hR hv hPl.2.2.2 hw (h ns' na' nl' hPl.2.1))
theorem c_costOn {v : Rl} (hR : RelC v rs ra) (hv : okV v) (hK : NOK ns na nl) {b : Nat} (hb : b < v 13 0) {post : Int64 → A1 → A2 → L2 → Prop} (h : ∀ ns' na' nl', NOK ns' na' nl' → post (costL v b) ns' na' nl') : P_X11_costOn rs ra ns na nl (nI b) post :=
  c_play hR hv hK (fun ns' na' nl' hPl => c_costOf (w := 2) hR hv hPl.2.2.2 hb (by decide) (h ns' na' nl' hPl.2.1))
theorem c_lossOn {v : Rl} (hR : RelC v rs ra) (hv : okV v) (hK : NOK ns na nl) {b : Nat} (hb : b < v 13 0) {post : Int64 → A1 → A2 → L2 → Prop} (h : ∀ ns' na' nl', NOK ns' na' nl' → post (lossL v b) ns' na' nl') : P_X11_lossOn rs ra ns na nl (nI b) post :=
  c_play hR hv hK (fun ns' na' nl' hPl => c_costOf (w := 1) hR hv hPl.2.2.2 hb (by decide) (h ns' na' nl' hPl.2.1))
theorem q_all (hI : Inv us ua rs ra ra2 sa sl ns na nl yt im ms ma ml) (w : Int32) : P_X11_all rs ra ns na nl w (fun r ns' na' nl' => P_X12_all ms ma ml w (fun r' mt mb mk => r = r' ∧ Inv us ua rs ra ra2 sa sl ns' na' nl' yt im mt mb mk)) := by
  obtain ⟨v, hv, hC, hM, hP, hY, hK, hB, F⟩ := hI.get
  have fin := F ra2 ns na nl _ _ _ (MG.refl _ _ _) hM.1 hB hK
  rcases Nat.eq_zero_or_pos (v 2 0) with z | z
  · exact c_told0 hC z (b0f (m_rail0 hM.1 hv.1 z (b0f ⟨rfl, fin⟩)))
  · rcases ixs w (n := 3) (by omega) with h | ⟨k, hk, rfl⟩
    · exact c_told hC hv.1 z (b1f (c_isCost0 h (b0f (m_rail hM.1 hv.1 z (b1f (m_inL_bad (m := 2) h (by decide) (b0f ⟨rfl, fin⟩)))))))
    · refine c_told hC hv.1 z (b1f (c_isCost hk (b1f (c_allOn hC hv.1 hK hk (fun ns' na' nl' hK' => ?_)))))
      exact m_rail hM.1 hv.1 z (b1f (m_inL_ok (m := 2) (by omega) (by decide) (b1f (m_allNow hv.1 hv.2.1 hM hk (fun mt mb mk hF => ⟨rfl, F _ _ _ _ _ _ _ hF.g (hF.rm hM).1 hB hK'⟩)))))
theorem told_of {v : Rl} (hv : okR v) {b : Nat} (hb : b < v 13 0) : 0 < v 2 0 := Nat.pos_of_ne_zero fun z => by
  have := hv.2.2 z
  omega
theorem q_option (hI : Inv us ua rs ra ra2 sa sl ns na nl yt im ms ma ml) (p w : Int32) : P_X11_option rs ra p w (fun r ra' => P_X12_option ms ma p w (fun r' mt mb => r = r' ∧ Inv us ua rs ra' ra2 sa sl ns na nl yt im mt mb ml)) := by
  obtain ⟨v, hv, hC, hM, hP, hY, hK, hB, F⟩ := hI.get
  have h13 := ok13 hv.1
  have h12 := ok12 hv.1
  have fin := F ra2 ns na nl _ _ _ (MG.refl _ _ _) hM.1 hB hK
  rcases ixs p (n := v 13 0) (by omega) with h | ⟨b, hb, rfl⟩
  · exact c_hasB0 hC h (b0f (m_isB0 hM.1 hv.1 h (b0f ⟨rfl, fin⟩)))
  · have z := told_of hv hb
    rcases ixs w (n := 2 * (v 12 0 + 1)) (by omega) with h | ⟨o, ho, rfl⟩
    · exact c_hasB hC hv.1 hb (b1f (c_hasO0 hC hv.1 z h (b0t (m_isB hM.1 hv.1 hb (b1f (m_isO0 hM.1 hv.1 h (b0t ⟨rfl, fin⟩)))))))
    · refine c_hasB hC hv.1 hb (b1f (c_hasO hC hv.1 z ho (b1t (c_optionOf hC hv.1 hb (c_setOption hC (by omega) (by omega) (fun loc mar hC' => ?_))))))
      refine m_isB hM.1 hv.1 hb (b1f (m_isO hM.1 hv.1 ho (b1t (m_optionOf hM.1 hv.1 hb (m_setO hM (by omega) (by omega) (fun mb hM' hG h11 => ⟨rfl, ?_⟩))))))
      exact hI.step ((MG.z ms ma ml).trans (hG _ _)) (hv.vo ho) hC' hM'.1 hM'.2.1 ((hP.vo b o).eq (h11 6 (by decide)) (h11 7 (by decide))) ((hY.vo b o).eq (h11 16 (by decide))) hB hK
theorem m_wouldOf {v : Rl} (hv : okR v) (hM : RM v 0 ms ma) {b o : Nat} (hb : b < v 13 0) (ho : o < 2 * (v 12 0 + 1)) {post : Int64 → A1 → A2 → L2 → Prop} (h : ∀ mt mb mk, RM v 0 mt mb → MG ms ma ml mt mb mk → mb 20 = ma 20 → post (costL (vo v b o) b) mt mb mk) : P_X12_wouldOf ms ma ml (nI b) (nI o) post := by
  have h13 := ok13 hv.1
  have h12 := ok12 hv.1
  have hol := opt_lt hv.1 hb
  have hv' := hv.vo (b := b) ho
  refine m_optionOf hM.1 hv.1 hb (m_setO hM (by omega) (by omega) (fun mb hM1 hG1 h1 => ?_))
  refine m_costNow hv'.1 hv'.2.1 hM1 (by rw [vo_f (by decide) (by decide)]; exact hb) (fun mt2 mb2 mk2 hF => ?_)
  refine m_setO (hF.rm hM1) (by omega) (by omega) (fun mb3 hM3 hG3 h3 => ?_)
  rw [vo_vo, vo_opt (hv.1.2.2.2.2.1 b hb).2.2.2.2] at hM3
  exact h _ _ _ hM3 (((hG1 ms ml).trans hF.g).trans (hG3 _ _)) (((h3 20 (by decide)).trans (hF.2.1 20 (by decide) (by decide))).trans (h1 20 (by decide)))
theorem q_would (hI : Inv us ua rs ra ra2 sa sl ns na nl yt im ms ma ml) (rs2 : A1) (p w : Int32) : P_X11_would rs ra rs2 ra2 ns na nl p w (fun r _ ra2' ns' na' nl' => P_X12_would ms ma ml p w (fun r' mt mb mk => r = r' ∧ Inv us ua rs ra ra2' sa sl ns' na' nl' yt im mt mb mk)) := by
  obtain ⟨v, hv, hC, hM, hP, hY, hK, hB, F⟩ := hI.get
  have h13 := ok13 hv.1
  have h12 := ok12 hv.1
  have fin := F ra2 ns na nl _ _ _ (MG.refl _ _ _) hM.1 hB hK
  rcases ixs p (n := v 13 0) (by omega) with h | ⟨b, hb, rfl⟩
  · exact c_hasB0 hC h (b0f (m_isB0 hM.1 hv.1 h (b0f ⟨rfl, fin⟩)))
  · have z := told_of hv hb
    rcases ixs w (n := 2 * (v 12 0 + 1)) (by omega) with h | ⟨o, ho, rfl⟩
    · exact c_hasB hC hv.1 hb (b1f (c_hasO0 hC hv.1 z h (b0t (m_isB hM.1 hv.1 hb (b1f (m_isO0 hM.1 hv.1 h (b0f ⟨rfl, fin⟩)))))))
    · have hv' := hv.vo (b := b) ho
      refine c_hasB hC hv.1 hb (b1f (c_hasO hC hv.1 z ho (b1t (c_copyFrom hC hv.1 (fun rs' ra' hC1 hB1 _ => c_setOption hC1 (by omega) (by omega) (fun loc mar hC2 => ?_))))))
      refine c_costOn hC2 hv'.1 hK (by rw [vo_f (by decide) (by decide)]; exact hb) (fun ns' na' nl' hK' => ?_)
      exact m_isB hM.1 hv.1 hb (b1f (m_isO hM.1 hv.1 ho (b1f (m_wouldOf hv hM hb ho (fun mt mb mk hM' hG _ => ⟨rfl, F _ _ _ _ _ _ _ hG hM'.1 hC2.bok hK'⟩)))))
end Q
