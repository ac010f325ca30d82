section
/-! options on both sides; the invariant, taken apart -/
theorem c_optionOf {v : Rl} {rs : A1} {ra : A2} (hR : RelC v rs ra) (hv : okV v) {b : Nat} (hb : b < v 13 0) {post : Int32 → Prop} (h : post (nI (opt v b))) : P_X0_optionOf (ra 7) (ra 8) (nI b) post := by
  have h13 := ok13 hv
  obtain ⟨-, -, -, e7, e8⟩ := hR.2.2.2.2.1 b hb
  obtain ⟨-, -, -, b23, b24⟩ := hv.2.2.2.2.1 b hb
  unfold P_X0_optionOf
  rw [nI_clamp (by omega), e7, e8, Int32.sub_add_cancel, show (2 : Int32) = nI 2 from rfl, pk_mul]
  unfold opt at h
  refine ⟨vp_in_nI (by omega) (by decide), vp_in_nI (by omega) (by decide), fun c => ?_, fun c => ?_⟩
  · have z : v 24 b = 0 := (nI_eq (b := 0) (by omega) (by decide)).mp c
    rw [z] at h
    rw [show (0 : Int32) = nI 0 from rfl, nI_add]
    exact h
  · have z : v 24 b = 1 := by
      have : v 24 b ≠ 0 := fun q => c (by rw [q]; rfl)
      omega
    rw [z] at h
    rw [nI_1]
    exact h
theorem RelC.vo {v : Rl} {rs : A1} {ra : A2} (hR : RelC v rs ra) {b o : Nat} (hb : b < 10) {loc mar : Nat → Int32} (hl : loc = upd (ra 7) b (nI (o / 2) - 1)) (hm : mar = upd (ra 8) b (nI (o % 2))) : RelC (vo v b o) rs (va_up (va_up ra 7 loc) 8 mar) := by
  obtain ⟨r0, r1, r2, r3, r4, r5, r6, r7⟩ := hR
  unfold RelC
  simp only [vo_f (v := v) (b := b) (o := o) (f := 11) (by decide) (by decide), vo_f (v := v) (b := b) (o := o) (f := 12) (by decide) (by decide), vo_f (v := v) (b := b) (o := o) (f := 13) (by decide) (by decide), vo_f (v := v) (b := b) (o := o) (f := 14) (by decide) (by decide), vo_f (v := v) (b := b) (o := o) (f := 15) (by decide) (by decide), vo_f (v := v) (b := b) (o := o) (f := 16) (by decide) (by decide), vo_f (v := v) (b := b) (o := o) (f := 17) (by decide) (by decide), vo_f (v := v) (b := b) (o := o) (f := 18) (by decide) (by decide), vo_f (v := v) (b := b) (o := o) (f := 19) (by decide) (by decide), vo_f (v := v) (b := b) (o := o) (f := 20) (by decide) (by decide), vo_f (v := v) (b := b) (o := o) (f := 21) (by decide) (by decide), vo_f (v := v) (b := b) (o := o) (f := 22) (by decide) (by decide), vo_f (v := v) (b := b) (o := o) (f := 25) (by decide) (by decide), vo_f (v := v) (b := b) (o := o) (f := 26) (by decide) (by decide), vo_f (v := v) (b := b) (o := o) (f := 27) (by decide) (by decide), vo_f (v := v) (b := b) (o := o) (f := 28) (by decide) (by decide), vo_f (v := v) (b := b) (o := o) (f := 29) (by decide) (by decide), vo_f (v := v) (b := b) (o := o) (f := 30) (by decide) (by decide), vo_f (v := v) (b := b) (o := o) (f := 31) (by decide) (by decide)]
  refine ⟨fun j hj => by rw [vo_f (by omega) (by omega)]; exact r0 j hj, r1, r2, r3, fun k hk => ?_, r5, r6, fun k hk => ?_⟩
  · obtain ⟨a, b', c, d, e⟩ := r4 k hk
    simp only [va_up]
    simp only [Nat.reduceEqDiff, if_false, if_true]
    rw [vo_23, vo_24, hl, hm]
    refine ⟨a, b', c, ?_, ?_⟩
    · by_cases q : k = b
      · rw [q, u_at, if_pos rfl]
      · rw [u_ne q, if_neg q]; exact d
    · by_cases q : k = b
      · rw [q, u_at, if_pos rfl]
      · rw [u_ne q, if_neg q]; exact e
  · rw [up_at, hm]
    by_cases q : k = b
    · rw [q, u_at]
      rcases Nat.mod_two_eq_zero_or_one o with z | z <;> rw [z]
      · exact Or.inl rfl
      · exact Or.inr rfl
    · rw [u_ne q]; exact r7 k hk
theorem c_setOption {v : Rl} {rs : A1} {ra : A2} (hR : RelC v rs ra) {b o : Nat} (hb : b < 10) (ho : o < 2 ^ 30) {post : (Nat → Int32) → (Nat → Int32) → Prop} (h : ∀ loc mar, RelC (vo v b o) rs (va_up (va_up ra 7 loc) 8 mar) → post loc mar) : P_X0_setOption (ra 7) (ra 8) (nI b) (nI o) post := by
  unfold P_X0_setOption
  rw [show (2 : Int32) = nI 2 from rfl, pk_rem (by omega) (by decide) (by decide), pk_div (by omega) (by decide) (by decide), nI_clamp (by omega)]
  refine ⟨vp_in_nI hb (by decide), fun c => ⟨vp_in_nI hb (by decide), ?_⟩, fun c => ⟨vp_in_nI hb (by decide), ?_⟩⟩
  · have z : o % 2 = 0 := by
      have : o % 2 ≠ 1 := fun q => c (by rw [q]; rfl)
      omega
    exact h _ _ (hR.vo hb rfl (by rw [z]; rfl))
  · have z : o % 2 = 1 := (nI_eq (b := 1) (by omega) (by decide)).mp c
    exact h _ _ (hR.vo hb rfl (by rw [z]; rfl))
theorem m_optionOf {v : Rl} {ma : A2} (hN : RelN v 0 ma) (hv : okV v) {b : Nat} (hb : b < v 13 0) {post : Int32 → Prop} (h : post (nI (opt v b))) : P_X12_optionOf ma (nI b) post := by
  have h13 := ok13 hv
  obtain ⟨-, -, -, e3, e4⟩ := hN.2.2.2.1 b hb
  show vp_in ((5 : Int32) * ((10 : Int32) * nI 0 + nI b) + 3) 250 ∧ (vp_in ((5 : Int32) * ((10 : Int32) * nI 0 + nI b) + 4) 250 ∧ (post ((2 * ((ma 11 (((5 : Int32) * ((10 : Int32) * nI 0 + nI b) + 3).toNatClampNeg)) + 1)) + (ma 11 (((5 : Int32) * ((10 : Int32) * nI 0 + nI b) + 4).toNatClampNeg)))))
  rw [show (5 : Int32) * ((10 : Int32) * nI 0 + nI b) + 3 = nI (5 * (10 * 0 + b) + 3) from ix5 0 b 3, show (5 : Int32) * ((10 : Int32) * nI 0 + nI b) + 4 = nI (5 * (10 * 0 + b) + 4) from ix5 0 b 4, nI_clamp (by omega), nI_clamp (by omega), e3, e4, Int32.sub_add_cancel, show (2 : Int32) = nI 2 from rfl, pk_mul, nI_add]
  exact ⟨vp_in_nI (by omega) (by decide), vp_in_nI (by omega) (by decide), h⟩
theorem m_hasOption {v : Rl} {ma : A2} (hN : RelN v 0 ma) {b o : Nat} (hb : b < 10) (ho : o < 2 ^ 30) {post : A2 → Prop} (h : ∀ mb : A2, RelN (vo v b o) 0 mb → (∀ j, j ≠ 11 → mb j = ma j) → (∀ x, 50 ≤ x → mb 11 x = ma 11 x) → post mb) : P_X12_hasOption ma (nI b) (nI o) post := by
  show vp_in ((5 : Int32) * ((10 : Int32) * nI 0 + nI b) + 3) 250 ∧ (vp_in ((5 : Int32) * ((10 : Int32) * nI 0 + nI b) + 4) 250 ∧ (post (va_up ma 11 (upd (upd (ma 11) (((5 : Int32) * ((10 : Int32) * nI 0 + nI b) + 3).toNatClampNeg) ((nI o / 2) - 1)) (((5 : Int32) * ((10 : Int32) * nI 0 + nI b) + 4).toNatClampNeg) (nI o - nI o / 2 * 2)))))
  rw [show (5 : Int32) * ((10 : Int32) * nI 0 + nI b) + 3 = nI (5 * (10 * 0 + b) + 3) from ix5 0 b 3, show (5 : Int32) * ((10 : Int32) * nI 0 + nI b) + 4 = nI (5 * (10 * 0 + b) + 4) from ix5 0 b 4, nI_clamp (by omega), nI_clamp (by omega), show (2 : Int32) = nI 2 from rfl, pk_rem (by omega) (by decide) (by decide), pk_div (by omega) (by decide) (by decide)]
  refine ⟨vp_in_nI (by omega) (by decide), vp_in_nI (by omega) (by decide), h _ ?_ (fun j hj => up_ne hj) (fun x hx => by rw [up_at, u_ne (by omega), u_ne (by omega)])⟩
  obtain ⟨r0, r1, r2, r3, r4⟩ := hN
  unfold RelN
  simp only [vo_f (v := v) (b := b) (o := o) (f := 0) (by decide) (by decide), vo_f (v := v) (b := b) (o := o) (f := 1) (by decide) (by decide), vo_f (v := v) (b := b) (o := o) (f := 2) (by decide) (by decide), vo_f (v := v) (b := b) (o := o) (f := 4) (by decide) (by decide), vo_f (v := v) (b := b) (o := o) (f := 5) (by decide) (by decide), vo_f (v := v) (b := b) (o := o) (f := 6) (by decide) (by decide), vo_f (v := v) (b := b) (o := o) (f := 7) (by decide) (by decide), vo_f (v := v) (b := b) (o := o) (f := 8) (by decide) (by decide), vo_f (v := v) (b := b) (o := o) (f := 9) (by decide) (by decide), vo_f (v := v) (b := b) (o := o) (f := 10) (by decide) (by decide), vo_f (v := v) (b := b) (o := o) (f := 12) (by decide) (by decide), vo_f (v := v) (b := b) (o := o) (f := 13) (by decide) (by decide), vo_f (v := v) (b := b) (o := o) (f := 18) (by decide) (by decide), vo_f (v := v) (b := b) (o := o) (f := 19) (by decide) (by decide), vo_f (v := v) (b := b) (o := o) (f := 20) (by decide) (by decide), vo_f (v := v) (b := b) (o := o) (f := 21) (by decide) (by decide), vo_f (v := v) (b := b) (o := o) (f := 22) (by decide) (by decide)]
  refine ⟨r0, r1, r2, fun k hk => ?_, r4⟩
  obtain ⟨a, b', c, d, e⟩ := r3 k hk
  rw [up_at, vo_23, vo_24]
  refine ⟨by rw [u_ne (by omega), u_ne (by omega)]; exact a, by rw [u_ne (by omega), u_ne (by omega)]; exact b', by rw [u_ne (by omega), u_ne (by omega)]; exact c, ?_, ?_⟩
  · by_cases q : k = b
    · rw [q, u_ne (by omega), u_at, if_pos rfl]
    · rw [u_ne (by omega), u_ne (by omega), if_neg q]; exact d
  · by_cases q : k = b
    · rw [q, u_at, if_pos rfl]
    · rw [u_ne (by omega), u_ne (by omega), if_neg q]; exact e
theorem RelT.vo {v : Rl} {j : Nat} {ma : A2} (h : RelT v j ma) (b o : Nat) : RelT (vo v b o) j ma := by
  unfold RelT at h ⊢
  simp only [vo_f (v := v) (b := b) (o := o) (f := 14) (by decide) (by decide), vo_f (v := v) (b := b) (o := o) (f := 25) (by decide) (by decide), vo_f (v := v) (b := b) (o := o) (f := 26) (by decide) (by decide), vo_f (v := v) (b := b) (o := o) (f := 27) (by decide) (by decide), vo_f (v := v) (b := b) (o := o) (f := 28) (by decide) (by decide), vo_f (v := v) (b := b) (o := o) (f := 29) (by decide) (by decide)]
  exact h
theorem RelP.vo {v : Rl} {j : Nat} {ma : A2} (h : RelP v j ma) (b o : Nat) : RelP (vo v b o) j ma := by
  unfold RelP at h ⊢
  simp only [vo_f (v := v) (b := b) (o := o) (f := 11) (by decide) (by decide), vo_f (v := v) (b := b) (o := o) (f := 16) (by decide) (by decide), vo_f (v := v) (b := b) (o := o) (f := 17) (by decide) (by decide)]
  exact h
theorem LX.vo {v : Rl} {j : Nat} {ms : A1} {ma : A2} (h : LX v j ms ma) (b o : Nat) : LX (vo v b o) j ms ma := by
  unfold LX at h ⊢
  simp only [vo_f (v := v) (b := b) (o := o) (f := 11) (by decide) (by decide), vo_f (v := v) (b := b) (o := o) (f := 16) (by decide) (by decide), vo_f (v := v) (b := b) (o := o) (f := 17) (by decide) (by decide)]
  exact h
theorem RelY.vo {v : Rl} {j : Nat} {ma : A2} (h : RelY v j ma) (b o : Nat) : RelY (vo v b o) j ma := by
  unfold RelY at h ⊢
  simp only [vo_f (v := v) (b := b) (o := o) (f := 15) (by decide) (by decide), vo_f (v := v) (b := b) (o := o) (f := 30) (by decide) (by decide), vo_f (v := v) (b := b) (o := o) (f := 31) (by decide) (by decide)]
  exact h
/-- the option of a bike of the reference's row 0 -/
theorem m_setO {v : Rl} {ms : A1} {ma : A2} (hM : RM v 0 ms ma) {b o : Nat} (hb : b < 10) (ho : o < 2 ^ 30) {post : A2 → Prop} (h : ∀ mb : A2, RM (vo v b o) 0 ms mb → (∀ (ms : A1) (ml : L2), MG ms ma ml ms mb ml) → (∀ j, j ≠ 11 → mb j = ma j) → post mb) : P_X12_hasOption ma (nI b) (nI o) post := by
  refine m_hasOption hM.1 hb ho (fun mb h1 h2 h3 => h mb ⟨h1, (hM.2.1.vo b o).eq (h2 12 (by decide)) (h2 13 (by decide)), ?_⟩ (fun ms ml => ⟨fun _ _ _ _ => rfl, fun j _ h11 _ _ => h2 j h11, h3, fun x _ => by rw [h2 14 (by decide)], rfl⟩) h2)
  have := hM.2.2.vo b o
  unfold LX at this ⊢
  rw [h2 6 (by decide), h2 7 (by decide)]
  exact this
section GET
variable {us : A1} {ua : A2} {rs : A1} {ra ra2 sa : A2} {sl : L2} {ns : A1} {na : A2} {nl : L2} {yt : Int32} {im : Img} {ms : A1} {ma : A2} {ml : L2}
theorem Inv.get (hI : Inv us ua rs ra ra2 sa sl ns na nl yt im ms ma ml) : ∃ v, okR v ∧ RelC v rs ra ∧ RM v 0 (va_up ms 0 0) ma ∧ RelP v 0 ma ∧ RelY v 0 ma ∧ NOK ns na nl ∧ BOK ra2 ∧ (∀ (ra2' : A2) (ns' : A1) (na' : A2) (nl' : L2) (mt : A1) (mb : A2) (mk : L2), MG (va_up ms 0 0) ma ml mt mb mk → RelN v 0 mb → BOK ra2' → NOK ns' na' nl' → Inv us ua rs ra ra2' sa sl ns' na' nl' yt im mt mb mk) := by
  obtain ⟨v, hv, hC, hN, hT, hP, hY⟩ := hI.2.1
  have h10 := hI.2.2.2.2.2.2.1
  exact ⟨v, hv, hC, ⟨hN, hT, (LX.of hv.1 hP (by rw [up_ne (by decide)]; exact h10.1) (by rw [up_ne (by decide)]; exact h10.2))⟩, hP, hY, hI.2.2.2.1, hI.2.2.1, fun ra2' ns' na' nl' mt mb mk hG hN' hB hK => hI.same hv hC hT hP hY ((MG.z ms ma ml).trans hG) hN' hB hK⟩
end GET
theorem NOK.look {ns : A1} {na nb : A2} {nl : L2} (h : NOK ns na nl) (hb : ∀ j, 5 ≤ j → nb j = na j) (x : Int32) : NOK (va_up ns 0 x) nb nl := by
  unfold NOK at h ⊢
  rw [up_ne (by decide), up_ne (by decide), hb 5 (by omega), hb 6 (by omega), hb 7 (by omega), hb 8 (by omega), hb 9 (by omega), hb 10 (by omega)]
  exact h
end
section
/-! how many bits -/
def popc (x : Nat) : Nat := sumN (fun j => if x.testBit j then 1 else 0) 11
theorem bc_dec : ∀ x, x < 2048 → ((fun p1 : Int32 => (fun x1 : Int32 => (fun x2 : Int32 => (fun x3 : Int32 => (fun x4 : Int32 => (fun x5 : Int32 => x5 &&& 63) (x4 + (x4.toUInt32 >>> ((16 : Int32).toUInt32 &&& Int32.toUInt32 31)).toInt32)) (x3 + (x3.toUInt32 >>> ((8 : Int32).toUInt32 &&& Int32.toUInt32 31)).toInt32)) ((x2 + (x2.toUInt32 >>> ((4 : Int32).toUInt32 &&& Int32.toUInt32 31)).toInt32) &&& 252645135)) ((x1 &&& 858993459) + ((x1.toUInt32 >>> ((2 : Int32).toUInt32 &&& Int32.toUInt32 31)).toInt32 &&& 858993459))) (p1 - ((p1.toUInt32 >>> ((1 : Int32).toUInt32 &&& Int32.toUInt32 31)).toInt32 &&& 1431655765))) (nI x)) = nI (popc x) := by decide +kernel
theorem c_bitCount {x : Nat} (hx : x < 2048) {post : Int32 → Prop} (h : post (nI (popc x))) : P_J6_bitCount_0f7a4 (nI x) post := by
  have := bc_dec x hx
  intro x1 h1 x2 h2 x3 h3 x4 h4 x5 h5
  subst h1 h2 h3 h4 h5
  rw [← this] at h
  exact h
theorem pc_dec : ∀ x, x < 1024 → x ≠ 0 → popc (x &&& (x - 1)) + 1 = popc x ∧ x &&& (x - 1) < x := by decide +kernel
theorem m_sizeOf {x : Nat} (hx : x < 1024) {post : Int32 → Prop} (h : post (nI (popc x))) : P_X12_sizeOf (nI x) post := by
  have L : ∀ (k y c : Nat), y ≤ k → y < 1024 → c + popc y = popc x → P_X12_sizeOf_4 (nI x) post (k + 1) (nI c) (nI y) := by
    intro k
    induction k with
    | zero =>
      intro y c hy _ he
      obtain rfl : y = 0 := by omega
      have : popc 0 = 0 := by decide
      rw [this, Nat.add_zero] at he
      exact ⟨fun _ => by rw [he]; exact h, fun z => absurd rfl z⟩
    | succ k ih =>
      intro y c hy hlt he
      refine ⟨fun z => ?_, fun z => ?_⟩
      · have y0 : y = 0 := (nI_eq (b := 0) (by omega) (by decide)).mp z
        have : popc 0 = 0 := by decide
        rw [y0, this, Nat.add_zero] at he
        rw [he]; exact h
      · have y0 : y ≠ 0 := fun q => z (by rw [q]; rfl)
        obtain ⟨d1, d2⟩ := pc_dec y hlt y0
        rw [show nI y - 1 = nI (y - 1) from nI_pre (by omega), fa_and, nI_1]
        intro w hw
        subst hw
        exact ih _ _ (by omega) (by omega) (by omega)
  exact ⟨x + 1, L x x 0 (Nat.le_refl _) hx (by omega)⟩
end
section
/-! promises 6 to 19, call by call: both answer alike, and the invariant stays -/
section Q
variable {us : A1} {ua : A2} {rs : A1} {ra ra2 sa : A2} {sl : L2} {ns : A1} {na : A2} {nl : L2} {yt : Int32} {im : Img} {ms : A1} {ma : A2} {ml : L2}
theorem q_light (hI : Inv us ua rs ra ra2 sa sl ns na nl yt im ms ma ml) (p : Int32) : P_X11_light rs ra p (fun r => P_X12_light ms ma p (fun r' mt => r = r' ∧ Inv us ua rs ra ra2 sa sl ns na nl yt im mt ma ml)) := by
  obtain ⟨v, hv, hC, hM, hP, hY, hK, hB, F⟩ := hI.get
  have h0 := ok0 hv.1
  have fin := F ra2 ns na nl _ _ _ (MG.refl _ _ _) hM.1 hB hK
  rcases ixs p (n := v 0 0) (by omega) with h | ⟨j, hj, rfl⟩
  · exact c_hasP0 hC h (b0f (m_isP0 hM.1 hv.1 h (b0f ⟨rfl, fin⟩)))
  · refine c_hasP hC hv.1 hj (b1f (c_lightOf hC hv.1 (by omega) (m_isP hM.1 hv.1 hj (b1f ?_))))
    exact m_lightOf (j := 0) hv.1 hM.1 hM.2.2 (by decide) (by omega) ⟨rfl, fin⟩
theorem q_bike (hI : Inv us ua rs ra ra2 sa sl ns na nl yt im ms ma ml) (p w : Int32) : P_X11_bike rs ra p w (fun r => P_X12_bike ms ma p w (fun r' mt => r = r' ∧ Inv us ua rs ra ra2 sa sl ns na nl yt im mt ma ml)) := by
  obtain ⟨v, hv, hC, hM, hP, hY, hK, hB, F⟩ := hI.get
  have h13 := ok13 hv.1
  have fin := F ra2 ns na nl _ _ _ (MG.refl _ _ _) hM.1 hB hK
  rcases ixs p (n := v 13 0) (by omega) with h | ⟨j, hj, rfl⟩
  · exact c_hasB0 hC h (b0t (m_isB0 hM.1 hv.1 h (b0f ⟨rfl, fin⟩)))
  · obtain ⟨a1, a2, a3, a4, a5⟩ := hC.2.2.2.2.1 j hj
    obtain ⟨m1, m2, m3, m4, m5⟩ := hM.1.2.2.2.1 j hj
    have b24 := (hv.1.2.2.2.2.1 j hj).2.2.2.2
    have G : ∀ (i : Nat) (x : Int32), i < 5 → ma 11 (5 * (10 * 0 + j) + i) = x → P_X12_bike ms ma (nI j) (nI i) (fun r' mt => x = r' ∧ Inv us ua rs ra ra2 sa sl ns na nl yt im mt ma ml) := by
      intro i x hi hx
      refine m_isB hM.1 hv.1 hj (b1f (m_inL_ok (m := 4) (by omega) (by decide) (b1f ?_)))
      show vp_in ((5 : Int32) * ((10 : Int32) * nI 0 + nI j) + nI i) 250 ∧ (x = ma 11 (((5 : Int32) * ((10 : Int32) * nI 0 + nI j) + nI i).toNatClampNeg) ∧ _)
      rw [ix5 0 j i, nI_clamp (by omega), hx]
      exact ⟨vp_in_nI (by omega) (by decide), rfl, fin⟩
    refine c_hasB hC hv.1 hj (b1t ?_)
    rw [nI_clamp (by omega), a1, a2, a3, a4, a5]
    refine ⟨fun e => ⟨vp_in_nI (by omega) (by decide), ?_⟩, fun e => ⟨vp_in_nI (by omega) (by decide), ?_⟩, fun e => ⟨vp_in_nI (by omega) (by decide), ?_⟩, fun e => ⟨vp_in_nI (by omega) (by decide), ?_⟩, fun e => ⟨vp_in_nI (by omega) (by decide), ?_⟩, fun e0 e1 e2 e3 e4 => ?_⟩
    · rw [e]; exact G 0 _ (by decide) m1
    · rw [e]; exact G 1 _ (by decide) m2
    · rw [e]; exact G 2 _ (by decide) m3
    · rw [e]; exact G 3 _ (by decide) m4
    · rw [e]
      refine ⟨fun c => ?_, fun c => ?_⟩
      · have z : v 24 j = 0 := (nI_eq (b := 0) (by omega) (by decide)).mp c
        exact G 4 _ (by decide) (by rw [m5, z]; rfl)
      · have z : v 24 j = 1 := by
          have : v 24 j ≠ 0 := fun q => c (by rw [q]; rfl)
          omega
        exact G 4 _ (by decide) (by rw [m5, z]; rfl)
    · refine m_isB hM.1 hv.1 hj (b1f (m_inL_bad (m := 4) ?_ (by decide) (b0f ⟨rfl, fin⟩)))
      rcases ixs w (n := 5) (by decide) with h | ⟨i, hi, rfl⟩
      · exact h
      · exfalso
        have : i = 0 ∨ i = 1 ∨ i = 2 ∨ i = 3 ∨ i = 4 := by omega
        rcases this with rfl | rfl | rfl | rfl | rfl
        · exact e0 rfl
        · exact e1 rfl
        · exact e2 rfl
        · exact e3 rfl
        · exact e4 rfl
theorem q_trouble (hI : Inv us ua rs ra ra2 sa sl ns na nl yt im ms ma ml) (p w : Int32) : P_X11_trouble rs ra p w (fun r => P_X12_trouble ms ma p w (fun r' mt => r = r' ∧ Inv us ua rs ra ra2 sa sl ns na nl yt im mt ma ml)) := by
  obtain ⟨v, hv, hC, hM, hP, hY, hK, hB, F⟩ := hI.get
  have h13 := ok13 hv.1
  have h14 := ok14 hv.1
  have fin := F ra2 ns na nl _ _ _ (MG.refl _ _ _) hM.1 hB hK
  rcases ixs p (n := v 14 0) (by omega) with h | ⟨t, ht, rfl⟩
  · exact c_hasT0 hC h (b0f (m_isT0 hM.2.1 hv.1 h (b0f ⟨rfl, fin⟩)))
  · rcases ixs w (n := v 13 0) (by omega) with h | ⟨b, hb, rfl⟩
    · exact c_hasT hC hv.1 ht (b1f (c_hasB0 hC h (b0t (m_isT hM.2.1 hv.1 ht (b1f (m_isB0 hM.1 hv.1 h (b0f ⟨rfl, fin⟩)))))))
    · refine c_hasT hC hv.1 ht (b1f (c_hasB hC hv.1 hb (b1t ⟨vp_in_nI (by omega) (by decide), ?_⟩)))
      rw [nI_clamp (by omega), (hC.2.2.2.2.1 b hb).2.2.1]
      refine c_lightOf hC hv.1 (hv.1.2.2.2.2.1 b hb).2.2.1 (c_troubleOf hC hv.1 ht hb rfl ?_)
      exact m_isT hM.2.1 hv.1 ht (b1f (m_isB hM.1 hv.1 hb (b1f (m_troubleOf (j := 0) hv.1 hM (by decide) ht hb ⟨rfl, fin⟩))))
theorem q_gain (hI : Inv us ua rs ra ra2 sa sl ns na nl yt im ms ma ml) (p : Int32) : P_X11_gain rs ra p (fun r => P_X12_gain ms ma p (fun r' mt => r = r' ∧ Inv us ua rs ra ra2 sa sl ns na nl yt im mt ma ml)) := by
  obtain ⟨v, hv, hC, hM, hP, hY, hK, hB, F⟩ := hI.get
  have h13 := ok13 hv.1
  have fin := F ra2 ns na nl _ _ _ (MG.refl _ _ _) hM.1 hB hK
  rcases ixs p (n := v 13 0) (by omega) with h | ⟨b, hb, rfl⟩
  · exact c_hasB0 hC h (b0f (m_isB0 hM.1 hv.1 h (b0f ⟨rfl, fin⟩)))
  · refine c_hasB hC hv.1 hb (b1f ?_)
    rw [rc_s hC 13]
    refine c_markedOnes h13 (fun b hb => ⟨(hC.2.2.2.2.1 b hb).2.2.2.2, (hv.1.2.2.2.2.1 b hb).2.2.2.2⟩) ?_
    exact c_gainOf hC hv.1 hb (m_isB hM.1 hv.1 hb (b1f (m_gainOf (j := 0) hv.1 hM.1 (by decide) hb ⟨rfl, fin⟩)))
theorem q_takes (hI : Inv us ua rs ra ra2 sa sl ns na nl yt im ms ma ml) (p w : Int32) : P_X11_takes rs ra ns na p w (fun r ns' na' => P_X12_takes_ ms ma p w (fun r' mt mb => r = r' ∧ Inv us ua rs ra ra2 sa sl ns' na' nl yt im mt mb ml)) := by
  obtain ⟨v, hv, hC, hM, hP, hY, hK, hB, F⟩ := hI.get
  have h13 := ok13 hv.1
  have h14 := ok14 hv.1
  have hn := pow13 h13
  have fin := F ra2 ns na nl _ _ _ (MG.refl _ _ _) hM.1 hB hK
  rcases ixs p (n := v 14 0) (by omega) with h | ⟨t, ht, rfl⟩
  · exact c_hasT0 hC h (b0f (m_isT0 hM.2.1 hv.1 h (b0f ⟨rfl, fin⟩)))
  · rcases ixs w (n := 2 ^ v 13 0) (by omega) with h | ⟨g, hg, rfl⟩
    · exact c_hasT hC hv.1 ht (b1f (c_hasS0 hC hv.1 h (b0t (m_isT hM.2.1 hv.1 ht (b1f (m_inS0 hM.1 hv.1 h (b0t ⟨rfl, fin⟩)))))))
    · refine c_hasT hC hv.1 ht (b1f (c_hasS hC hv.1 hg (b1t (c_lookAt hC hv.1 (fun nb hN hb => c_pickN hN ht h14 (by omega) ?_)))))
      refine m_isT hM.2.1 hv.1 ht (b1f (m_inS hM.1 hv.1 hg (b1t (m_lays hv.1 hM none (by decide) (fun mb hL hmb => ?_)))))
      have hF : MF (va_up ms 0 0) ma ml (va_up (va_up ms 0 0) 12 (nI (thO v none))) mb ml := ⟨fun j hj => up_ne hj, hmb, fun _ _ _ _ => rfl⟩
      exact m_takesOf (s := 0) hv.1 hv.2.1 (by decide) (hF.rm hM).2.1 hL ht (by omega) ⟨rfl, F _ _ _ _ _ _ _ hF.g (hF.rm hM).1 hB (hK.look hb _)⟩
theorem q_wants (hI : Inv us ua rs ra ra2 sa sl ns na nl yt im ms ma ml) (p : Int32) : P_X11_wants rs ra ns na p (fun r ns' na' => P_X12_wants ms ma p (fun r' mt mb => r = r' ∧ Inv us ua rs ra ra2 sa sl ns' na' nl yt im mt mb ml)) := by
  obtain ⟨v, hv, hC, hM, hP, hY, hK, hB, F⟩ := hI.get
  have h13 := ok13 hv.1
  have h14 := ok14 hv.1
  have fin := F ra2 ns na nl _ _ _ (MG.refl _ _ _) hM.1 hB hK
  rcases ixs p (n := v 14 0) (by omega) with h | ⟨t, ht, rfl⟩
  · exact c_hasT0 hC h (b0t (m_isT0 hM.2.1 hv.1 h (b0t ⟨rfl, fin⟩)))
  · refine c_hasT hC hv.1 ht (b1t (c_lookAt hC hv.1 (fun nb hN hb => c_wantedBy hC hv.1 hN ht ?_)))
    refine m_isT hM.2.1 hv.1 ht (b1t (m_lays hv.1 hM none (by decide) (fun mb hL hmb => ?_)))
    have hF : MF (va_up ms 0 0) ma ml (va_up (va_up ms 0 0) 12 (nI (thO v none))) mb ml := ⟨fun j hj => up_ne hj, hmb, fun _ _ _ _ => rfl⟩
    exact m_wantsOf (s := 0) hv.1 (by decide) (hF.rm hM).1 hL ht ⟨rfl, F _ _ _ _ _ _ _ hF.g (hF.rm hM).1 hB (hK.look hb _)⟩
theorem m_isS {v : Rl} (hN : RelN v 0 ma) (hv : okV v) (z : 0 < v 2 0) {g : Nat} (h : g < 2 ^ v 13 0) {post : Int32 → Prop} (hp : post 1) : P_X12_isSet ma (nI g) post := m_rail hN hv z (b1f (m_inS hN hv h (b1f hp)))
theorem m_isS0 {v : Rl} (hN : RelN v 0 ma) (hv : okV v) (z : 0 < v 2 0) {p : Int32} (h : p < 0 ∨ nI (2 ^ v 13 0) ≤ p) {post : Int32 → Prop} (hp : post 0) : P_X12_isSet ma p post := m_rail hN hv z (b1f (m_inS0 hN hv h (b0f hp)))
theorem m_isS00 {v : Rl} (hN : RelN v 0 ma) (hv : okV v) (z : v 2 0 = 0) {p : Int32} {post : Int32 → Prop} (hp : post 0) : P_X12_isSet ma p post := m_rail0 hN hv z (b0f hp)
theorem q_part (hI : Inv us ua rs ra ra2 sa sl ns na nl yt im ms ma ml) (p : Int32) : P_X11_part rs ra ns na nl p (fun r ns' na' nl' => P_X12_part ms ma ml p (fun r' mt mb mk => r = r' ∧ Inv us ua rs ra ra2 sa sl ns' na' nl' yt im mt mb mk)) := by
  obtain ⟨v, hv, hC, hM, hP, hY, hK, hB, F⟩ := hI.get
  have h13 := ok13 hv.1
  have hn := pow13 h13
  have fin := F ra2 ns na nl _ _ _ (MG.refl _ _ _) hM.1 hB hK
  rcases Nat.eq_zero_or_pos (v 2 0) with z | z
  · exact c_told0 hC z (b0f (m_isS00 hM.1 hv.1 z (b0t ⟨rfl, fin⟩)))
  · rcases ixs p (n := 2 ^ v 13 0) (by omega) with h | ⟨g, hg, rfl⟩
    · exact c_told hC hv.1 z (b1f (c_hasS0 hC hv.1 h (b0t (m_isS0 hM.1 hv.1 z h (b0t ⟨rfl, fin⟩)))))
    · refine c_told hC hv.1 z (b1f (c_hasS hC hv.1 hg (b1t (c_play hC hv.1 hK (fun ns' na' nl' hPl => ?_)))))
      obtain ⟨⟨E, hE⟩, hK', -, -⟩ := hPl
      refine c_partsOf hE (by omega) ?_
      refine m_isS hM.1 hv.1 z hg (b1t (m_nightF hv.1 hv.2.1 hM (fun mt mb mk hF hMP => ⟨vp_in_nI (by omega) (by decide), ?_⟩)))
      rw [nI_clamp (by omega), hMP.1 g hg]
      exact ⟨rfl, F _ _ _ _ _ _ _ hF.g (hF.rm hM).1 hB hK'⟩
theorem q_many (hI : Inv us ua rs ra ra2 sa sl ns na nl yt im ms ma ml) (p : Int32) : P_X11_many rs ra ns na nl p (fun r ns' na' nl' => P_X12_many ms ma ml p (fun r' mt mb mk => r = r' ∧ Inv us ua rs ra ra2 sa sl ns' na' nl' yt im mt mb mk)) := by
  obtain ⟨v, hv, hC, hM, hP, hY, hK, hB, F⟩ := hI.get
  have h13 := ok13 hv.1
  have hn := pow13 h13
  have fin := F ra2 ns na nl _ _ _ (MG.refl _ _ _) hM.1 hB hK
  rcases Nat.eq_zero_or_pos (v 2 0) with z | z
  · exact c_told0 hC z (b0f (m_rail0 hM.1 hv.1 z (b0f ⟨rfl, fin⟩)))
  · have e10 : ma 10 0 = nI (v 13 0) := hM.1.1.2.2.2.2
    rcases ixs p (n := v 13 0 + 1) (by omega) with h | ⟨k, hk, rfl⟩
    · have M : P_X12_many ms ma ml p (fun r' mt mb mk => -2 = r' ∧ Inv us ua rs ra ra2 sa sl ns na nl yt im mt mb mk) := by
        refine m_rail hM.1 hv.1 z (b1f ?_)
        rw [e10, nI_l (by omega)]
        exact m_inL_bad h (by omega) (b0t ⟨rfl, fin⟩)
      refine c_told hC hv.1 z (b1f ⟨fun _ => M, fun c => ⟨fun c2 => ?_, fun _ => M⟩⟩)
      exfalso
      rw [rc_s hC 13] at c2
      have h2 := h.resolve_left c
      rw [Int32.le_iff_toInt_le, nI_toInt (by omega)] at h2 c2
      omega
    · refine c_told hC hv.1 z (b1f ⟨fun c => absurd c (nI_pos (by omega)), fun _ => ⟨fun _ => ?_, fun c => absurd (by rw [rc_s hC 13]; exact nI_le (by omega) (by omega)) c⟩⟩)
      refine c_play hC hv.1 hK (fun ns' na' nl' hPl => ?_)
      obtain ⟨⟨E, hE⟩, hK', -, -⟩ := hPl
      -- the reference
      have M : P_X12_many ms ma ml (nI k) (fun r' mt mb mk => sumL (fun q => if popc (q % 2048) = k then nD v 0 0 D1 (v 14 0) q else 0) N17 = r' ∧ Inv us ua rs ra ra2 sa sl ns' na' nl' yt im mt mb mk) := by
        refine m_rail hM.1 hv.1 z (b1f ?_)
        rw [e10, show (nI (v 13 0)).toInt64 = lN (v 13 0) from nI_l (by omega)]
        refine m_inL_ok (by omega) (by omega) (b1t (m_nightF hv.1 hv.2.1 hM (fun mt mb mk hF hMP => ?_)))
        have e10' : mb 10 0 = nI (v 13 0) := (hF.rm hM).1.1.2.2.2.2
        have fin2 := F ra2 ns' na' nl' mt mb mk hF.g (hF.rm hM).1 hB hK'
        have hN : 2 ^ v 13 0 ≤ N17 := by unfold N17; omega
        have L : ∀ d i, i + d = 2 ^ v 13 0 → P_X12_many_41 (nI k) (fun r' mt mb mk => sumL (fun q => if popc (q % 2048) = k then nD v 0 0 D1 (v 14 0) q else 0) N17 = r' ∧ Inv us ua rs ra ra2 sa sl ns' na' nl' yt im mt mb mk) mt mb mk (d + 1) (sumL (fun q => if popc (q % 2048) = k then nD v 0 0 D1 (v 14 0) q else 0) i) (nI i) := by
          intro d
          induction d with
          | zero =>
            intro i hi
            obtain rfl : i = 2 ^ v 13 0 := by omega
            unfold P_X12_many_41 P_X12_many_41_b
            rw [e10', sh1 (by omega)]
            refine ⟨fun _ => ⟨?_, fin2⟩, fun c => absurd (nI_le (Nat.le_refl _) (by omega)) c⟩
            exact sumL_ext hN (fun q h1 _ => by rw [nD_out h13 h1]; simp)
          | succ d ih =>
            intro i hi
            have go := ih (i + 1) (by omega)
            rw [sumL] at go
            unfold P_X12_many_41 P_X12_many_41_b
            rw [e10', sh1 (by omega)]
            refine ⟨fun c => absurd ((nI_leI (by omega) (by omega)).mp c) (by omega), fun _ => m_sizeOf (by omega) ?_⟩
            have hp : popc i ≤ 11 := by
              have := sumN_le (f := fun j => if i.testBit j then 1 else 0) (c := 1) (n := 11) (fun j _ => by split <;> omega)
              unfold popc
              omega
            rw [nI_eq (by omega) (by omega), nI_1, nI_clamp (by omega), hMP.1 i (by omega)]
            rw [Nat.mod_eq_of_lt (show i < 2048 by omega)] at go
            refine ⟨fun c x hx => ?_, fun c => ⟨vp_in_nI (by omega) (by decide), fun x hx => ?_⟩⟩
            · rw [if_neg c] at go
              rw [hx]; exact go
            · rw [if_pos c] at go
              rw [hx]; exact go
        exact ⟨2 ^ v 13 0 + 1, L (2 ^ v 13 0) 0 (by omega)⟩
      obtain ⟨s1, s2, s3, s4, s5, -⟩ := hE
      have L : ∀ (d i : Nat), i + d = E.length → P_X3_partsOfMany_5 ns' na' nl' (nI k) (fun r => P_X12_many ms ma ml (nI k) (fun r' mt mb mk => r = r' ∧ Inv us ua rs ra ra2 sa sl ns' na' nl' yt im mt mb mk)) (d + 1) (sumE (E.take i) (fun q => if popc (q % 2048) = k then nD v 0 0 D1 (v 14 0) q else 0)) (nI i) := by
        intro d
        induction d with
        | zero =>
          intro i hi
          obtain rfl : i = E.length := by omega
          rw [List.take_length]
          refine ⟨fun _ => ?_, fun c => absurd ((cmp_le s1 (by omega) (by omega)).mpr (Nat.le_refl _)) c⟩
          rw [sumE_range (n := N17) s3 (fun q hq => by
            obtain ⟨i, hi, e⟩ := mem_getD hq
            rw [← e]
            exact (s5 i hi).2.1) (fun q _ hq => by rw [s4 q hq]; simp)]
          exact M
        | succ d ih =>
          intro i hi
          have hil : i < E.length := by omega
          obtain ⟨a1, a2, a3⟩ := s5 i hil
          have go := ih (i + 1) (by omega)
          rw [sumE_take hil] at go
          refine ⟨fun c => absurd ((cmp_le s1 (by omega) (by omega)).mp c) (by omega), fun _ => ⟨vp_in_nI (by omega) (by omega), ?_⟩⟩
          rw [nI_clamp (by omega), a1, and2047 (by omega)]
          refine c_bitCount (Nat.mod_lt _ (by decide)) ?_
          have hp : popc (E.getD i 0 % 2048) ≤ 11 := by
            have := sumN_le (f := fun j => if (E.getD i 0 % 2048).testBit j then 1 else 0) (c := 1) (n := 11) (fun j _ => by split <;> omega)
            unfold popc
            omega
          rw [nI_eq (by omega) (by omega), a3, nI_1]
          refine ⟨fun c => ?_, fun c => ⟨vp_in_nI (by omega) (by omega), fun x hx => ?_⟩⟩
          · rw [if_neg c, Int64.add_zero] at go
            exact go
          · rw [if_pos c] at go
            rw [hx]; exact go
      exact ⟨E.length + 1, L E.length 0 (by omega)⟩
theorem q_risk (hI : Inv us ua rs ra ra2 sa sl ns na nl yt im ms ma ml) (p : Int32) : P_X11_risk rs ra ns na nl p (fun r ns' na' nl' => P_X12_risk ms ma ml p (fun r' mt mb mk => r = r' ∧ Inv us ua rs ra ra2 sa sl ns' na' nl' yt im mt mb mk)) := by
  obtain ⟨v, hv, hC, hM, hP, hY, hK, hB, F⟩ := hI.get
  have h13 := ok13 hv.1
  have fin := F ra2 ns na nl _ _ _ (MG.refl _ _ _) hM.1 hB hK
  rcases ixs p (n := v 13 0) (by omega) with h | ⟨b, hb, rfl⟩
  · exact c_hasB0 hC h (b0t (m_isB0 hM.1 hv.1 h (b0f ⟨rfl, fin⟩)))
  · refine c_hasB hC hv.1 hb (b1t (c_play hC hv.1 hK (fun ns' na' nl' hPl => c_riskOf hPl.2.2.2 (by omega) ?_)))
    exact m_isB hM.1 hv.1 hb (b1f (m_nightF hv.1 hv.2.1 hM (fun mt mb mk hF hMP => m_riskOf hv.1 (hF.rm hM).1 hMP hb ⟨rfl, F _ _ _ _ _ _ _ hF.g (hF.rm hM).1 hB hPl.2.1⟩)))
theorem q_has (hI : Inv us ua rs ra ra2 sa sl ns na nl yt im ms ma ml) (p w : Int32) : P_X11_has rs ra ns na nl p w (fun r ns' na' nl' => P_X12_has ms ma ml p w (fun r' mt mb mk => r = r' ∧ Inv us ua rs ra ra2 sa sl ns' na' nl' yt im mt mb mk)) := by
  obtain ⟨v, hv, hC, hM, hP, hY, hK, hB, F⟩ := hI.get
  have h13 := ok13 hv.1
  have h14 := ok14 hv.1
  have fin := F ra2 ns na nl _ _ _ (MG.refl _ _ _) hM.1 hB hK
  rcases ixs p (n := v 14 0) (by omega) with h | ⟨t, ht, rfl⟩
  · exact c_hasT0 hC h (b0f (m_isT0 hM.2.1 hv.1 h (b0f ⟨rfl, fin⟩)))
  · rcases ixs w (n := v 13 0) (by omega) with h | ⟨b, hb, rfl⟩
    · exact c_hasT hC hv.1 ht (b1f (c_hasB0 hC h (b0t (m_isT hM.2.1 hv.1 ht (b1f (m_isB0 hM.1 hv.1 h (b0t ⟨rfl, fin⟩)))))))
    · refine c_hasT hC hv.1 ht (b1f (c_hasB hC hv.1 hb (b1t (c_play hC hv.1 hK (fun ns' na' nl' hPl => c_hadBy hPl.2.2.2 (by omega) (by omega) ?_)))))
      refine m_isT hM.2.1 hv.1 ht (b1f (m_isB hM.1 hv.1 hb (b1t (m_nightF hv.1 hv.2.1 hM (fun mt mb mk hF hMP => ?_)))))
      rw [show (10 : Int32) * nI t + nI b = nI (10 * t + b) by simp only [fa_lit, pk_mul, nI_add], nI_clamp (by omega), hMP.2 t b (by omega) (by omega)]
      exact ⟨vp_in_nI (by omega) (by decide), rfl, F _ _ _ _ _ _ _ hF.g (hF.rm hM).1 hB hPl.2.1⟩
theorem c_isCost {w : Nat} (h : w < 3) {post : Int32 → Prop} (hp : post 1) : P_X11_isCost (nI w) post := ⟨fun c => absurd c (nI_pos (by omega)), fun _ => ⟨fun c => absurd ((nI_ltI (a := 2) (by decide) (by omega)).mp c) (by omega), fun _ => hp⟩⟩
theorem c_isCost0 {w : Int32} (h : w < 0 ∨ nI 3 ≤ w) {post : Int32 → Prop} (hp : post 0) : P_X11_isCost w post := by
  refine ⟨fun _ => hp, fun c => ⟨fun _ => hp, fun c2 => absurd ?_ c2⟩⟩
  have h2 := h.resolve_left c
  rw [Int32.le_iff_toInt_le, nI_toInt (by decide)] at h2
  rw [Int32.lt_iff_toInt_lt, show (2 : Int32).toInt = 2 from rfl]
  omega
theorem q_cost (hI : Inv us ua rs ra ra2 sa sl ns na nl yt im ms ma ml) (p w : Int32) : P_X11_cost rs ra ns na nl p w (fun r ns' na' nl' => P_X12_cost ms ma ml p w (fun r' mt mb mk => r = r' ∧ Inv us ua rs ra ra2 sa sl ns' na' nl' yt im mt mb mk)) := by
  obtain ⟨v, hv, hC, hM, hP, hY, hK, hB, F⟩ := hI.get
  have h13 := ok13 hv.1
  have fin := F ra2 ns na nl _ _ _ (MG.refl _ _ _) hM.1 hB hK
  rcases ixs p (n := v 13 0) (by omega) with h | ⟨b, hb, rfl⟩
  · exact c_hasB0 hC h (b0f (m_isB0 hM.1 hv.1 h (b0f ⟨rfl, fin⟩)))
  · rcases ixs w (n := 3) (by omega) with h | ⟨k, hk, rfl⟩
    · exact c_hasB hC hv.1 hb (b1f (c_isCost0 h (b0t (m_isB hM.1 hv.1 hb (b1f (m_inL_bad (m := 2) h (by decide) (b0t ⟨rfl, fin⟩)))))))
    · refine c_hasB hC hv.1 hb (b1f (c_isCost hk (b1t (c_play hC hv.1 hK (fun ns' na' nl' hPl => c_costOf hC hv.1 hPl.2.2.2 hb hk ?_)))))
      exact m_isB hM.1 hv.1 hb (b1f (m_inL_ok (m := 2) (by omega) (by decide) (b1t (m_nightF hv.1 hv.2.1 hM (fun mt mb mk hF hMP => m_whatOf hv.1 (hF.rm hM).1 hMP hb hk ⟨rfl, F _ _ _ _ _ _ _ hF.g (hF.rm hM).1 hB hPl.2.1⟩)))))
theorem c_allOn {v : Rl} (hR : RelC v rs ra) (hv : okV v) (hK : NOK ns na nl) {w : Nat} (hw : w < 3) {post : Int64 → A1 → A2 → L2 → Prop} (h : ∀ ns' na' nl', NOK ns' na' nl' → post (allL v w) ns' na' nl') : P_X11_allOn rs ra ns na nl (nI w) post :=
  c_play hR hv hK (fun ns' na' nl' hPl => c_costOfAll hR hv hPl.2.2.2 hw (h ns' na' nl' hPl.2.1))
theorem c_costOn {v : Rl} (hR : RelC v rs ra) (hv : okV v) (hK : NOK ns na nl) {b : Nat} (hb : b < v 13 0) {post : Int64 → A1 → A2 → L2 → Prop} (h : ∀ ns' na' nl', NOK ns' na' nl' → post (costL v b) ns' na' nl') : P_X11_costOn rs ra ns na nl (nI b) post :=
  c_play hR hv hK (fun ns' na' nl' hPl => c_costOf (w := 2) hR hv hPl.2.2.2 hb (by decide) (h ns' na' nl' hPl.2.1))
theorem c_lossOn {v : Rl} (hR : RelC v rs ra) (hv : okV v) (hK : NOK ns na nl) {b : Nat} (hb : b < v 13 0) {post : Int64 → A1 → A2 → L2 → Prop} (h : ∀ ns' na' nl', NOK ns' na' nl' → post (lossL v b) ns' na' nl') : P_X11_lossOn rs ra ns na nl (nI b) post :=
  c_play hR hv hK (fun ns' na' nl' hPl => c_costOf (w := 1) hR hv hPl.2.2.2 hb (by decide) (h ns' na' nl' hPl.2.1))
theorem q_all (hI : Inv us ua rs ra ra2 sa sl ns na nl yt im ms ma ml) (w : Int32) : P_X11_all rs ra ns na nl w (fun r ns' na' nl' => P_X12_all ms ma ml w (fun r' mt mb mk => r = r' ∧ Inv us ua rs ra ra2 sa sl ns' na' nl' yt im mt mb mk)) := by
  obtain ⟨v, hv, hC, hM, hP, hY, hK, hB, F⟩ := hI.get
  have fin := F ra2 ns na nl _ _ _ (MG.refl _ _ _) hM.1 hB hK
  rcases Nat.eq_zero_or_pos (v 2 0) with z | z
  · exact c_told0 hC z (b0f (m_rail0 hM.1 hv.1 z (b0f ⟨rfl, fin⟩)))
  · rcases ixs w (n := 3) (by omega) with h | ⟨k, hk, rfl⟩
    · exact c_told hC hv.1 z (b1f (c_isCost0 h (b0f (m_rail hM.1 hv.1 z (b1f (m_inL_bad (m := 2) h (by decide) (b0f ⟨rfl, fin⟩)))))))
    · refine c_told hC hv.1 z (b1f (c_isCost hk (b1f (c_allOn hC hv.1 hK hk (fun ns' na' nl' hK' => ?_)))))
      exact m_rail hM.1 hv.1 z (b1f (m_inL_ok (m := 2) (by omega) (by decide) (b1f (m_allNow hv.1 hv.2.1 hM hk (fun mt mb mk hF => ⟨rfl, F _ _ _ _ _ _ _ hF.g (hF.rm hM).1 hB hK'⟩)))))
theorem told_of {v : Rl} (hv : okR v) {b : Nat} (hb : b < v 13 0) : 0 < v 2 0 := Nat.pos_of_ne_zero fun z => by
  have := hv.2.2 z
  omega
theorem q_option (hI : Inv us ua rs ra ra2 sa sl ns na nl yt im ms ma ml) (p w : Int32) : P_X11_option rs ra p w (fun r ra' => P_X12_option ms ma p w (fun r' mt mb => r = r' ∧ Inv us ua rs ra' ra2 sa sl ns na nl yt im mt mb ml)) := by
  obtain ⟨v, hv, hC, hM, hP, hY, hK, hB, F⟩ := hI.get
  have h13 := ok13 hv.1
  have h12 := ok12 hv.1
  have fin := F ra2 ns na nl _ _ _ (MG.refl _ _ _) hM.1 hB hK
  rcases ixs p (n := v 13 0) (by omega) with h | ⟨b, hb, rfl⟩
  · exact c_hasB0 hC h (b0f (m_isB0 hM.1 hv.1 h (b0f ⟨rfl, fin⟩)))
  · have z := told_of hv hb
    rcases ixs w (n := 2 * (v 12 0 + 1)) (by omega) with h | ⟨o, ho, rfl⟩
    · exact c_hasB hC hv.1 hb (b1f (c_hasO0 hC hv.1 z h (b0t (m_isB hM.1 hv.1 hb (b1f (m_isO0 hM.1 hv.1 h (b0t ⟨rfl, fin⟩)))))))
    · refine c_hasB hC hv.1 hb (b1f (c_hasO hC hv.1 z ho (b1t (c_optionOf hC hv.1 hb (c_setOption hC (by omega) (by omega) (fun loc mar hC' => ?_))))))
      refine m_isB hM.1 hv.1 hb (b1f (m_isO hM.1 hv.1 ho (b1t (m_optionOf hM.1 hv.1 hb (m_setO hM (by omega) (by omega) (fun mb hM' hG h11 => ⟨rfl, ?_⟩))))))
      exact hI.step ((MG.z ms ma ml).trans (hG _ _)) (hv.vo ho) hC' hM'.1 hM'.2.1 ((hP.vo b o).eq (h11 6 (by decide)) (h11 7 (by decide))) ((hY.vo b o).eq (h11 16 (by decide))) hB hK
theorem m_wouldOf {v : Rl} (hv : okR v) (hM : RM v 0 ms ma) {b o : Nat} (hb : b < v 13 0) (ho : o < 2 * (v 12 0 + 1)) {post : Int64 → A1 → A2 → L2 → Prop} (h : ∀ mt mb mk, RM v 0 mt mb → MG ms ma ml mt mb mk → mb 20 = ma 20 → post (costL (vo v b o) b) mt mb mk) : P_X12_wouldOf ms ma ml (nI b) (nI o) post := by
  have h13 := ok13 hv.1
  have h12 := ok12 hv.1
  have hol := opt_lt hv.1 hb
  have hv' := hv.vo (b := b) ho
  refine m_optionOf hM.1 hv.1 hb (m_setO hM (by omega) (by omega) (fun mb hM1 hG1 h1 => ?_))
  refine m_costNow hv'.1 hv'.2.1 hM1 (by rw [vo_f (by decide) (by decide)]; exact hb) (fun mt2 mb2 mk2 hF => ?_)
  refine m_setO (hF.rm hM1) (by omega) (by omega) (fun mb3 hM3 hG3 h3 => ?_)
  rw [vo_vo, vo_opt (hv.1.2.2.2.2.1 b hb).2.2.2.2] at hM3
  exact h _ _ _ hM3 (((hG1 ms ml).trans hF.g).trans (hG3 _ _)) (((h3 20 (by decide)).trans (hF.2.1 20 (by decide) (by decide))).trans (h1 20 (by decide)))
theorem q_would (hI : Inv us ua rs ra ra2 sa sl ns na nl yt im ms ma ml) (rs2 : A1) (p w : Int32) : P_X11_would rs ra rs2 ra2 ns na nl p w (fun r _ ra2' ns' na' nl' => P_X12_would ms ma ml p w (fun r' mt mb mk => r = r' ∧ Inv us ua rs ra ra2' sa sl ns' na' nl' yt im mt mb mk)) := by
  obtain ⟨v, hv, hC, hM, hP, hY, hK, hB, F⟩ := hI.get
  have h13 := ok13 hv.1
  have h12 := ok12 hv.1
  have fin := F ra2 ns na nl _ _ _ (MG.refl _ _ _) hM.1 hB hK
  rcases ixs p (n := v 13 0) (by omega) with h | ⟨b, hb, rfl⟩
  · exact c_hasB0 hC h (b0f (m_isB0 hM.1 hv.1 h (b0f ⟨rfl, fin⟩)))
  · have z := told_of hv hb
    rcases ixs w (n := 2 * (v 12 0 + 1)) (by omega) with h | ⟨o, ho, rfl⟩
    · exact c_hasB hC hv.1 hb (b1f (c_hasO0 hC hv.1 z h (b0t (m_isB hM.1 hv.1 hb (b1f (m_isO0 hM.1 hv.1 h (b0f ⟨rfl, fin⟩)))))))
    · have hv' := hv.vo (b := b) ho
      refine c_hasB hC hv.1 hb (b1f (c_hasO hC hv.1 z ho (b1t (c_copyFrom hC hv.1 (fun rs' ra' hC1 hB1 _ => c_setOption hC1 (by omega) (by omega) (fun loc mar hC2 => ?_))))))
      refine c_costOn hC2 hv'.1 hK (by rw [vo_f (by decide) (by decide)]; exact hb) (fun ns' na' nl' hK' => ?_)
      exact m_isB hM.1 hv.1 hb (b1f (m_isO hM.1 hv.1 ho (b1f (m_wouldOf hv hM hb ho (fun mt mb mk hM' hG _ => ⟨rfl, F _ _ _ _ _ _ _ hG hM'.1 hC2.bok hK'⟩)))))
end Q
end
section
/-! the least of several; bounds of costs -/
def am (f : Nat → Int64) : Nat → Nat × Int64
  | 0 => (0, f 0)
  | k + 1 => if f (k + 1) < (am f k).2 then (k + 1, f (k + 1)) else am f k
theorem am_val (f : Nat → Int64) : ∀ k, (am f k).2 = f (am f k).1
  | 0 => rfl
  | k + 1 => by
    unfold am
    split
    · rfl
    · exact am_val f k
theorem am_le (f : Nat → Int64) : ∀ k, (am f k).1 ≤ k
  | 0 => Nat.le_refl 0
  | k + 1 => by
    have := am_le f k
    unfold am
    split
    · exact Nat.le_refl _
    · omega
theorem am_cong {f g : Nat → Int64} : ∀ {k : Nat}, (∀ i, i ≤ k → f i = g i) → am f k = am g k
  | 0, h => by rw [am, am, h 0 (Nat.le_refl 0)]
  | k + 1, h => by rw [am, am, am_cong (fun i hi => h i (by omega)), h (k + 1) (Nat.le_refl _)]
/-- the same, begun with what there is now -/
def amS (f : Nat → Int64) (had : Nat) : Nat → Nat × Int64
  | 0 => (had, f had)
  | k + 1 => if f k < (amS f had k).2 then (k, f k) else amS f had k
theorem amS_eq (f : Nat → Int64) (had : Nat) : ∀ k, amS f had (k + 1) = if (am f k).2 < f had then am f k else (had, f had)
  | 0 => by
    unfold amS amS am
    rfl
  | k + 1 => by
    rw [amS, amS_eq f had k, am]
    by_cases c : (am f k).2 < f had
    · rw [if_pos c]
      by_cases c2 : f (k + 1) < (am f k).2
      · rw [if_pos c2, if_pos (Int64.lt_trans c2 c)]
      · rw [if_neg c2, if_pos c]
    · rw [if_neg c]
      by_cases c2 : f (k + 1) < f had
      · rw [if_pos c2]
        have c3 : f (k + 1) < (am f k).2 := by
          rw [Int64.lt_iff_toInt_lt] at c c2 ⊢
          omega
        rw [if_pos c3, if_pos c2]
      · rw [if_neg c2]
        by_cases c3 : f (k + 1) < (am f k).2
        · rw [if_pos c3, if_neg c2]
        · rw [if_neg c3, if_neg c]
/-- begun with the greatest number there is -/
def amT (f : Nat → Int64) (had : Nat) : Nat → Nat × Int64
  | 0 => (had, 9223372036854775807)
  | k + 1 => if f k < (amT f had k).2 then (k, f k) else amT f had k
theorem amT_eq {f : Nat → Int64} (had : Nat) (h : f 0 < 9223372036854775807) : ∀ k, amT f had (k + 1) = am f k
  | 0 => by
    unfold amT amT am
    rw [if_pos h]
  | k + 1 => by rw [amT, amT_eq had h k, am]
theorem loss_rng (v : Rl) (b : Nat) : -9223372037 ≤ (lossL v b).toInt ∧ (lossL v b).toInt ≤ 9223372037 := by
  unfold lossL
  generalize lN (v 1 0 * v 20 b) * risk v b = x
  have h1 := fb_rngL x
  rw [Int64.toInt_div, show (1000000000 : Int64).toInt = 1000000000 from rfl]
  have h2 : -9223372037 ≤ x.toInt.tdiv 1000000000 ∧ x.toInt.tdiv 1000000000 ≤ 9223372037 := by
    rcases Int.lt_or_le x.toInt 0 with c | c
    · obtain ⟨y, hy⟩ : ∃ y : Int, x.toInt = -y := ⟨-x.toInt, by omega⟩
      rw [hy, Int.neg_tdiv, Int.tdiv_eq_ediv_of_nonneg (by omega)]
      omega
    · rw [Int.tdiv_eq_ediv_of_nonneg c]
      omega
  rw [fb_bmodL (by omega) (by omega)]
  exact h2
theorem paid_le {v : Rl} (hv : okV v) {b : Nat} (hb : b < v 13 0) : paidZ v b ≤ 1998000 := by
  obtain ⟨-, -, -, b23, -⟩ := hv.2.2.2.2.1 b hb
  have h4 := ok4 hv
  have : (if v 23 b = 0 then 0 else v 18 (v 23 b - 1)) ≤ 999 := by
    split
    · omega
    · exact hv.2.2.1 _ (by omega)
  have : (if v 24 b = 1 then v 4 0 else 0) ≤ 999 := by split <;> omega
  unfold paidZ
  omega
theorem wsh_le {v : Rl} (hv : okV v) : wshZ v ≤ 59940000 := by
  have := wages_le hv
  unfold wshZ
  split
  · exact Nat.le_trans (Nat.div_le_self _ _) this
  · omega
theorem cost_int {v : Rl} (hv : okV v) {b : Nat} (hb : b < v 13 0) : (costL v b).toInt = (paidZ v b : Int) + (lossL v b).toInt + (wshZ v : Int) := by
  have h1 := loss_rng v b
  have h2 := paid_le hv hb
  have h3 := wsh_le hv
  have e1 : (lN (paidZ v b)).toInt = (paidZ v b : Int) := pk_lT (by omega)
  have e2 : (lN (wshZ v)).toInt = (wshZ v : Int) := pk_lT (by omega)
  have e3 : (lN (paidZ v b) + lossL v b).toInt = (paidZ v b : Int) + (lossL v b).toInt := by
    rw [fb_addL (by rw [e1]; omega) (by rw [e1]; omega), e1]
  unfold costL
  rw [fb_addL (by rw [e3, e2]; omega) (by rw [e3, e2]; omega), e3, e2]
theorem cost_rng {v : Rl} (hv : okV v) {b : Nat} (hb : b < v 13 0) : -9300000000 ≤ (costL v b).toInt ∧ (costL v b).toInt ≤ 9300000000 := by
  have h1 := loss_rng v b
  have h2 := paid_le hv hb
  have h3 := wsh_le hv
  rw [cost_int hv hb]
  omega
theorem what_rng {v : Rl} (hv : okV v) {b w : Nat} (hb : b < v 13 0) : -9300000000 ≤ (whatL v b w).toInt ∧ (whatL v b w).toInt ≤ 9300000000 := by
  unfold whatL
  split
  · have := paid_le hv hb
    rw [pk_lT (by omega)]
    omega
  · split
    · have := loss_rng v b
      omega
    · exact cost_rng hv hb
theorem sumL_rng {f : Nat → Int64} : ∀ {n : Nat}, n ≤ 10 → (∀ k, k < n → -9300000000 ≤ (f k).toInt ∧ (f k).toInt ≤ 9300000000) → -(n * 9300000000 : Int) ≤ (sumL f n).toInt ∧ (sumL f n).toInt ≤ (n * 9300000000 : Int)
  | 0, _, _ => by
    rw [sumL, show (0 : Int64).toInt = 0 from rfl]
    omega
  | n + 1, hn, h => by
    have ih := sumL_rng (n := n) (by omega) (fun k hk => h k (by omega))
    have := h n (by omega)
    rw [sumL, fb_addL (by omega) (by omega)]
    omega
theorem all_rng {v : Rl} (hv : okV v) (w : Nat) : -93000000000 ≤ (allL v w).toInt ∧ (allL v w).toInt ≤ 93000000000 := by
  have h13 := ok13 hv
  have := sumL_rng (f := fun b => whatL v b w) h13 (fun k hk => what_rng hv hk)
  unfold allL
  omega
theorem lt_top {x : Int64} (h : x.toInt ≤ 1000000000000) : x < 9223372036854775807 := by
  rw [Int64.lt_iff_toInt_lt, show (9223372036854775807 : Int64).toInt = 9223372036854775807 from rfl]
  omega
/-! rails that differ in options alone -/
def SO (u v : Rl) : Prop := ∀ f k, (f ≠ 23 ∧ f ≠ 24 ∨ v 13 0 ≤ k) → u f k = v f k
theorem SO.refl (v : Rl) : SO v v := fun _ _ _ => rfl
theorem SO.f {u v : Rl} (h : SO u v) {f : Nat} (h1 : f ≠ 23) (h2 : f ≠ 24) : u f = v f := funext fun k => h f k (Or.inl ⟨h1, h2⟩)
theorem SO.n {u v : Rl} (h : SO u v) : u 13 0 = v 13 0 := h 13 0 (Or.inl ⟨by decide, by decide⟩)
theorem SO.m {u v : Rl} (h : SO u v) : u 12 0 = v 12 0 := h 12 0 (Or.inl ⟨by decide, by decide⟩)
theorem SO.vo {u v : Rl} (h : SO u v) {b : Nat} (hb : b < v 13 0) (o : Nat) : SO (vo u b o) v := fun f k q => by
  rw [← h f k q]
  unfold Jvm.Pilot.@@N@@.vo
  rw [if_neg (by omega), if_neg (by omega)]
theorem RelP.so {u v : Rl} (h : SO u v) {j : Nat} {ma : A2} (hP : RelP v j ma) : RelP u j ma := by
  unfold RelP at hP ⊢
  rw [h.f (by decide) (by decide), h.f (by decide) (by decide), h.f (by decide) (by decide)]
  exact hP
theorem RelY.so {u v : Rl} (h : SO u v) {j : Nat} {ma : A2} (hY : RelY v j ma) : RelY u j ma := by
  unfold RelY at hY ⊢
  rw [h.f (by decide) (by decide), h.f (by decide) (by decide), h.f (by decide) (by decide)]
  exact hY
def tbk (u v : Rl) : Nat → Rl
  | 0 => u
  | i + 1 => vo (tbk u v i) i (opt v i)
theorem tbk_so {u v : Rl} (h : SO u v) : ∀ i, i ≤ v 13 0 → SO (tbk u v i) v
  | 0, _ => h
  | i + 1, hi => (tbk_so h i (by omega)).vo (by omega) _
theorem tbk_at {u v : Rl} (hv : okV v) : ∀ i, i ≤ v 13 0 → ∀ b, b < i → tbk u v i 23 b = v 23 b ∧ tbk u v i 24 b = v 24 b
  | 0, _, b, hb => by omega
  | i + 1, hi, b, hb => by
    have b24 := (hv.2.2.2.2.1 i (by omega)).2.2.2.2
    rw [tbk, vo_23, vo_24]
    by_cases c : b = i
    · rw [if_pos c, if_pos c, c]
      unfold opt
      omega
    · rw [if_neg c, if_neg c]
      exact tbk_at hv i (by omega) b (by omega)
theorem tbk_end {u v : Rl} (hv : okV v) (h : SO u v) : tbk u v (v 13 0) = v := by
  funext f k
  by_cases c : f ≠ 23 ∧ f ≠ 24 ∨ v 13 0 ≤ k
  · exact tbk_so h _ (Nat.le_refl _) f k c
  · have hk : k < v 13 0 := by omega
    have := tbk_at (u := u) hv _ (Nat.le_refl _) k hk
    have hf : f = 23 ∨ f = 24 := by omega
    rcases hf with rfl | rfl
    · exact this.1
    · exact this.2
section AS
variable {ms : A1} {ma : A2} {ml : L2}
theorem m_laysAside {v : Rl} (hv : okV v) (hM : RM v 0 ms ma) {post : A2 → Prop} (h : ∀ mb : A2, (∀ j, j ≠ 20 → mb j = ma j) → (∀ b, b < v 13 0 → mb 20 b = nI (opt v b)) → post mb) : P_X12_laysAside ma post := by
  have h13 := ok13 hv
  have e13 : ma 10 0 = nI (v 13 0) := hM.1.1.2.2.2.2
  have L : ∀ (k i : Nat) (mb : A2), i + k = v 13 0 → (∀ j, j ≠ 20 → mb j = ma j) → (∀ b, b < i → mb 20 b = nI (opt v b)) → P_X12_laysAside_2 post (k + 1) (nI i) mb := by
    intro k
    induction k with
    | zero =>
      intro i mb hi q1 q2
      obtain rfl : i = v 13 0 := by omega
      exact ⟨fun _ => h mb q1 q2, fun c => absurd ((cmp_le ((congrFun (q1 10 (by decide)) 0).trans e13) (by omega) (by omega)).mpr (Nat.le_refl _)) c⟩
    | succ k ih =>
      intro i mb hi q1 q2
      refine ⟨fun c => absurd ((cmp_le ((congrFun (q1 10 (by decide)) 0).trans e13) (by omega) (by omega)).mp c) (by omega), fun _ => ?_⟩
      refine m_optionOf (hM.1.fr (fun j _ _ => q1 j (by omega))) hv (by omega) ⟨vp_in_nI (by omega) (by decide), ?_⟩
      rw [nI_1, nI_clamp (by omega)]
      refine ih (i + 1) _ (by omega) (fun j hj => by rw [up_ne hj, q1 j hj]) (fun b hb => ?_)
      rw [up_at]
      by_cases c : b = i
      · rw [c, u_at]
      · rw [u_ne c, q2 b (by omega)]
  exact ⟨v 13 0 + 1, L (v 13 0) 0 ma (by omega) (fun _ _ => rfl) (fun b hb => by omega)⟩
theorem m_takesBack {u v : Rl} (hv : okV v) (hS : SO u v) (hM : RM u 0 ms ma) (h20 : ∀ b, b < v 13 0 → ma 20 b = nI (opt v b)) {post : A2 → Prop} (h : ∀ mb : A2, RM v 0 ms mb → (∀ (ms : A1) (ml : L2), MG ms ma ml ms mb ml) → post mb) : P_X12_takesBack ma post := by
  have h13 := ok13 hv
  have h12 := ok12 hv
  have L : ∀ (k i : Nat) (mb : A2), i + k = v 13 0 → RM (tbk u v i) 0 ms mb → (∀ (ms : A1) (ml : L2), MG ms ma ml ms mb ml) → mb 20 = ma 20 → P_X12_takesBack_2 post (k + 1) (nI i) mb := by
    intro k
    induction k with
    | zero =>
      intro i mb hi q1 q2 q3
      obtain rfl : i = v 13 0 := by omega
      have e13 : mb 10 0 = nI (v 13 0) := by rw [q1.1.1.2.2.2.2, (tbk_so hS _ (Nat.le_refl _)).n]
      rw [tbk_end hv hS] at q1
      exact ⟨fun _ => h mb q1 q2, fun c => absurd ((cmp_le e13 (by omega) (by omega)).mpr (Nat.le_refl _)) c⟩
    | succ k ih =>
      intro i mb hi q1 q2 q3
      have e13 : mb 10 0 = nI (v 13 0) := by rw [q1.1.1.2.2.2.2, (tbk_so hS _ (by omega)).n]
      have hol := opt_lt hv (b := i) (by omega)
      refine ⟨fun c => absurd ((cmp_le e13 (by omega) (by omega)).mp c) (by omega), fun _ => ⟨vp_in_nI (by omega) (by decide), ?_⟩⟩
      rw [nI_clamp (by omega), q3, h20 i (by omega)]
      refine m_setO q1 (by omega) (by omega) (fun mc r1 r2 r3 => ?_)
      rw [nI_1]
      exact ih (i + 1) mc (by omega) r1 (fun a b => (q2 a b).trans (r2 a b)) ((r3 20 (by decide)).trans q3)
  exact ⟨v 13 0 + 1, L (v 13 0) 0 ma (by omega) hM (fun a b => MG.refl _ _ _) rfl⟩
end AS
end
section
/-! promises 20 to 24 -/
def fO (v : Rl) (b : Nat) : Nat → Int64 := fun o => costL (vo v b o) b
def nO (v : Rl) : Nat := 2 * (v 12 0 + 1)
def bo (v : Rl) (b : Nat) : Nat := (am (fO v b) (nO v - 1)).1
def bl (v : Rl) (b : Nat) : Int64 := (am (fO v b) (nO v - 1)).2
theorem bo_lt (v : Rl) (b : Nat) : bo v b < nO v := by
  have := am_le (fO v b) (nO v - 1)
  unfold bo nO at *
  omega
theorem fO_opt {v : Rl} (hv : okV v) {b : Nat} (hb : b < v 13 0) : fO v b (opt v b) = costL v b := by
  unfold fO
  rw [vo_opt (hv.2.2.2.2.1 b hb).2.2.2.2]
theorem amS_n {v : Rl} (hv : okV v) {b : Nat} (hb : b < v 13 0) : amS (fO v b) (opt v b) (nO v) = if bl v b < costL v b then (bo v b, bl v b) else (opt v b, costL v b) := by
  have : nO v = (nO v - 1) + 1 := by unfold nO; omega
  rw [this, amS_eq, fO_opt hv hb]
  rfl
theorem amT_n {v : Rl} (hv : okV v) {b : Nat} (hb : b < v 13 0) (had : Nat) : amT (fO v b) had (nO v) = (bo v b, bl v b) := by
  have e : nO v = (nO v - 1) + 1 := by unfold nO; omega
  rw [e, amT_eq had (lt_top ?_)]
  · rfl
  · have hv' := hv.vo (b := b) (o := 0) (by omega)
    have := cost_rng hv' (b := b) (by rw [vo_f (by decide) (by decide)]; exact hb)
    unfold fO
    omega
theorem bl_ne {v : Rl} (hv : okV v) {b : Nat} (hb : b < v 13 0) (h : bl v b < costL v b) : bo v b ≠ opt v b := by
  intro e
  have : bl v b = fO v b (bo v b) := am_val _ _
  rw [this, e, fO_opt hv hb] at h
  exact absurd h Int64.lt_irrefl
section S
variable {us : A1} {ua : A2} {rs : A1} {ra ra2 sa : A2} {sl : L2} {ns : A1} {na : A2} {nl : L2} {yt : Int32} {im : Img} {ms : A1} {ma : A2} {ml : L2}
theorem c_leastLoop {v : Rl} (hv : okR v) {b : Nat} (hb : b < v 13 0) (p3 : Int32) (g : Nat → Nat × Int64) (hg : ∀ k, g (k + 1) = if fO v b k < (g k).2 then (k, fO v b k) else g k) {post : Int32 → A2 → A1 → A2 → L2 → Prop} (h : ∀ ra' ns' na' nl', RelC v rs ra' → NOK ns' na' nl' → post (nI (g (nO v)).1) ra' ns' na' nl') (hC : RelC v rs ra) (hK : NOK ns na nl) :
    ∃ n, P_X11_leastOption_46 rs (nI b) p3 post (fun (x4_ : Int32) (x5_ : Int32) (ra0 : Nat → Nat → Int32) (ns : Nat → Int32) (na : Nat → Nat → Int32) (nl : Nat → Nat → Int64) => P_X11_leastOption_107 rs (nI b) p3 post x4_ x5_ ra0 ns na nl) (nI (opt v b)) n (nI (g 0).1) (g 0).2 0 ra ns na nl := by
  have h13 := ok13 hv.1
  have h12 := ok12 hv.1
  have hol := opt_lt hv.1 hb
  have z := told_of hv hb
  have L : ∀ (k i : Nat) (rx : A2) (nx : A1) (ax : A2) (lx : L2) (u : Rl), i + k = nO v → RelC u rs rx → (∀ o, vo u b o = vo v b o) → NOK nx ax lx → P_X11_leastOption_46 rs (nI b) p3 post (fun (x4_ : Int32) (x5_ : Int32) (ra0 : Nat → Nat → Int32) (ns : Nat → Int32) (na : Nat → Nat → Int32) (nl : Nat → Nat → Int64) => P_X11_leastOption_107 rs (nI b) p3 post x4_ x5_ ra0 ns na nl) (nI (opt v b)) (k + 1) (nI (g i).1) (g i).2 (nI i) rx nx ax lx := by
    intro k
    induction k with
    | zero =>
      intro i rx nx ax lx u hi q1 q2 q3
      obtain rfl : i = nO v := by omega
      unfold P_X11_leastOption_46 P_X11_leastOption_46_b
      refine c_options hC hv.1 z ⟨fun _ => ?_, fun c => absurd (nI_le (Nat.le_refl _) (by omega)) c⟩
      refine c_setOption q1 (by omega) (by omega) (fun loc mar hC' => ?_)
      rw [q2, vo_opt (hv.1.2.2.2.2.1 b hb).2.2.2.2] at hC'
      exact h _ _ _ _ hC' q3
    | succ k ih =>
      intro i rx nx ax lx u hi q1 q2 q3
      have hio : i < 2 * (v 12 0 + 1) := by unfold nO at hi; omega
      unfold P_X11_leastOption_46 P_X11_leastOption_46_b
      refine c_options hC hv.1 z ⟨fun c => absurd ((nI_leI (by omega) (by omega)).mp c) (by omega), fun _ => ?_⟩
      refine c_setOption q1 (by omega) (by omega) (fun loc mar hC' => ?_)
      rw [q2] at hC'
      have hv' := hv.vo (b := b) hio
      refine c_play hC' hv'.1 q3 (fun n1 a1 l1 hPl => ?_)
      refine c_costOf (w := 2) hC' hv'.1 hPl.2.2.2 (by rw [vo_f (by decide) (by decide)]; exact hb) (by decide) ?_
      have e : whatL (vo v b i) b 2 = fO v b i := rfl
      rw [e, nI_1]
      have go := ih (i + 1) (va_up (va_up rx 7 loc) 8 mar) n1 a1 l1 (vo v b i) (by omega) hC' (fun o => vo_vo v b i o) hPl.2.1
      rw [hg i] at go
      refine ⟨fun c => ?_, fun c => ?_⟩
      · rw [if_neg (Int64.not_lt.mpr c)] at go
        exact go
      · rw [if_pos (Int64.not_le.mp c)] at go
        exact go
  exact ⟨nO v + 1, L (nO v) 0 ra ns na nl v (by omega) hC (fun _ => rfl) hK⟩
theorem c_least1 {v : Rl} (hv : okR v) (hC : RelC v rs ra) (hK : NOK ns na nl) {b : Nat} (hb : b < v 13 0) {post : Int32 → A2 → A1 → A2 → L2 → Prop} (h : ∀ ra' ns' na' nl', RelC v rs ra' → NOK ns' na' nl' → post (nI (if bl v b < costL v b then bo v b else opt v b)) ra' ns' na' nl') : P_X11_leastOption rs ra ns na nl (nI b) 1 post := by
  refine c_optionOf hC hv.1 hb ⟨fun c => absurd c (by decide), fun _ => c_play hC hv.1 hK (fun n1 a1 l1 hPl => c_costOf (w := 2) hC hv.1 hPl.2.2.2 hb (by decide) ?_)⟩
  have e : whatL v b 2 = (amS (fO v b) (opt v b) 0).2 := by rw [amS, fO_opt hv.1 hb]; rfl
  rw [e]
  refine c_leastLoop hv hb 1 (amS (fO v b) (opt v b)) (fun k => rfl) (fun ra' ns' na' nl' h1 h2 => ?_) hC hPl.2.1
  have := h ra' ns' na' nl' h1 h2
  rw [amS_n hv.1 hb]
  split
  · rename_i c; rw [if_pos c] at this; exact this
  · rename_i c; rw [if_neg c] at this; exact this
theorem c_least0 {v : Rl} (hv : okR v) (hC : RelC v rs ra) (hK : NOK ns na nl) {b : Nat} (hb : b < v 13 0) {post : Int32 → A2 → A1 → A2 → L2 → Prop} (h : ∀ ra' ns' na' nl', RelC v rs ra' → NOK ns' na' nl' → post (nI (bo v b)) ra' ns' na' nl') : P_X11_leastOption rs ra ns na nl (nI b) 0 post := by
  refine c_optionOf hC hv.1 hb ⟨fun _ => ?_, fun c => absurd rfl c⟩
  refine c_leastLoop hv hb 0 (amT (fO v b) (opt v b)) (fun k => rfl) (fun ra' ns' na' nl' h1 h2 => ?_) hC hK
  rw [amT_n hv.1 hb]
  exact h ra' ns' na' nl' h1 h2
theorem m_bestOf {v : Rl} (hv : okR v) {mw : Nat → Int64} (hM : RM v 0 ms ma) {b : Nat} (hb : b < v 13 0) {post : Int32 → A1 → (Nat → Int64) → A2 → L2 → Prop} (h : ∀ mt mw' mb mk, RM v 0 mt mb → MG ms ma ml mt mb mk → mb 20 = ma 20 → mw' 1 = bl v b → post (nI (bo v b)) mt mw' mb mk) : P_X12_bestOf ms mw ma ml (nI b) post := by
  have h12 := ok12 hv.1
  refine m_wouldOf (o := 0) hv hM hb (by omega) (fun m1 a1 l1 q1 q2 q3 => ?_)
  have L : ∀ (k i : Nat) (mt : A1) (mw' : Nat → Int64) (mb : A2) (mk : L2), i + k = nO v - 1 → RM v 0 mt mb → MG ms ma ml mt mb mk → mb 20 = ma 20 → mw' 1 = (am (fO v b) i).2 → P_X12_bestOf_14 (nI b) post (k + 1) (nI (am (fO v b) i).1) (nI (i + 1)) mt mw' mb mk := by
    intro k
    induction k with
    | zero =>
      intro i mt mw' mb mk hi r1 r2 r3 r4
      obtain rfl : i = nO v - 1 := by omega
      have e : nO v - 1 + 1 = 2 * (v 12 0 + 1) := by unfold nO; omega
      unfold P_X12_bestOf_14 P_X12_bestOf_14_b
      refine m_optionMany r1.1 ⟨fun _ => h _ _ _ _ r1 r2 r3 r4, fun c => absurd (by rw [e]; exact nI_le (Nat.le_refl _) (by omega)) c⟩
    | succ k ih =>
      intro i mt mw' mb mk hi r1 r2 r3 r4
      have hi2 : i + 1 < 2 * (v 12 0 + 1) := by unfold nO at hi; omega
      unfold P_X12_bestOf_14 P_X12_bestOf_14_b
      refine m_optionMany r1.1 ⟨fun c => absurd ((nI_leI (by omega) (by omega)).mp c) (by omega), fun _ => ?_⟩
      refine m_wouldOf hv r1 hb hi2 (fun m2 a2 l2 s1 s2 s3 => ?_)
      have e : costL (vo v b (i + 1)) b = fO v b (i + 1) := rfl
      rw [e, r4, nI_1]
      have hstep : am (fO v b) (i + 1) = if fO v b (i + 1) < (am (fO v b) i).2 then (i + 1, fO v b (i + 1)) else am (fO v b) i := rfl
      refine ⟨fun c => ?_, fun c => ?_⟩
      · rw [if_pos c] at hstep
        have go := ih (i + 1) m2 (va_up mw' 1 (fO v b (i + 1))) a2 l2 (by omega) s1 (r2.trans s2) (s3.trans r3) (by rw [up_at, hstep])
        rw [hstep] at go
        exact go
      · rw [if_neg c] at hstep
        have go := ih (i + 1) m2 mw' a2 l2 (by omega) s1 (r2.trans s2) (s3.trans r3) (by rw [hstep]; exact r4)
        rw [hstep] at go
        exact go
  exact ⟨nO v - 1 + 1, L (nO v - 1) 0 m1 _ a1 l1 (by omega) q1 q2 q3 up_at⟩
theorem q_best (hI : Inv us ua rs ra ra2 sa sl ns na nl yt im ms ma ml) (rs2 : A1) (mw : Nat → Int64) (p : Int32) : P_X11_best rs ra rs2 ra2 ns na nl p (fun r _ ra2' ns' na' nl' => P_X12_best ms mw ma ml p (fun r' mt _ mb mk => r = r' ∧ Inv us ua rs ra ra2' sa sl ns' na' nl' yt im mt mb mk)) := by
  obtain ⟨v, hv, hC, hM, hP, hY, hK, hB, F⟩ := hI.get
  have h13 := ok13 hv.1
  have fin := F ra2 ns na nl _ _ _ (MG.refl _ _ _) hM.1 hB hK
  rcases ixs p (n := v 13 0) (by omega) with h | ⟨b, hb, rfl⟩
  · exact c_hasB0 hC h (b0t (m_isB0 hM.1 hv.1 h (b0f ⟨rfl, fin⟩)))
  · refine c_hasB hC hv.1 hb (b1t (c_copyFrom hC hv.1 (fun rs' ra' hC1 hB1 _ => c_least0 hv hC1 hK hb (fun ra3 ns' na' nl' hC3 hK' => ?_))))
    exact m_isB hM.1 hv.1 hb (b1f (m_bestOf hv hM hb (fun mt mw' mb mk hM' hG _ _ => ⟨rfl, F _ _ _ _ _ _ _ hG hM'.1 hC3.bok hK'⟩)))
def rstN (v : Rl) : Nat → Nat
  | 0 => 0
  | b + 1 => rstN v b + if bl v b < costL v b then 1 else 0
theorem q_restless (hI : Inv us ua rs ra ra2 sa sl ns na nl yt im ms ma ml) (rs2 : A1) (mw : Nat → Int64) : P_X11_restless rs ra rs2 ra2 ns na nl (fun r _ ra2' ns' na' nl' => P_X12_restless ms mw ma ml (fun r' mt _ mb mk => r = r' ∧ Inv us ua rs ra ra2' sa sl ns' na' nl' yt im mt mb mk)) := by
  obtain ⟨v, hv, hC, hM, hP, hY, hK, hB, F⟩ := hI.get
  have h13 := ok13 hv.1
  have fin := F ra2 ns na nl _ _ _ (MG.refl _ _ _) hM.1 hB hK
  rcases Nat.eq_zero_or_pos (v 2 0) with z | z
  · exact c_told0 hC z (b0t (m_rail0 hM.1 hv.1 z (b0t ⟨rfl, fin⟩)))
  · refine c_told hC hv.1 z (b1t (c_copyFrom hC hv.1 (fun rs' ra' hC1 hB1 _ => ?_)))
    have M : ∀ (ra3 : A2) (ns' : A1) (na' : A2) (nl' : L2), BOK ra3 → NOK ns' na' nl' → P_X12_restless ms mw ma ml (fun r' mt _ mb mk => nI (rstN v (v 13 0)) = r' ∧ Inv us ua rs ra ra3 sa sl ns' na' nl' yt im mt mb mk) := by
      intro ra3 ns' na' nl' hB3 hK3
      have L : ∀ (k i : Nat) (mt : A1) (mw' : Nat → Int64) (mb : A2) (mk : L2), i + k = v 13 0 → RM v 0 mt mb → MG (va_up ms 0 0) ma ml mt mb mk → P_X12_restless_19 (fun r' mt _ mb mk => nI (rstN v (v 13 0)) = r' ∧ Inv us ua rs ra ra3 sa sl ns' na' nl' yt im mt mb mk) (k + 1) (nI (rstN v i)) (nI i) mt mw' mb mk := by
        intro k
        induction k with
        | zero =>
          intro i mt mw' mb mk hi r1 r2
          obtain rfl : i = v 13 0 := by omega
          exact ⟨fun _ => ⟨rfl, F _ _ _ _ _ _ _ r2 r1.1 hB3 hK3⟩, fun c => absurd ((cmp_le r1.1.1.2.2.2.2 (by omega) (by omega)).mpr (Nat.le_refl _)) c⟩
        | succ k ih =>
          intro i mt mw' mb mk hi r1 r2
          refine ⟨fun c => absurd ((cmp_le r1.1.1.2.2.2.2 (by omega) (by omega)).mp c) (by omega), fun _ => ?_⟩
          refine m_bestOf hv r1 (by omega) (fun m2 w2 a2 l2 s1 s2 _ s4 => ?_)
          refine m_costNow hv.1 hv.2.1 s1 (by omega) (fun m3 a3 l3 hF => ?_)
          have go := ih (i + 1) m3 w2 a3 l3 (by omega) (hF.rm s1) ((r2.trans s2).trans hF.g)
          rw [rstN] at go
          rw [s4, nI_1]
          refine ⟨fun c x hx => ?_, fun c x hx => ?_⟩
          · rw [if_neg (Int64.not_lt.mpr c)] at go
            rw [show (0 : Int32) = nI 0 from rfl, nI_add] at hx
            rw [hx]; exact go
          · rw [if_pos (Int64.not_le.mp c)] at go
            rw [nI_1] at hx
            rw [hx]; exact go
      exact m_rail hM.1 hv.1 z (b1t ⟨v 13 0 + 1, L (v 13 0) 0 _ _ _ _ (by omega) hM (MG.refl _ _ _)⟩)
    have L : ∀ (k i : Nat) (rx : A2) (nx : A1) (ax : A2) (lx : L2), i + k = v 13 0 → RelC v rs' rx → NOK nx ax lx → P_X11_restless_28 rs ra (fun r _ ra2' ns' na' nl' => P_X12_restless ms mw ma ml (fun r' mt _ mb mk => r = r' ∧ Inv us ua rs ra ra2' sa sl ns' na' nl' yt im mt mb mk)) rs' (k + 1) (nI (rstN v i)) (nI i) rx nx ax lx := by
      intro k
      induction k with
      | zero =>
        intro i rx nx ax lx hi r1 r2
        obtain rfl : i = v 13 0 := by omega
        exact ⟨fun _ => M rx nx ax lx r1.bok r2, fun c => absurd ((cmp_le (rc_s hC 13) (by omega) (by omega)).mpr (Nat.le_refl _)) c⟩
      | succ k ih =>
        intro i rx nx ax lx hi r1 r2
        refine ⟨fun c => absurd ((cmp_le (rc_s hC 13) (by omega) (by omega)).mp c) (by omega), fun _ => ?_⟩
        have hbo := bo_lt v i
        have hol := opt_lt hv.1 (b := i) (by omega)
        have h12 := ok12 hv.1
        refine c_least1 hv r1 r2 (by omega) (fun ry ny ay ly s1 s2 => c_optionOf s1 hv.1 (by omega) ?_)
        have go := ih (i + 1) ry ny ay ly (by omega) s1 s2
        rw [rstN] at go
        rw [nI_1, nI_1]
        by_cases c : bl v i < costL v i
        · rw [if_pos c]
          rw [if_pos c] at go
          refine ⟨fun e => absurd ((nI_eq (by unfold nO at hbo; omega) (by omega)).mp e) (bl_ne hv.1 (by omega) c), fun _ => go⟩
        · rw [if_neg c]
          rw [if_neg c] at go
          exact ⟨fun _ => go, fun e => absurd rfl e⟩
    exact ⟨v 13 0 + 1, L (v 13 0) 0 ra' ns na nl (by omega) hC1 hK⟩
end S
/-! a round, and rounds -/
def rn (v : Rl) : Nat → Rl × Bool
  | 0 => (v, false)
  | b + 1 => if bl (rn v b).1 b < costL (rn v b).1 b then (vo (rn v b).1 b (bo (rn v b).1 b), true) else rn v b
theorem rn_ok {v : Rl} (hv : okR v) : ∀ b, b ≤ v 13 0 → okR (rn v b).1 ∧ SO (rn v b).1 v
  | 0, _ => ⟨hv, SO.refl v⟩
  | b + 1, h => by
    obtain ⟨h1, h2⟩ := rn_ok hv b (by omega)
    unfold rn
    split
    · exact ⟨h1.vo (bo_lt _ b), h2.vo (by omega) _⟩
    · exact ⟨h1, h2⟩
def itr (v : Rl) : Nat → Rl
  | 0 => v
  | k + 1 => (rn (itr v k) (v 13 0)).1
theorem SO.trans {u v w : Rl} (h : SO u v) (g : SO v w) : SO u w := fun f k q => by
  rw [h f k (by rw [g.n]; exact q), g f k q]
theorem itr_ok {v : Rl} (hv : okR v) : ∀ k, okR (itr v k) ∧ SO (itr v k) v
  | 0 => ⟨hv, SO.refl v⟩
  | k + 1 => by
    obtain ⟨h1, h2⟩ := itr_ok hv k
    obtain ⟨g1, g2⟩ := rn_ok h1 (v 13 0) (by rw [h2.n]; exact Nat.le_refl _)
    exact ⟨g1, g2.trans h2⟩
/-- does round k change nothing -/
def stil (v : Rl) (k : Nat) : Bool := !(rn (itr v k) (v 13 0)).2
def bI (b : Bool) : Int32 := if b then 1 else 0
section T
variable {us : A1} {ua : A2} {rs : A1} {ra ra2 sa : A2} {sl : L2} {ns : A1} {na : A2} {nl : L2} {yt : Int32} {im : Img} {ms : A1} {ma : A2} {ml : L2}
theorem m_round {v : Rl} (hv : okR v) {mw : Nat → Int64} (hM : RM v 0 ms ma) {post : Int32 → A1 → (Nat → Int64) → A2 → L2 → Prop} (h : ∀ mt mw' mb mk, RM (rn v (v 13 0)).1 0 mt mb → MG ms ma ml mt mb mk → mb 20 = ma 20 → post (bI (rn v (v 13 0)).2) mt mw' mb mk) : P_X12_round ms mw ma ml post := by
  have h13 := ok13 hv.1
  have L : ∀ (k i : Nat) (mt : A1) (mw' : Nat → Int64) (mb : A2) (mk : L2), i + k = v 13 0 → RM (rn v i).1 0 mt mb → MG ms ma ml mt mb mk → mb 20 = ma 20 → P_X12_round_4 post (k + 1) (bI (rn v i).2) (nI i) mt mw' mb mk := by
    intro k
    induction k with
    | zero =>
      intro i mt mw' mb mk hi r1 r2 r3
      obtain rfl : i = v 13 0 := by omega
      have e : mb 10 0 = nI (v 13 0) := by rw [r1.1.1.2.2.2.2, (rn_ok hv _ (Nat.le_refl _)).2.n]
      refine ⟨fun _ => ⟨?_, h _ _ _ _ r1 r2 r3⟩, fun c => absurd ((cmp_le e (by omega) (by omega)).mpr (Nat.le_refl _)) c⟩
      unfold bI
      split
      · exact Or.inr rfl
      · exact Or.inl rfl
    | succ k ih =>
      intro i mt mw' mb mk hi r1 r2 r3
      obtain ⟨g1, g2⟩ := rn_ok hv i (by omega)
      have e : mb 10 0 = nI (v 13 0) := by rw [r1.1.1.2.2.2.2, g2.n]
      have hib : i < (rn v i).1 13 0 := by rw [g2.n]; omega
      have hbo := bo_lt (rn v i).1 i
      have h12 := ok12 g1.1
      refine ⟨fun c => absurd ((cmp_le e (by omega) (by omega)).mp c) (by omega), fun _ => ?_⟩
      refine m_bestOf g1 r1 hib (fun m2 w2 a2 l2 s1 s2 s3 s4 => ?_)
      refine m_costNow g1.1 g1.2.1 s1 hib (fun m3 a3 l3 hF => ?_)
      rw [s4, nI_1]
      refine ⟨fun c => ?_, fun c => ?_⟩
      · refine m_setO (hF.rm s1) (by omega) (by unfold nO at hbo; omega) (fun a4 t1 t2 t3 => ?_)
        have e2 : rn v (i + 1) = (vo (rn v i).1 i (bo (rn v i).1 i), true) := by rw [rn, if_pos c]
        have go := ih (i + 1) m3 w2 a4 l3 (by omega) (by rw [e2]; exact t1) (((r2.trans s2).trans hF.g).trans (t2 _ _)) ((((t3 20 (by decide)).trans (hF.2.1 20 (by decide) (by decide))).trans s3).trans r3)
        rw [e2] at go
        exact go
      · have e2 : rn v (i + 1) = rn v i := by rw [rn, if_neg c]
        have go := ih (i + 1) m3 w2 a3 l3 (by omega) (by rw [e2]; exact hF.rm s1) ((r2.trans s2).trans hF.g) (((hF.2.1 20 (by decide) (by decide)).trans s3).trans r3)
        rw [e2] at go
        exact go
  exact ⟨v 13 0 + 1, L (v 13 0) 0 ms mw ma ml (by omega) hM (MG.refl _ _ _) rfl⟩
/-- how many rounds of n change something, first -/
def rK (v : Rl) (n : Nat) : Nat := fa_first (stil v) n
theorem m_settlesIn {v : Rl} (hv : okR v) {mw : Nat → Int64} (hM : RM v 0 ms ma) {n : Nat} (hn : n ≤ 60) {post : Int32 → A1 → (Nat → Int64) → A2 → L2 → Prop}
    (h : ∀ mt mw' mb mk, RM (itr v (if rK v n < n then rK v n + 1 else n)) 0 mt mb → MG ms ma ml mt mb mk → mb 20 = ma 20 → mt 13 = bI (decide (rK v n < n)) → post (nI (if rK v n < n then rK v n + 1 else n)) mt mw' mb mk) : P_X12_settlesIn ms mw ma ml (nI n) post := by
  have hle := fa_first_le (stil v) n
  have L : ∀ (k i : Nat) (mt : A1) (mw' : Nat → Int64) (mb : A2) (mk : L2), i + k = n → i ≤ rK v n → RM (itr v i) 0 mt mb → MG ms ma ml mt mb mk → mb 20 = ma 20 → mt 13 = 0 → P_X12_settlesIn_7 (nI n) post (k + 2) (nI i) mt mw' mb mk := by
    intro k
    induction k with
    | zero =>
      intro i mt mw' mb mk hi hK r1 r2 r3 r4
      obtain rfl : i = n := by omega
      have hN : ¬ rK v i < i := by unfold rK at hK ⊢; omega
      rw [if_neg hN] at h
      refine ⟨fun _ => h _ _ _ _ r1 r2 r3 (by rw [r4]; unfold bI; simp [hN]), fun c => absurd (nI_le (Nat.le_refl _) (by omega)) c⟩
    | succ k ih =>
      intro i mt mw' mb mk hi hK r1 r2 r3 r4
      obtain ⟨g1, g2⟩ := itr_ok hv i
      refine ⟨fun c => absurd ((nI_leI (by omega) (by omega)).mp c) (by omega), fun _ => ⟨fun c => absurd r4 c, fun _ => ?_⟩⟩
      refine m_round g1 r1 (fun m2 w2 a2 l2 s1 s2 s3 => ?_)
      rw [g2.n] at s1 ⊢
      rw [nI_1]
      have e13 : ∀ x, MG m2 a2 l2 (va_up m2 13 x) a2 l2 := fun x => ⟨fun j _ _ h13 => up_ne h13, fun _ _ _ _ _ => rfl, fun _ _ => rfl, fun _ _ => rfl, rfl⟩
      have eRM : ∀ x, RM (itr v (i + 1)) 0 (va_up m2 13 x) a2 := fun x => s1.fr (fun _ _ _ => rfl) (up_ne (by decide)) (up_ne (by decide))
      cases hst : (rn (itr v i) (v 13 0)).2 with
      | true =>
        refine ⟨fun _ => ?_, fun c => absurd c (by decide)⟩
        have hlt : i < rK v n := by
          rcases Nat.lt_or_ge i (rK v n) with q | q
          · exact q
          · exfalso
            have e : rK v n = i := by omega
            have := fa_first_yes (stil v) n (by unfold rK at e; omega)
            rw [show fa_first (stil v) n = i from e] at this
            unfold stil at this
            rw [hst] at this
            simp at this
        exact ih (i + 1) _ _ _ _ (by omega) (by omega) (eRM 0) ((r2.trans s2).trans (e13 0)) (s3.trans r3) up_at
      | false =>
        refine ⟨fun c => absurd rfl c, fun _ => ?_⟩
        have e : rK v n = i := by
          rcases Nat.lt_or_ge i (rK v n) with q | q
          · exfalso
            have := fa_first_no (stil v) n i q
            unfold stil at this
            rw [hst] at this
            simp at this
          · omega
        have hlt : rK v n < n := by omega
        rw [if_pos hlt, e] at h
        have fin := h (va_up m2 13 1) w2 a2 l2 (eRM 1) ((r2.trans s2).trans (e13 1)) (s3.trans r3) (by rw [up_at]; unfold bI; simp; omega)
        refine ⟨fun _ => fin, fun _ => ⟨fun _ => fin, fun c => absurd c (by rw [up_at]; decide)⟩⟩
  exact ⟨n + 2, L n 0 _ mw ma ml (by omega) (Nat.zero_le _) (hM.fr (fun _ _ _ => rfl) (up_ne (by decide)) (up_ne (by decide))) ⟨fun j _ _ h13 => up_ne h13, fun _ _ _ _ _ => rfl, fun _ _ => rfl, fun _ _ => rfl, rfl⟩ rfl up_at⟩
theorem bI_or (a b : Bool) : bI a ||| bI b = bI (a || b) := by cases a <;> cases b <;> rfl
theorem c_roundsOn {v : Rl} (hv : okR v) (hC : RelC v rs ra) (hK : NOK ns na nl) {n : Nat} (hn : n ≤ 60) {post : Int32 → A2 → A1 → A2 → L2 → Prop}
    (h : ∀ ra' ns' na' nl', RelC (itr v (if rK v n < n then rK v n + 1 else n)) rs ra' → NOK ns' na' nl' → post (nI (rK v n + 1)) ra' ns' na' nl') : P_X11_roundsOn rs ra ns na nl (nI n) post := by
  have h13 := ok13 hv.1
  have hle := fa_first_le (stil v) n
  -- a round
  have B : ∀ (u : Rl), okR u → SO u v → ∀ (x3 : Int32) (K76 : Int32 → Int32 → A2 → A1 → A2 → L2 → Prop) (rx : A2) (nx : A1) (ax : A2) (lx : L2), RelC u rs rx → NOK nx ax lx → (∀ ry ny ay ly, RelC (rn u (v 13 0)).1 rs ry → NOK ny ay ly → K76 x3 (bI (rn u (v 13 0)).2) ry ny ay ly) → ∃ m, P_X11_roundsOn_13 rs (nI n) post K76 x3 m 0 0 rx nx ax lx := by
    intro u hu hS x3 K76 rx nx ax lx q1 q2 kk
    have hn13 := hS.n
    have L : ∀ (k i : Nat) (ry : A2) (ny : A1) (ay : A2) (ly : L2), i + k = v 13 0 → RelC (rn u i).1 rs ry → NOK ny ay ly → P_X11_roundsOn_13 rs (nI n) post K76 x3 (k + 1) (bI (rn u i).2) (nI i) ry ny ay ly := by
      intro k
      induction k with
      | zero =>
        intro i ry ny ay ly hi r1 r2
        obtain rfl : i = v 13 0 := by omega
        exact ⟨fun _ => kk _ _ _ _ r1 r2, fun c => absurd ((cmp_le (rc_s hC 13) (by omega) (by omega)).mpr (Nat.le_refl _)) c⟩
      | succ k ih =>
        intro i ry ny ay ly hi r1 r2
        obtain ⟨g1, g2⟩ := rn_ok hu i (by omega)
        have hib : i < (rn u i).1 13 0 := by rw [g2.n]; omega
        have hbo := bo_lt (rn u i).1 i
        have hol := opt_lt g1.1 hib
        have h12 := ok12 g1.1
        refine ⟨fun c => absurd ((cmp_le (rc_s hC 13) (by omega) (by omega)).mp c) (by omega), fun _ => ?_⟩
        refine c_least1 g1 r1 r2 hib (fun rz nz az lz s1 s2 => c_optionOf s1 g1.1 hib ?_)
        by_cases c : bl (rn u i).1 i < costL (rn u i).1 i
        · rw [if_pos c]
          have e2 : rn u (i + 1) = (vo (rn u i).1 i (bo (rn u i).1 i), true) := by rw [rn, if_pos c]
          refine ⟨fun e => absurd ((nI_eq (by unfold nO at hbo; omega) (by omega)).mp e) (bl_ne g1.1 hib c), fun _ => ?_⟩
          intro x1 hx1
          have hx : x1 = bI true := by rw [hx1, show (1 : Int32) = bI true from rfl, bI_or]; simp
          subst hx
          refine c_setOption s1 (by omega) (by unfold nO at hbo; omega) (fun loc mar hC' => ?_)
          have go := ih (i + 1) _ nz az lz (by omega) (by rw [e2]; exact hC') s2
          rw [e2] at go
          rw [nI_1]
          exact go
        · rw [if_neg c]
          have e2 : rn u (i + 1) = rn u i := by rw [rn, if_neg c]
          refine ⟨fun _ => ?_, fun e => absurd rfl e⟩
          intro x1 hx1
          have hx : x1 = bI (rn u i).2 := by rw [hx1, show (0 : Int32) = bI false from rfl, bI_or]; simp
          subst hx
          refine c_setOption s1 (by omega) (by omega) (fun loc mar hC' => ?_)
          rw [vo_opt (g1.1.2.2.2.2.1 i hib).2.2.2.2] at hC'
          have go := ih (i + 1) _ nz az lz (by omega) (by rw [e2]; exact hC') s2
          rw [e2] at go
          rw [nI_1]
          exact go
    exact ⟨v 13 0 + 1, L (v 13 0) 0 rx nx ax lx (by omega) q1 q2⟩
  have L : ∀ (k i : Nat) (ry : A2) (ny : A1) (ay : A2) (ly : L2), i + k = n → i ≤ rK v n → RelC (itr v i) rs ry → NOK ny ay ly → P_X11_roundsOn_2 rs (nI n) post (k + 1) (nI (i + 1)) ry ny ay ly := by
    intro k
    induction k with
    | zero =>
      intro i ry ny ay ly hi hK r1 r2
      obtain rfl : i = n := by omega
      have hN : ¬ rK v i < i := by unfold rK at hK ⊢; omega
      have e : rK v i = i := by unfold rK at hN ⊢; omega
      rw [if_neg hN] at h
      refine ⟨fun _ => ?_, fun c => absurd (nI_lt (by omega) (by omega)) c⟩
      rw [nI_1]
      have := h _ _ _ _ r1 r2
      rw [e] at this
      exact this
    | succ k ih =>
      intro i ry ny ay ly hi hK r1 r2
      obtain ⟨g1, g2⟩ := itr_ok hv i
      refine ⟨fun c => absurd ((nI_ltI (by omega) (by omega)).mp c) (by omega), fun _ => ?_⟩
      refine B (itr v i) g1 g2 _ _ ry ny ay ly r1 r2 (fun rz nz az lz s1 s2 => ?_)
      unfold P_X11_roundsOn_76
      rw [nI_1]
      cases hst : (rn (itr v i) (v 13 0)).2 with
      | true =>
        refine ⟨fun _ => ?_, fun c => absurd c (by decide)⟩
        have hlt : i < rK v n := by
          rcases Nat.lt_or_ge i (rK v n) with q | q
          · exact q
          · exfalso
            have e : rK v n = i := by omega
            have := fa_first_yes (stil v) n (by unfold rK at e; omega)
            rw [show fa_first (stil v) n = i from e] at this
            unfold stil at this
            rw [hst] at this
            simp at this
        exact ih (i + 1) _ _ _ _ (by omega) (by omega) s1 s2
      | false =>
        refine ⟨fun c => absurd rfl c, fun _ => ?_⟩
        have e : rK v n = i := by
          rcases Nat.lt_or_ge i (rK v n) with q | q
          · exfalso
            have := fa_first_no (stil v) n i q
            unfold stil at this
            rw [hst] at this
            simp at this
          · omega
        have hlt : rK v n < n := by omega
        rw [if_pos hlt, e] at h
        exact h _ _ _ _ s1 s2
  exact ⟨n + 1, L n 0 ra ns na nl (by omega) (Nat.zero_le _) hC hK⟩
end T
end
section
/-! promises 22 to 26: settling and bettering, call by call -/
def chI (v : Rl) (b : Nat) (s : Int64 × Option (Nat × Nat)) : Nat → Int64 × Option (Nat × Nat)
  | 0 => s
  | k + 1 => if allL (vo v b k) 2 < (chI v b s k).1 then (allL (vo v b k) 2, some (b, k)) else chI v b s k
def chO (v : Rl) : Nat → Int64 × Option (Nat × Nat)
  | 0 => (allL v 2, none)
  | b + 1 => chI v b (chO v b) (nO v)
def sB (s : Int64 × Option (Nat × Nat)) : Int32 := match s.2 with
  | none => -1
  | some q => nI q.1
def sO (s : Int64 × Option (Nat × Nat)) : Int32 := match s.2 with
  | none => 0
  | some q => nI q.2
theorem chI_in {v : Rl} {b n : Nat} {s : Int64 × Option (Nat × Nat)} (hb : b < n) (h : ∀ q, s.2 = some q → q.1 < n ∧ q.2 < nO v) : ∀ k, k ≤ nO v → ∀ q, (chI v b s k).2 = some q → q.1 < n ∧ q.2 < nO v
  | 0, _ => h
  | k + 1, hk => by
    intro q hq
    unfold chI at hq
    split at hq
    · simp at hq
      subst hq
      exact ⟨hb, by simp; omega⟩
    · exact chI_in hb h k (by omega) q hq
theorem chO_in {v : Rl} : ∀ b, b ≤ v 13 0 → ∀ q, (chO v b).2 = some q → q.1 < v 13 0 ∧ q.2 < nO v
  | 0, _ => by intro q hq; simp [chO] at hq
  | b + 1, hb => by
    rw [chO]
    exact chI_in (by omega) (chO_in b (by omega)) _ (Nat.le_refl _)
/-- a change for the better -/
def btr (v : Rl) : Rl := match (chO v (v 13 0)).2 with
  | none => v
  | some q => vo v q.1 q.2
def isB (v : Rl) : Bool := (chO v (v 13 0)).2.isSome
theorem btr_ok {v : Rl} (hv : okR v) : okR (btr v) ∧ SO (btr v) v := by
  unfold btr
  have := chO_in (v := v) _ (Nat.le_refl _)
  cases h : (chO v (v 13 0)).2 with
  | none => exact ⟨hv, SO.refl v⟩
  | some q =>
    obtain ⟨h1, h2⟩ := this q h
    exact ⟨hv.vo h2, (SO.refl v).vo h1 _⟩
def itb (v : Rl) : Nat → Rl
  | 0 => v
  | k + 1 => btr (itb v k)
theorem itb_ok {v : Rl} (hv : okR v) : ∀ k, okR (itb v k) ∧ SO (itb v k) v
  | 0 => ⟨hv, SO.refl v⟩
  | k + 1 => by
    obtain ⟨h1, h2⟩ := itb_ok hv k
    obtain ⟨g1, g2⟩ := btr_ok h1
    exact ⟨g1, g2.trans h2⟩
def bK (v : Rl) (n : Nat) : Nat := fa_first (fun k => !isB (itb v k)) n
theorem btr_not {v : Rl} (h : isB v = false) : btr v = v := by
  unfold isB at h
  unfold btr
  cases hh : (chO v (v 13 0)).2 with
  | none => rfl
  | some q => rw [hh] at h; simp at h
section B
variable {us : A1} {ua : A2} {rs : A1} {ra ra2 sa : A2} {sl : L2} {ns : A1} {na : A2} {nl : L2} {yt : Int32} {im : Img} {ms : A1} {ma : A2} {ml : L2}
theorem c_changeBetters {v : Rl} (hv : okR v) (z : 0 < v 2 0) (hC : RelC v rs ra) (hK : NOK ns na nl) {post : Int32 → A2 → A1 → A2 → L2 → Prop} (h : ∀ ra' ns' na' nl', RelC (btr v) rs ra' → NOK ns' na' nl' → post (bI (isB v)) ra' ns' na' nl') : P_X11_changeBetters rs ra ns na nl post := by
  have h13 := ok13 hv.1
  have h12 := ok12 hv.1
  have hnO : nO v = 2 * (v 12 0 + 1) := rfl
  refine c_play hC hv.1 hK (fun n1 a1 l1 hPl => c_costOfAll (w := 2) hC hv.1 hPl.2.2.2 (by decide) ?_)
  -- the options of a bike
  have I : ∀ (b : Nat), b < v 13 0 → ∀ (s : Int64 × Option (Nat × Nat)) (K116 : Int64 → Int32 → Int32 → Int32 → Int32 → A2 → A1 → A2 → L2 → Prop) (rx : A2) (nx : A1) (ax : A2) (lx : L2), RelC v rs rx → NOK nx ax lx → (∀ ry ny ay ly u, RelC u rs ry → (∀ o, vo u b o = vo v b o) → NOK ny ay ly → K116 (chI v b s (nO v)).1 (sB (chI v b s (nO v))) (sO (chI v b s (nO v))) (nI b) (nI (opt v b)) ry ny ay ly) →
      ∃ m, P_X11_changeBetters_53 rs post K116 (nI b) (nI (opt v b)) m s.1 (sB s) (sO s) 0 rx nx ax lx := by
    intro b hb s K116 rx nx ax lx q1 q2 kk
    have L : ∀ (k i : Nat) (ry : A2) (ny : A1) (ay : A2) (ly : L2) (u : Rl), i + k = nO v → RelC u rs ry → (∀ o, vo u b o = vo v b o) → NOK ny ay ly → P_X11_changeBetters_53 rs post K116 (nI b) (nI (opt v b)) (k + 1) (chI v b s i).1 (sB (chI v b s i)) (sO (chI v b s i)) (nI i) ry ny ay ly := by
      intro k
      induction k with
      | zero =>
        intro i ry ny ay ly u hi r1 r2 r3
        obtain rfl : i = nO v := by omega
        unfold P_X11_changeBetters_53 P_X11_changeBetters_53_b
        exact c_options hC hv.1 z ⟨fun _ => kk _ _ _ _ u r1 r2 r3, fun c => absurd (nI_le (Nat.le_refl _) (by omega)) c⟩
      | succ k ih =>
        intro i ry ny ay ly u hi r1 r2 r3
        have hio : i < 2 * (v 12 0 + 1) := by omega
        unfold P_X11_changeBetters_53 P_X11_changeBetters_53_b
        refine c_options hC hv.1 z ⟨fun c => absurd ((nI_leI (by omega) (by omega)).mp c) (by omega), fun _ => ?_⟩
        refine c_setOption r1 (by omega) (by omega) (fun loc mar hC' => ?_)
        rw [r2] at hC'
        have hv' := hv.vo (b := b) hio
        refine c_play hC' hv'.1 r3 (fun n2 a2 l2 hPl2 => c_costOfAll (w := 2) hC' hv'.1 hPl2.2.2.2 (by decide) ?_)
        have go := ih (i + 1) _ n2 a2 l2 (vo v b i) (by omega) hC' (fun o => vo_vo v b i o) hPl2.2.1
        rw [chI] at go
        rw [nI_1]
        refine ⟨fun c => ?_, fun c => ?_⟩
        · rw [if_neg (Int64.not_lt.mpr c)] at go
          exact go
        · rw [if_pos (Int64.not_le.mp c)] at go
          exact go
    exact ⟨nO v + 1, L (nO v) 0 rx nx ax lx v (by omega) q1 (fun _ => rfl) q2⟩
  have L : ∀ (k i : Nat) (ry : A2) (ny : A1) (ay : A2) (ly : L2), i + k = v 13 0 → RelC v rs ry → NOK ny ay ly → P_X11_changeBetters_27 rs post (fun (x4_ : Int32) (x5_ : Int32) (ra0 : Nat → Nat → Int32) (ns : Nat → Int32) (na : Nat → Nat → Int32) (nl : Nat → Nat → Int64) => P_X11_changeBetters_133 rs post x4_ x5_ ra0 ns na nl) (k + 1) (chO v i).1 (sB (chO v i)) (sO (chO v i)) (nI i) ry ny ay ly := by
    intro k
    induction k with
    | zero =>
      intro i ry ny ay ly hi r1 r2
      obtain rfl : i = v 13 0 := by omega
      refine ⟨fun _ => ?_, fun c => absurd ((cmp_le (rc_s hC 13) (by omega) (by omega)).mpr (Nat.le_refl _)) c⟩
      have hin := chO_in (v := v) _ (Nat.le_refl _)
      unfold btr isB at h
      unfold sB sO
      cases hs : (chO v (v 13 0)).2 with
      | none =>
        rw [hs] at h
        exact ⟨fun _ => ⟨fun _ => h _ _ _ _ r1 r2, fun c => absurd rfl c⟩, fun c => absurd rfl c⟩
      | some q =>
        rw [hs] at h
        obtain ⟨i1, i2⟩ := hin q hs
        refine ⟨fun c => absurd c (nI_nm1 (by omega)), fun _ => ?_⟩
        refine c_setOption r1 (by omega) (by omega) (fun loc mar hC' => ?_)
        exact ⟨fun c => absurd c (nI_nm1 (by omega)), fun _ => h _ _ _ _ hC' r2⟩
    | succ k ih =>
      intro i ry ny ay ly hi r1 r2
      have hib : i < v 13 0 := by omega
      have hol := opt_lt hv.1 hib
      refine ⟨fun c => absurd ((cmp_le (rc_s hC 13) (by omega) (by omega)).mp c) (by omega), fun _ => ?_⟩
      refine c_optionOf r1 hv.1 hib (I i hib (chO v i) _ ry ny ay ly r1 r2 (fun rz nz az lz u s1 s2 s3 => ?_))
      refine c_setOption s1 (by omega) (by omega) (fun loc mar hC' => ?_)
      rw [s2, vo_opt (hv.1.2.2.2.2.1 i hib).2.2.2.2] at hC'
      rw [nI_1]
      exact ih (i + 1) _ nz az lz (by omega) hC' s3
  exact ⟨v 13 0 + 1, L (v 13 0) 0 ra n1 a1 l1 (by omega) hC hPl.2.1⟩
theorem m_changes {v : Rl} (hv : okR v) (hM : RM v 0 ms ma) {post : Int32 → A1 → A2 → L2 → Prop} (h : ∀ mt mb mk, RM (btr v) 0 mt mb → MG ms ma ml mt mb mk → mb 20 = ma 20 → post (bI (isB v)) mt mb mk) : P_X12_changes ms ma ml post := by
  have h13 := ok13 hv.1
  have h12 := ok12 hv.1
  have hnO : nO v = 2 * (v 12 0 + 1) := rfl
  refine m_allNow (w := 2) hv.1 hv.2.1 hM (by decide) (fun m1 a1 l1 hF1 => ?_)
  have I : ∀ (b : Nat), b < v 13 0 → ∀ (s : Int64 × Option (Nat × Nat)) (K86 : Int64 → Int32 → Int32 → Int32 → Int32 → A1 → A2 → L2 → Prop) (mx : A1) (ax : A2) (lx : L2), RM v 0 mx ax → MG ms ma ml mx ax lx → ax 20 = ma 20 → (∀ my ay ly u, RM u 0 my ay → (∀ o, vo u b o = vo v b o) → MG ms ma ml my ay ly → ay 20 = ma 20 → K86 (chI v b s (nO v)).1 (sB (chI v b s (nO v))) (sO (chI v b s (nO v))) (nI b) (nI (opt v b)) my ay ly) →
      ∃ m, P_X12_changes_36 post K86 (nI b) (nI (opt v b)) m s.1 (sB s) (sO s) 0 mx ax lx := by
    intro b hb s K86 mx ax lx q1 q2 q3 kk
    have L : ∀ (k i : Nat) (my : A1) (ay : A2) (ly : L2) (u : Rl), i + k = nO v → RM u 0 my ay → u 12 0 = v 12 0 → (∀ o, vo u b o = vo v b o) → MG ms ma ml my ay ly → ay 20 = ma 20 → P_X12_changes_36 post K86 (nI b) (nI (opt v b)) (k + 1) (chI v b s i).1 (sB (chI v b s i)) (sO (chI v b s i)) (nI i) my ay ly := by
      intro k
      induction k with
      | zero =>
        intro i my ay ly u hi r1 r12 r2 r3 r4
        obtain rfl : i = nO v := by omega
        unfold P_X12_changes_36 P_X12_changes_36_b
        refine m_optionMany r1.1 ?_
        rw [r12]
        exact ⟨fun _ => kk _ _ _ u r1 r2 r3 r4, fun c => absurd (nI_le (Nat.le_refl _) (by omega)) c⟩
      | succ k ih =>
        intro i my ay ly u hi r1 r12 r2 r3 r4
        have hio : i < 2 * (v 12 0 + 1) := by omega
        unfold P_X12_changes_36 P_X12_changes_36_b
        refine m_optionMany r1.1 ?_
        rw [r12]
        refine ⟨fun c => absurd ((nI_leI (by omega) (by omega)).mp c) (by omega), fun _ => ?_⟩
        refine m_setO r1 (by omega) (by omega) (fun az s1 s2 s3 => ?_)
        rw [r2] at s1
        have hv' := hv.vo (b := b) hio
        refine m_allNow (w := 2) hv'.1 hv'.2.1 s1 (by decide) (fun m2 a2 l2 hF => ?_)
        have go := ih (i + 1) m2 a2 l2 (vo v b i) (by omega) (hF.rm s1) (by rw [vo_f (by decide) (by decide)]) (fun o => vo_vo v b i o) ((r3.trans (s2 _ _)).trans hF.g) (((hF.2.1 20 (by decide) (by decide)).trans (s3 20 (by decide))).trans r4)
        rw [chI] at go
        rw [nI_1]
        refine ⟨fun c => ?_, fun c => ?_⟩
        · rw [if_pos c] at go
          exact go
        · rw [if_neg c] at go
          exact go
    exact ⟨nO v + 1, L (nO v) 0 mx ax lx v (by omega) q1 rfl (fun _ => rfl) q2 q3⟩
  have L : ∀ (k i : Nat) (my : A1) (ay : A2) (ly : L2), i + k = v 13 0 → RM v 0 my ay → MG ms ma ml my ay ly → ay 20 = ma 20 → P_X12_changes_14 post (fun (x3_ : Int32) (x4_ : Int32) (ms : Nat → Int32) (ma : Nat → Nat → Int32) (ml : Nat → Nat → Int64) => P_X12_changes_100 post x3_ x4_ ms ma ml) (k + 1) (chO v i).1 (sB (chO v i)) (sO (chO v i)) (nI i) my ay ly := by
    intro k
    induction k with
    | zero =>
      intro i my ay ly hi r1 r2 r3
      obtain rfl : i = v 13 0 := by omega
      refine ⟨fun _ => ?_, fun c => absurd ((cmp_le r1.1.1.2.2.2.2 (by omega) (by omega)).mpr (Nat.le_refl _)) c⟩
      have hin := chO_in (v := v) _ (Nat.le_refl _)
      unfold btr isB at h
      unfold sB sO
      cases hs : (chO v (v 13 0)).2 with
      | none =>
        rw [hs] at h
        exact ⟨fun c => absurd rfl c, fun _ => h _ _ _ r1 r2 r3⟩
      | some q =>
        rw [hs] at h
        obtain ⟨i1, i2⟩ := hin q hs
        refine ⟨fun _ => ?_, fun c => absurd c (nI_nm1 (by omega))⟩
        refine m_setO r1 (by omega) (by omega) (fun az s1 s2 s3 => ?_)
        exact h _ _ _ s1 (r2.trans (s2 _ _)) ((s3 20 (by decide)).trans r3)
    | succ k ih =>
      intro i my ay ly hi r1 r2 r3
      have hib : i < v 13 0 := by omega
      have hol := opt_lt hv.1 hib
      refine ⟨fun c => absurd ((cmp_le r1.1.1.2.2.2.2 (by omega) (by omega)).mp c) (by omega), fun _ => ?_⟩
      refine m_optionOf r1.1 hv.1 hib (I i hib (chO v i) _ my ay ly r1 r2 r3 (fun mz az lz u s1 s2 s3 s4 => ?_))
      refine m_setO s1 (by omega) (by omega) (fun aw t1 t2 t3 => ?_)
      rw [s2, vo_opt (hv.1.2.2.2.2.1 i hib).2.2.2.2] at t1
      rw [nI_1]
      exact ih (i + 1) mz aw lz (by omega) t1 (s3.trans (t2 _ _)) ((t3 20 (by decide)).trans s4)
  exact ⟨v 13 0 + 1, L (v 13 0) 0 m1 a1 l1 (by omega) (hF1.rm hM) hF1.g (hF1.2.1 20 (by decide) (by decide))⟩
theorem c_changesOn {v : Rl} (hv : okR v) (z : 0 < v 2 0) (hC : RelC v rs ra) (hK : NOK ns na nl) {n : Nat} (hn : n ≤ 60) {post : Int32 → A2 → A1 → A2 → L2 → Prop} (h : ∀ ra' ns' na' nl', RelC (itb v (bK v n)) rs ra' → NOK ns' na' nl' → post (nI (bK v n)) ra' ns' na' nl') : P_X11_changesOn rs ra ns na nl (nI n) post := by
  have hle : bK v n ≤ n := fa_first_le _ n
  have L : ∀ (k i : Nat) (ry : A2) (ny : A1) (ay : A2) (ly : L2), i + k = n → i ≤ bK v n → RelC (itb v i) rs ry → NOK ny ay ly → P_X11_changesOn_2 rs (nI n) post (k + 1) (nI i) ry ny ay ly := by
    intro k
    induction k with
    | zero =>
      intro i ry ny ay ly hi hb r1 r2
      obtain rfl : i = n := by omega
      have e : bK v i = i := by omega
      rw [e] at h
      exact ⟨fun _ => h _ _ _ _ r1 r2, fun c => absurd (nI_le (Nat.le_refl _) (by omega)) c⟩
    | succ k ih =>
      intro i ry ny ay ly hi hb r1 r2
      obtain ⟨g1, g2⟩ := itb_ok hv i
      refine ⟨fun c => absurd ((nI_leI (by omega) (by omega)).mp c) (by omega), fun _ => ?_⟩
      refine c_changeBetters g1 (by rw [g2.f (by decide) (by decide)]; exact z) r1 r2 (fun rz nz az lz s1 s2 => ?_)
      rw [nI_1]
      cases hst : isB (itb v i) with
      | true =>
        refine ⟨fun _ => ?_, fun c => absurd c (by decide)⟩
        have hlt : i < bK v n := by
          rcases Nat.lt_or_ge i (bK v n) with q | q
          · exact q
          · exfalso
            have e : bK v n = i := by omega
            have := fa_first_yes (fun k => !isB (itb v k)) n (by unfold bK at e; omega)
            rw [show fa_first (fun k => !isB (itb v k)) n = i from e] at this
            simp [hst] at this
        exact ih (i + 1) _ _ _ _ (by omega) (by omega) s1 s2
      | false =>
        refine ⟨fun c => absurd rfl c, fun _ => ?_⟩
        have e : bK v n = i := by
          rcases Nat.lt_or_ge i (bK v n) with q | q
          · exfalso
            have := fa_first_no (fun k => !isB (itb v k)) n i q
            simp [hst] at this
          · omega
        rw [e] at h
        rw [btr_not hst] at s1
        exact h _ _ _ _ s1 s2
  exact ⟨n + 1, L n 0 ra ns na nl (by omega) (Nat.zero_le _) hC hK⟩
theorem m_betters {v : Rl} (hv : okR v) (hM : RM v 0 ms ma) {n : Nat} (hn : n ≤ 60) {post : Int32 → A1 → A2 → L2 → Prop} (h : ∀ mt mb mk, RM (itb v (bK v n)) 0 mt mb → MG ms ma ml mt mb mk → mb 20 = ma 20 → post (nI (bK v n)) mt mb mk) : P_X12_betters ms ma ml (nI n) post := by
  have hle : bK v n ≤ n := fa_first_le _ n
  have L : ∀ (k i : Nat) (my : A1) (ay : A2) (ly : L2), i + k = n → i ≤ bK v n → RM (itb v i) 0 my ay → MG ms ma ml my ay ly → ay 20 = ma 20 → P_X12_betters_2 (nI n) post (k + 1) (nI i) my ay ly := by
    intro k
    induction k with
    | zero =>
      intro i my ay ly hi hb r1 r2 r3
      obtain rfl : i = n := by omega
      have e : bK v i = i := by omega
      rw [e] at h
      exact ⟨fun _ => h _ _ _ r1 r2 r3, fun c => absurd (nI_le (Nat.le_refl _) (by omega)) c⟩
    | succ k ih =>
      intro i my ay ly hi hb r1 r2 r3
      obtain ⟨g1, g2⟩ := itb_ok hv i
      refine ⟨fun c => absurd ((nI_leI (by omega) (by omega)).mp c) (by omega), fun _ => ?_⟩
      refine m_changes g1 r1 (fun mz az lz s1 s2 s3 => ?_)
      rw [nI_1]
      cases hst : isB (itb v i) with
      | true =>
        refine ⟨fun c => absurd c (by decide), fun _ => ?_⟩
        have hlt : i < bK v n := by
          rcases Nat.lt_or_ge i (bK v n) with q | q
          · exact q
          · exfalso
            have e : bK v n = i := by omega
            have := fa_first_yes (fun k => !isB (itb v k)) n (by unfold bK at e; omega)
            rw [show fa_first (fun k => !isB (itb v k)) n = i from e] at this
            simp [hst] at this
        exact ih (i + 1) _ _ _ (by omega) (by omega) s1 (r2.trans s2) (s3.trans r3)
      | false =>
        refine ⟨fun _ => ?_, fun c => absurd rfl c⟩
        have e : bK v n = i := by
          rcases Nat.lt_or_ge i (bK v n) with q | q
          · exfalso
            have := fa_first_no (fun k => !isB (itb v k)) n i q
            simp [hst] at this
          · omega
        rw [e] at h
        rw [btr_not hst] at s1
        exact h _ _ _ s1 (r2.trans s2) (s3.trans r3)
  exact ⟨n + 1, L n 0 ms ma ml (by omega) (Nat.zero_le _) hM (MG.refl _ _ _) rfl⟩
/-- a changed rail, of the same lamps, thieves and year -/
theorem Inv.opts {u v : Rl} (hI : Inv us ua rs ra ra2 sa sl ns na nl yt im ms ma ml) (hu : okR u) (hS : SO u v) (hP : RelP v 0 ma) (hY : RelY v 0 ma) {ra' ra2' : A2} {ns' : A1} {na' : A2} {nl' : L2} {mt : A1} {mb : A2} {mk : L2} (hC : RelC u rs ra') (hM : RM u 0 mt mb) (hG : MG (va_up ms 0 0) ma ml mt mb mk) (hB : BOK ra2') (hK : NOK ns' na' nl') : Inv us ua rs ra' ra2' sa sl ns' na' nl' yt im mt mb mk :=
  hI.step ((MG.z ms ma ml).trans hG) hu hC hM.1 hM.2.1 ((hP.so hS).eq (hG.2.1 6 (by decide) (by decide) (by decide) (by decide)) (hG.2.1 7 (by decide) (by decide) (by decide) (by decide))) ((hY.so hS).eq (hG.2.1 16 (by decide) (by decide) (by decide) (by decide))) hB hK
theorem q_settle (hI : Inv us ua rs ra ra2 sa sl ns na nl yt im ms ma ml) (mw : Nat → Int64) (p : Int32) : P_X11_settle rs ra ns na nl p (fun r ra' ns' na' nl' => P_X12_settle ms mw ma ml p (fun r' mt _ mb mk => r = r' ∧ Inv us ua rs ra' ra2 sa sl ns' na' nl' yt im mt mb mk)) := by
  obtain ⟨v, hv, hC, hM, hP, hY, hK, hB, F⟩ := hI.get
  have fin := F ra2 ns na nl _ _ _ (MG.refl _ _ _) hM.1 hB hK
  rcases Nat.eq_zero_or_pos (v 2 0) with z | z
  · exact c_told0 hC z (b0f (m_rail0 hM.1 hv.1 z (b0f ⟨rfl, fin⟩)))
  · rcases ixs p (n := 31) (by decide) with h | ⟨n, hn, rfl⟩
    · have M : P_X12_settle ms mw ma ml p (fun r' mt _ mb mk => -2 = r' ∧ Inv us ua rs ra ra2 sa sl ns na nl yt im mt mb mk) := m_rail hM.1 hv.1 z (b1f (m_inL_bad (m := 30) h (by decide) (b0f ⟨rfl, fin⟩)))
      refine c_told hC hv.1 z (b1f ⟨fun _ => M, fun c => ⟨fun c2 => ?_, fun _ => M⟩⟩)
      exfalso
      have h2 := h.resolve_left c
      rw [Int32.le_iff_toInt_le, nI_toInt (by decide)] at h2
      rw [Int32.le_iff_toInt_le, show (30 : Int32).toInt = 30 from rfl] at c2
      omega
    · refine c_told hC hv.1 z (b1f ⟨fun c => absurd c (nI_pos (by omega)), fun _ => ⟨fun _ => ?_, fun c => absurd (nI_le (b := 30) (by omega) (by decide)) c⟩⟩)
      refine c_roundsOn hv hC hK (by omega) (fun ra' ns' na' nl' hC' hK' => ?_)
      refine m_rail hM.1 hv.1 z (b1f (m_inL_ok (m := 30) (by omega) (by decide) (b1f (m_settlesIn hv hM (by omega) (fun mt mw' mb mk hM' hG _ _ => ?_)))))
      obtain ⟨g1, g2⟩ := itr_ok hv (if rK v n < n then rK v n + 1 else n)
      refine ⟨?_, hI.opts g1 g2 hP hY hC' hM' hG hB hK'⟩
      have hle : rK v n ≤ n := fa_first_le _ n
      by_cases c : rK v n + 1 < n
      · rw [if_pos (nI_lt c (by omega)), if_pos (by omega)]
      · rw [if_neg (nI_nlt (by omega) (by omega))]
        split
        · congr 1; omega
        · rfl
theorem MG.of20 {mb : A2} (h : ∀ j, j ≠ 20 → mb j = ma j) : MG ms ma ml ms mb ml := ⟨fun _ _ _ _ => rfl, fun j a _ _ _ => h j (by omega), fun x _ => by rw [h 11 (by decide)], fun x _ => by rw [h 14 (by decide)], rfl⟩
theorem q_settles (hI : Inv us ua rs ra ra2 sa sl ns na nl yt im ms ma ml) (rs2 : A1) (mw : Nat → Int64) : P_X11_settles rs ra rs2 ra2 ns na nl (fun r _ ra2' ns' na' nl' => P_X12_settles ms mw ma ml (fun r' mt _ mb mk => r = r' ∧ Inv us ua rs ra ra2' sa sl ns' na' nl' yt im mt mb mk)) := by
  obtain ⟨v, hv, hC, hM, hP, hY, hK, hB, F⟩ := hI.get
  have fin := F ra2 ns na nl _ _ _ (MG.refl _ _ _) hM.1 hB hK
  rcases Nat.eq_zero_or_pos (v 2 0) with z | z
  · exact c_told0 hC z (b0t (m_rail0 hM.1 hv.1 z (b0t ⟨rfl, fin⟩)))
  · refine c_told hC hv.1 z (b1t (c_copyFrom hC hv.1 (fun rs' ra' hC1 hB1 _ => c_roundsOn (n := 30) hv hC1 hK (by decide) (fun ra3 ns' na' nl' hC3 hK3 => ?_))))
    have M : ∀ r : Int32, r = (if rK v 30 < 30 then nI (rK v 30 + 1) else -1) → P_X12_settles ms mw ma ml (fun r' mt _ mb mk => r = r' ∧ Inv us ua rs ra ra3 sa sl ns' na' nl' yt im mt mb mk) := by
      intro r hr
      refine m_rail hM.1 hv.1 z (b1t (m_laysAside hv.1 hM (fun mb h1 h2 => ?_)))
      refine m_settlesIn (n := 30) hv (hM.fr (fun i _ _ => h1 i (by omega)) rfl rfl) (by decide) (fun mt mw' mc mk hM' hG h20 h13 => ?_)
      obtain ⟨g1, g2⟩ := itr_ok hv (if rK v 30 < 30 then rK v 30 + 1 else 30)
      refine m_takesBack hv.1 g2 hM' (fun b hb => by rw [h20]; exact h2 b hb) (fun md hMd hGd => ?_)
      have fin2 := F ra3 ns' na' nl' mt md mk (((MG.of20 h1).trans hG).trans (hGd _ _)) hMd.1 hC3.bok hK3
      rw [h13]
      by_cases c : rK v 30 < 30
      · rw [if_pos c] at hr ⊢
        exact ⟨fun e => absurd e (by simp [bI, c]), fun _ => ⟨hr, fin2⟩⟩
      · rw [if_neg c] at hr
        exact ⟨fun _ => ⟨hr, fin2⟩, fun e => absurd (by simp [bI, c]) e⟩
    have hle : rK v 30 ≤ 30 := fa_first_le _ 30
    refine ⟨fun c => M _ ?_, fun c => M _ ?_⟩
    · have := (nI_leI (b := 30) (by omega) (by decide)).mp c
      rw [if_pos (by omega)]
    · rw [if_neg (fun q => c (nI_le (b := 30) (by omega) (by decide)))]
theorem q_settled (hI : Inv us ua rs ra ra2 sa sl ns na nl yt im ms ma ml) (rs2 : A1) (mw : Nat → Int64) : P_X11_settled rs ra rs2 ra2 ns na nl (fun r _ ra2' ns' na' nl' => P_X12_settled ms mw ma ml (fun r' mt _ mb mk => r = r' ∧ Inv us ua rs ra ra2' sa sl ns' na' nl' yt im mt mb mk)) := by
  obtain ⟨v, hv, hC, hM, hP, hY, hK, hB, F⟩ := hI.get
  have fin := F ra2 ns na nl _ _ _ (MG.refl _ _ _) hM.1 hB hK
  rcases Nat.eq_zero_or_pos (v 2 0) with z | z
  · exact c_told0 hC z (b0t (m_rail0 hM.1 hv.1 z (b0t ⟨rfl, fin⟩)))
  · refine c_told hC hv.1 z (b1t (c_copyFrom hC hv.1 (fun rs' ra' hC1 hB1 _ => c_roundsOn (n := 30) hv hC1 hK (by decide) (fun ra3 ns' na' nl' hC3 hK3 => ?_))))
    obtain ⟨g1, g2⟩ := itr_ok hv (if rK v 30 < 30 then rK v 30 + 1 else 30)
    have M : ∀ (r : Int64) (ns' : A1) (na' : A2) (nl' : L2), NOK ns' na' nl' → r = (if rK v 30 < 30 then allL (itr v (if rK v 30 < 30 then rK v 30 + 1 else 30)) 2 else -1) → P_X12_settled ms mw ma ml (fun r' mt _ mb mk => r = r' ∧ Inv us ua rs ra ra3 sa sl ns' na' nl' yt im mt mb mk) := by
      intro r ns' na' nl' hK' hr
      refine m_rail hM.1 hv.1 z (b1t (m_laysAside hv.1 hM (fun mb h1 h2 => ?_)))
      refine m_settlesIn (n := 30) hv (hM.fr (fun i _ _ => h1 i (by omega)) rfl rfl) (by decide) (fun mt mw' mc mk hM' hG h20 h13 => ?_)
      refine m_allNow (w := 2) g1.1 g1.2.1 hM' (by decide) (fun mt2 mc2 mk2 hF => ?_)
      refine m_takesBack hv.1 g2 (hF.rm hM') (fun b hb => by rw [hF.2.1 20 (by decide) (by decide), h20]; exact h2 b hb) (fun md hMd hGd => ?_)
      have fin2 := F ra3 ns' na' nl' mt2 md mk2 ((((MG.of20 h1).trans hG).trans hF.g).trans (hGd _ _)) hMd.1 hC3.bok hK'
      rw [hF.1 13 (by decide), h13]
      by_cases c : rK v 30 < 30
      · rw [if_pos c] at hr
        exact ⟨fun e => absurd e (by simp [bI, c]), fun _ => ⟨hr, fin2⟩⟩
      · rw [if_neg c] at hr
        exact ⟨fun _ => ⟨hr, fin2⟩, fun e => absurd (by simp [bI, c]) e⟩
    have hle : rK v 30 ≤ 30 := fa_first_le _ 30
    refine ⟨fun c => c_allOn (w := 2) hC3 g1.1 hK3 (by decide) (fun n4 a4 l4 hK4 => M _ n4 a4 l4 hK4 ?_), fun c => M _ _ _ _ hK3 ?_⟩
    · have := (nI_leI (b := 30) (by omega) (by decide)).mp c
      rw [if_pos (show rK v 30 < 30 by omega), if_pos (show rK v 30 < 30 by omega)]
    · rw [if_neg (fun q => c (nI_le (b := 30) (by omega) (by decide)))]
theorem q_better (hI : Inv us ua rs ra ra2 sa sl ns na nl yt im ms ma ml) (p : Int32) : P_X11_better rs ra ns na nl p (fun r ra' ns' na' nl' => P_X12_better ms ma ml p (fun r' mt mb mk => r = r' ∧ Inv us ua rs ra' ra2 sa sl ns' na' nl' yt im mt mb mk)) := by
  obtain ⟨v, hv, hC, hM, hP, hY, hK, hB, F⟩ := hI.get
  have fin := F ra2 ns na nl _ _ _ (MG.refl _ _ _) hM.1 hB hK
  rcases Nat.eq_zero_or_pos (v 2 0) with z | z
  · exact c_told0 hC z (b0f (m_rail0 hM.1 hv.1 z (b0f ⟨rfl, fin⟩)))
  · rcases ixs p (n := 61) (by decide) with h | ⟨n, hn, rfl⟩
    · have M : P_X12_better ms ma ml p (fun r' mt mb mk => -2 = r' ∧ Inv us ua rs ra ra2 sa sl ns na nl yt im mt mb mk) := m_rail hM.1 hv.1 z (b1f (m_inL_bad (m := 60) h (by decide) (b0f ⟨rfl, fin⟩)))
      refine c_told hC hv.1 z (b1f ⟨fun _ => M, fun c => ⟨fun c2 => ?_, fun _ => M⟩⟩)
      exfalso
      have h2 := h.resolve_left c
      rw [Int32.le_iff_toInt_le, nI_toInt (by decide)] at h2
      rw [Int32.le_iff_toInt_le, show (60 : Int32).toInt = 60 from rfl] at c2
      omega
    · refine c_told hC hv.1 z (b1f ⟨fun c => absurd c (nI_pos (by omega)), fun _ => ⟨fun _ => ?_, fun c => absurd (nI_le (b := 60) (by omega) (by decide)) c⟩⟩)
      refine c_changesOn hv z hC hK (by omega) (fun ra' ns' na' nl' hC' hK' => ?_)
      refine m_rail hM.1 hv.1 z (b1f (m_inL_ok (m := 60) (by omega) (by decide) (b1f (m_betters hv hM (by omega) (fun mt mb mk hM' hG _ => ?_)))))
      obtain ⟨g1, g2⟩ := itb_ok hv (bK v n)
      exact ⟨rfl, hI.opts g1 g2 hP hY hC' hM' hG hB hK'⟩
theorem q_good (hI : Inv us ua rs ra ra2 sa sl ns na nl yt im ms ma ml) (rs2 : A1) : P_X11_good rs ra rs2 ra2 ns na nl (fun r _ ra2' ns' na' nl' => P_X12_good ms ma ml (fun r' mt mb mk => r = r' ∧ Inv us ua rs ra ra2' sa sl ns' na' nl' yt im mt mb mk)) := by
  obtain ⟨v, hv, hC, hM, hP, hY, hK, hB, F⟩ := hI.get
  have fin := F ra2 ns na nl _ _ _ (MG.refl _ _ _) hM.1 hB hK
  rcases Nat.eq_zero_or_pos (v 2 0) with z | z
  · exact c_told0 hC z (b0t (m_rail0 hM.1 hv.1 z (b0t ⟨rfl, fin⟩)))
  · obtain ⟨g1, g2⟩ := itb_ok hv (bK v 60)
    refine c_told hC hv.1 z (b1t (c_copyFrom hC hv.1 (fun rs' ra' hC1 hB1 _ => c_changesOn (n := 60) hv z hC1 hK (by decide) (fun ra3 ns' na' nl' hC3 hK3 => ?_))))
    refine c_allOn (w := 2) hC3 g1.1 hK3 (by decide) (fun n4 a4 l4 hK4 => ?_)
    refine m_rail hM.1 hv.1 z (b1t (m_laysAside hv.1 hM (fun mb h1 h2 => ?_)))
    refine m_betters (n := 60) hv (hM.fr (fun i _ _ => h1 i (by omega)) rfl rfl) (by decide) (fun mt mc mk hM' hG h20 => ?_)
    refine m_allNow (w := 2) g1.1 g1.2.1 hM' (by decide) (fun mt2 mc2 mk2 hF => ?_)
    refine m_takesBack hv.1 g2 (hF.rm hM') (fun b hb => by rw [hF.2.1 20 (by decide) (by decide), h20]; exact h2 b hb) (fun md hMd hGd => ?_)
    exact ⟨rfl, F ra3 n4 a4 l4 mt2 md mk2 ((((MG.of20 h1).trans hG).trans hF.g).trans (hGd _ _)) hMd.1 hC3.bok hK4⟩
end B
end
section
/-! promises 27 to 31 -/
def mn (s : Option (Nat × Int64)) (n : Nat) (x : Int64) : Option (Nat × Int64) := match s with
  | none => some (n, x)
  | some q => if x < q.2 then some (n, x) else some q
def oN (d : Int32) (s : Option (Nat × Int64)) : Int32 := match s with
  | none => d
  | some q => nI q.1
def oV (d : Int64) (s : Option (Nat × Int64)) : Int64 := match s with
  | none => d
  | some q => q.2
theorem mn_c {s : Option (Nat × Int64)} {n : Nat} {x : Int64} (hx : x < 9223372036854775807) (d : Int32) {A : Int32 → Int64 → Prop} (h : A (oN d (mn s n x)) (oV 9223372036854775807 (mn s n x))) : ((oV 9223372036854775807 s ≤ x) → A (oN d s) (oV 9223372036854775807 s)) ∧ ((¬ oV 9223372036854775807 s ≤ x) → A (nI n) x) := by
  cases s with
  | none => exact ⟨fun c => absurd hx (Int64.not_lt.mpr c), fun _ => h⟩
  | some q =>
    unfold mn at h
    refine ⟨fun c => ?_, fun c => ?_⟩
    · simp only at h
      rw [if_neg (show ¬ x < q.2 from Int64.not_lt.mpr c)] at h
      exact h
    · simp only at h
      rw [if_pos (show x < q.2 from Int64.not_le.mp c)] at h
      exact h
theorem mn_m {s : Option (Nat × Int64)} {n : Nat} {x : Int64} (hs : ∀ q, s = some q → q.1 < 2 ^ 31) (l : Int64) {A : Int32 → Int64 → Prop} (h : A (oN (-1) (mn s n x)) (oV l (mn s n x))) : ((oN (-1) s = -1) → A (nI n) x) ∧ ((¬ oN (-1) s = -1) → ((x < oV l s) → A (nI n) x) ∧ ((¬ x < oV l s) → A (oN (-1) s) (oV l s))) := by
  cases s with
  | none => exact ⟨fun _ => h, fun c => absurd rfl c⟩
  | some q =>
    unfold mn at h
    refine ⟨fun c => absurd c (nI_nm1 (hs q rfl)), fun _ => ⟨fun c => ?_, fun c => ?_⟩⟩
    · simp only at h
      rw [if_pos (show x < q.2 from c)] at h
      exact h
    · simp only at h
      rw [if_neg (show ¬ x < q.2 from c)] at h
      exact h
theorem mn_le {s : Option (Nat × Int64)} {n N : Nat} {x : Int64} (hs : ∀ q, s = some q → q.1 < N) (hn : n < N) : ∀ q, mn s n x = some q → q.1 < N := by
  intro q hq
  unfold mn at hq
  cases s with
  | none => simp at hq; subst hq; exact hn
  | some r =>
    simp only at hq
    split at hq
    · simp at hq; subst hq; exact hn
    · exact hs q hq
theorem vo_comm (v : Rl) {a b : Nat} (h : a ≠ b) (i j : Nat) : vo (vo v b j) a i = vo (vo v a i) b j := by
  funext f k
  unfold vo
  by_cases c1 : f = 23 ∧ k = a
  · rw [if_pos c1, if_neg (by omega), if_neg (by omega), if_pos c1]
  · rw [if_neg c1]
    by_cases c2 : f = 24 ∧ k = a
    · rw [if_pos c2, if_neg (by omega), if_neg (by omega), if_neg c1, if_pos c2]
    · rw [if_neg c2]
      by_cases c3 : f = 23 ∧ k = b
      · rw [if_pos c3, if_pos c3]
      · rw [if_neg c3, if_neg c3]
        by_cases c4 : f = 24 ∧ k = b
        · rw [if_pos c4, if_pos c4]
        · rw [if_neg c4, if_neg c4, if_neg c1, if_neg c2]
section P
variable {us : A1} {ua : A2} {rs : A1} {ra ra2 sa : A2} {sl : L2} {ns : A1} {na : A2} {nl : L2} {yt : Int32} {im : Img} {ms : A1} {ma : A2} {ml : L2}
theorem c_two {v : Rl} (hC : RelC v rs ra) (hv : okV v) {a b : Nat} (ha : a < v 13 0) (hb : b < v 13 0) (hab : a ≠ b) {post : Int32 → Prop} (h : post 1) : P_X11_areTwo rs (nI a) (nI b) post := by
  have := ok13 hv
  exact c_hasB hC hv ha (b1f (c_hasB hC hv hb (b1f ⟨fun c => absurd ((nI_eq (by omega) (by omega)).mp c) hab, fun _ => h⟩)))
theorem m_two {v : Rl} (hN : RelN v 0 ma) (hv : okV v) {a b : Nat} (ha : a < v 13 0) (hb : b < v 13 0) (hab : a ≠ b) {post : Int32 → Prop} (h : post 1) : P_X12_areTwo ma (nI a) (nI b) post := by
  have := ok13 hv
  exact m_isB hN hv ha (b1f (m_isB hN hv hb (b1f ⟨fun c => absurd ((nI_eq (by omega) (by omega)).mp c) hab, fun _ => h⟩)))
/-- two bikes, or not: both say so -/
theorem two_cases {v : Rl} (hC : RelC v rs ra) (hN : RelN v 0 ma) (hv : okV v) (p w : Int32) : ((∀ post : Int32 → Prop, post 0 → P_X11_areTwo rs p w post) ∧ ∀ post : Int32 → Prop, post 0 → P_X12_areTwo ma p w post) ∨ ∃ a b, a < v 13 0 ∧ b < v 13 0 ∧ a ≠ b ∧ p = nI a ∧ w = nI b := by
  have h13 := ok13 hv
  rcases ixs p (n := v 13 0) (by omega) with h | ⟨a, ha, rfl⟩
  · exact Or.inl ⟨fun post hp => c_hasB0 hC h (b0f hp), fun post hp => m_isB0 hN hv h (b0f hp)⟩
  · rcases ixs w (n := v 13 0) (by omega) with h | ⟨b, hb, rfl⟩
    · exact Or.inl ⟨fun post hp => c_hasB hC hv ha (b1f (c_hasB0 hC h (b0f hp))), fun post hp => m_isB hN hv ha (b1f (m_isB0 hN hv h (b0f hp)))⟩
    · by_cases e : a = b
      · subst e
        exact Or.inl ⟨fun post hp => c_hasB hC hv ha (b1f (c_hasB hC hv ha (b1f ⟨fun _ => hp, fun c => absurd rfl c⟩))), fun post hp => m_isB hN hv ha (b1f (m_isB hN hv ha (b1f ⟨fun _ => hp, fun c => absurd rfl c⟩)))⟩
      · exact Or.inr ⟨a, b, ha, hb, e, rfl, rfl⟩
def fP (v : Rl) (a b i j : Nat) : Int64 := costL (vo (vo v a i) b j) a + costL (vo (vo v a i) b j) b
def pI (v : Rl) (a b i : Nat) (s : Option (Nat × Int64)) : Nat → Option (Nat × Int64)
  | 0 => s
  | k + 1 => mn (pI v a b i s k) (100 * i + k) (fP v a b i k)
def pO (v : Rl) (a b : Nat) : Nat → Option (Nat × Int64)
  | 0 => none
  | i + 1 => pI v a b i (pO v a b i) (nO v)
theorem pI_le {v : Rl} (hv : okV v) {a b i : Nat} (hi : i < 12) {s : Option (Nat × Int64)} (hs : ∀ q, s = some q → q.1 < 2000) : ∀ k, k ≤ nO v → ∀ q, pI v a b i s k = some q → q.1 < 2000
  | 0, _ => hs
  | k + 1, hk => by
    have h12 := ok12 hv
    rw [pI]
    exact mn_le (pI_le hv hi hs k (by omega)) (by unfold nO at hk; omega)
theorem pO_le {v : Rl} (hv : okV v) {a b : Nat} : ∀ i, i ≤ nO v → ∀ q, pO v a b i = some q → q.1 < 2000
  | 0, _ => by intro q hq; simp [pO] at hq
  | i + 1, hi => by
    have h12 := ok12 hv
    rw [pO]
    exact pI_le hv (by unfold nO at hi; omega) (pO_le hv i (by omega)) _ (Nat.le_refl _)
theorem fP_top {v : Rl} (hv : okR v) {a b i j : Nat} (ha : a < v 13 0) (hb : b < v 13 0) (hi : i < nO v) (hj : j < nO v) : okR (vo (vo v a i) b j) ∧ fP v a b i j < 9223372036854775807 := by
  have h1 := hv.vo (b := a) (o := i) hi
  have h2 := h1.vo (b := b) (o := j) (by rw [vo_f (by decide) (by decide)]; exact hj)
  refine ⟨h2, lt_top ?_⟩
  have c1 := cost_rng h2.1 (b := a) (by rw [vo_f (by decide) (by decide), vo_f (by decide) (by decide)]; exact ha)
  have c2 := cost_rng h2.1 (b := b) (by rw [vo_f (by decide) (by decide), vo_f (by decide) (by decide)]; exact hb)
  unfold fP
  rw [fb_addL (by omega) (by omega)]
  omega
theorem q_pair (hI : Inv us ua rs ra ra2 sa sl ns na nl yt im ms ma ml) (rs2 : A1) (p w : Int32) : P_X11_pair rs ra rs2 ra2 ns na nl p w (fun r _ ra2' ns' na' nl' => P_X12_pair ms ma ml p w (fun r' mt mb mk => r = r' ∧ Inv us ua rs ra ra2' sa sl ns' na' nl' yt im mt mb mk)) := by
  obtain ⟨v, hv, hC, hM, hP, hY, hK, hB, F⟩ := hI.get
  have h13 := ok13 hv.1
  have h12 := ok12 hv.1
  have hnO : nO v = 2 * (v 12 0 + 1) := rfl
  have fin := F ra2 ns na nl _ _ _ (MG.refl _ _ _) hM.1 hB hK
  rcases two_cases hC hM.1 hv.1 p w with ⟨h1, h2⟩ | ⟨a, b, ha, hb, hab, rfl, rfl⟩
  · exact h1 _ (b0t (h2 _ (b0t ⟨rfl, fin⟩)))
  · have z := told_of hv ha
    refine c_two hC hv.1 ha hb hab (b1t (c_copyFrom hC hv.1 (fun rs' ra' hC1 hB1 _ => c_options hC1 hv.1 z ?_)))
    -- the reference
    have M : ∀ (ra3 : A2) (ns' : A1) (na' : A2) (nl' : L2), BOK ra3 → NOK ns' na' nl' → P_X12_pair ms ma ml (nI a) (nI b) (fun r' mt mb mk => oN 0 (pO v a b (nO v)) = r' ∧ Inv us ua rs ra ra3 sa sl ns' na' nl' yt im mt mb mk) := by
      intro ra3 ns' na' nl' hB3 hK3
      refine m_two hM.1 hv.1 ha hb hab (b1t (m_optionOf hM.1 hv.1 ha (m_optionOf hM.1 hv.1 hb ?_)))
      have hoa := opt_lt hv.1 ha
      have hob := opt_lt hv.1 hb
      have I : ∀ (i : Nat), i < nO v → ∀ (R39 : Int32 → Int64 → Int32 → A1 → A2 → L2 → Prop) (mx : A1) (ax : A2) (lx : L2) (u : Rl), RM u 0 mx ax → u 12 0 = v 12 0 → (∀ i j, vo (vo u a i) b j = vo (vo v a i) b j) → MG (va_up ms 0 0) ma ml mx ax lx → (∀ my ay ly u, RM u 0 my ay → u 12 0 = v 12 0 → (∀ i j, vo (vo u a i) b j = vo (vo v a i) b j) → MG (va_up ms 0 0) ma ml my ay ly → R39 (oN (-1) (pO v a b (i + 1))) (oV 0 (pO v a b (i + 1))) (nI (i + 1)) my ay ly) → ∃ m, P_X12_pair_51 (nI a) (nI b) (nI (opt v a)) (nI (opt v b)) (fun r' mt mb mk => oN 0 (pO v a b (nO v)) = r' ∧ Inv us ua rs ra ra3 sa sl ns' na' nl' yt im mt mb mk) R39 (nI i) m (oN (-1) (pO v a b i)) (oV 0 (pO v a b i)) 0 mx ax lx := by
        intro i hi R39 mx ax lx u q1 q2 q3 q4 kk
        have L : ∀ (k j : Nat) (my : A1) (ay : A2) (ly : L2) (u : Rl), j + k = nO v → RM u 0 my ay → u 12 0 = v 12 0 → (∀ i j, vo (vo u a i) b j = vo (vo v a i) b j) → MG (va_up ms 0 0) ma ml my ay ly → P_X12_pair_51 (nI a) (nI b) (nI (opt v a)) (nI (opt v b)) (fun r' mt mb mk => oN 0 (pO v a b (nO v)) = r' ∧ Inv us ua rs ra ra3 sa sl ns' na' nl' yt im mt mb mk) R39 (nI i) (k + 1) (oN (-1) (pI v a b i (pO v a b i) j)) (oV 0 (pI v a b i (pO v a b i) j)) (nI j) my ay ly := by
          intro k
          induction k with
          | zero =>
            intro j my ay ly u hj r1 r2 r3 r4
            obtain rfl : j = nO v := by omega
            unfold P_X12_pair_51 P_X12_pair_51_b
            refine m_optionMany r1.1 ?_
            rw [r2, nI_1]
            exact ⟨fun _ => kk _ _ _ u r1 r2 r3 r4, fun c => absurd (nI_le (Nat.le_refl _) (by omega)) c⟩
          | succ k ih =>
            intro j my ay ly u hj r1 r2 r3 r4
            unfold P_X12_pair_51 P_X12_pair_51_b
            refine m_optionMany r1.1 ?_
            rw [r2]
            refine ⟨fun c => absurd ((nI_leI (by omega) (by omega)).mp c) (by omega), fun _ => ?_⟩
            refine m_setO r1 (by omega) (by omega) (fun a1 s1 s2 _ => m_setO s1 (by omega) (by omega) (fun a2 t1 t2 _ => ?_))
            rw [r3] at t1
            obtain ⟨hu, htop⟩ := fP_top hv ha hb hi (show j < nO v by omega)
            refine m_nightF hu.1 hu.2.1 t1 (fun m3 a3 l3 hF hMP => ?_)
            have ha' : a < vo (vo v a i) b j 13 0 := by rw [vo_f (by decide) (by decide), vo_f (by decide) (by decide)]; exact ha
            have hb' : b < vo (vo v a i) b j 13 0 := by rw [vo_f (by decide) (by decide), vo_f (by decide) (by decide)]; exact hb
            have hM3 := hF.rm t1
            refine m_costOf hu.1 hM3.1 hMP ha' (m_costOf hu.1 hM3.1 hMP hb' (fun x hx => ?_))
            have hx' : x = fP v a b i j := hx
            subst hx'
            have go := ih (j + 1) m3 a3 l3 (vo (vo v a i) b j) (by omega) hM3 (by rw [vo_f (by decide) (by decide), vo_f (by decide) (by decide)]) (fun i' j' => by rw [vo_comm _ hab, vo_vo, vo_vo]) (((r4.trans (s2 _ _)).trans (t2 _ _)).trans hF.g)
            rw [pI] at go
            rw [nI_1, show (100 : Int32) * nI i + nI j = nI (100 * i + j) by simp only [fa_lit, pk_mul, nI_add]]
            have := mn_m (A := fun n l => P_X12_pair_51 (nI a) (nI b) (nI (opt v a)) (nI (opt v b)) (fun r' mt mb mk => oN 0 (pO v a b (nO v)) = r' ∧ Inv us ua rs ra ra3 sa sl ns' na' nl' yt im mt mb mk) R39 (nI i) (k + 1) n l (nI (j + 1)) m3 a3 l3) (fun q hq => Nat.lt_of_lt_of_le (pI_le hv.1 (by omega) (pO_le hv.1 i (by omega)) j (by omega) q hq) (by decide)) 0 go
            exact ⟨fun c y hy => by rw [hy]; exact this.1 c, fun c => ⟨fun c2 y hy => by rw [hy]; exact (this.2 c).1 c2, fun c2 => (this.2 c).2 c2⟩⟩
        exact ⟨nO v + 1, L (nO v) 0 mx ax lx u (by omega) q1 q2 q3 q4⟩
      have L : ∀ (k i : Nat) (my : A1) (ay : A2) (ly : L2) (u : Rl), i + k = nO v → RM u 0 my ay → u 12 0 = v 12 0 → (∀ i j, vo (vo u a i) b j = vo (vo v a i) b j) → MG (va_up ms 0 0) ma ml my ay ly → P_X12_pair_39 (nI a) (nI b) (fun r' mt mb mk => oN 0 (pO v a b (nO v)) = r' ∧ Inv us ua rs ra ra3 sa sl ns' na' nl' yt im mt mb mk) (fun (x3_ : Int32) (x4_ : Int32) (x5_ : Int32) (ms : Nat → Int32) (ma : Nat → Nat → Int32) (ml : Nat → Nat → Int64) => P_X12_pair_134 (nI a) (nI b) (fun r' mt mb mk => oN 0 (pO v a b (nO v)) = r' ∧ Inv us ua rs ra ra3 sa sl ns' na' nl' yt im mt mb mk) x3_ x4_ x5_ ms ma ml) (nI (opt v a)) (nI (opt v b)) (k + 1) (oN (-1) (pO v a b i)) (oV 0 (pO v a b i)) (nI i) my ay ly := by
        intro k
        induction k with
        | zero =>
          intro i my ay ly u hi r1 r2 r3 r4
          obtain rfl : i = nO v := by omega
          unfold P_X12_pair_39 P_X12_pair_39_b
          refine m_optionMany r1.1 ?_
          rw [r2]
          refine ⟨fun _ => ?_, fun c => absurd (nI_le (Nat.le_refl _) (by omega)) c⟩
          refine m_setO r1 (by omega) (by omega) (fun a1 s1 s2 _ => m_setO s1 (by omega) (by omega) (fun a2 t1 t2 _ => ?_))
          rw [r3, vo_opt (hv.1.2.2.2.2.1 a ha).2.2.2.2, vo_opt (hv.1.2.2.2.2.1 b hb).2.2.2.2] at t1
          refine ⟨?_, F _ _ _ _ _ _ _ ((r4.trans (s2 _ _)).trans (t2 _ _)) t1.1 hB3 hK3⟩
          have hsome : pO v a b (nO v) ≠ none := by
            have e : nO v = (nO v - 1) + 1 := by omega
            rw [e, pO]
            have e2 : nO v = (nO v - 1) + 1 := by omega
            rw [e2, pI]
            unfold mn
            split
            · simp
            · split <;> simp
          cases hs : pO v a b (nO v) with
          | none => exact absurd hs hsome
          | some q => rfl
        | succ k ih =>
          intro i my ay ly u hi r1 r2 r3 r4
          unfold P_X12_pair_39 P_X12_pair_39_b
          refine m_optionMany r1.1 ?_
          rw [r2]
          refine ⟨fun c => absurd ((nI_leI (by omega) (by omega)).mp c) (by omega), fun _ => ?_⟩
          exact I i (by omega) _ my ay ly u r1 r2 r3 r4 (fun mz az lz u' s1 s2 s3 s4 => ih (i + 1) mz az lz u' (by omega) s1 s2 s3 s4)
      exact ⟨nO v + 1, L (nO v) 0 _ _ _ v (by omega) hM rfl (fun _ _ => rfl) (MG.refl _ _ _)⟩
    -- the class
    have I : ∀ (i : Nat), i < nO v → ∀ (R42 : Int32 → Int64 → Int32 → A2 → A1 → A2 → L2 → Prop) (rx : A2) (nx : A1) (ax : A2) (lx : L2) (u : Rl), RelC u rs' rx → (∀ j, vo u b j = vo (vo v a i) b j) → NOK nx ax lx → (∀ ry ny ay ly u, RelC u rs' ry → (∀ i j, vo (vo u a i) b j = vo (vo v a i) b j) → NOK ny ay ly → R42 (oN 0 (pO v a b (i + 1))) (oV 9223372036854775807 (pO v a b (i + 1))) (nI (i + 1)) ry ny ay ly) → (∀ i j, vo (vo u a i) b j = vo (vo v a i) b j) → ∃ m, P_X11_pair_64 rs ra (nI a) (nI b) (nI (nO v)) rs' (fun r _ ra2' ns' na' nl' => P_X12_pair ms ma ml (nI a) (nI b) (fun r' mt mb mk => r = r' ∧ Inv us ua rs ra ra2' sa sl ns' na' nl' yt im mt mb mk)) R42 (nI i) m (oN 0 (pO v a b i)) (oV 9223372036854775807 (pO v a b i)) 0 rx nx ax lx := by
      intro i hi R42 rx nx ax lx u q1 q2 q3 kk q4
      have L : ∀ (k j : Nat) (ry : A2) (ny : A1) (ay : A2) (ly : L2) (u : Rl), j + k = nO v → RelC u rs' ry → (∀ j, vo u b j = vo (vo v a i) b j) → (∀ i j, vo (vo u a i) b j = vo (vo v a i) b j) → NOK ny ay ly → P_X11_pair_64 rs ra (nI a) (nI b) (nI (nO v)) rs' (fun r _ ra2' ns' na' nl' => P_X12_pair ms ma ml (nI a) (nI b) (fun r' mt mb mk => r = r' ∧ Inv us ua rs ra ra2' sa sl ns' na' nl' yt im mt mb mk)) R42 (nI i) (k + 1) (oN 0 (pI v a b i (pO v a b i) j)) (oV 9223372036854775807 (pI v a b i (pO v a b i) j)) (nI j) ry ny ay ly := by
        intro k
        induction k with
        | zero =>
          intro j ry ny ay ly u hj r1 r2 r3 r4
          obtain rfl : j = nO v := by omega
          refine ⟨fun _ => ?_, fun c => absurd (nI_le (Nat.le_refl _) (by omega)) c⟩
          rw [nI_1]
          exact kk _ _ _ _ u r1 r3 r4
        | succ k ih =>
          intro j ry ny ay ly u hj r1 r2 r3 r4
          refine ⟨fun c => absurd ((nI_leI (by omega) (by omega)).mp c) (by omega), fun _ => ?_⟩
          refine c_setOption r1 (by omega) (by omega) (fun loc mar hC' => ?_)
          rw [r2] at hC'
          obtain ⟨hu, htop⟩ := fP_top hv ha hb hi (show j < nO v by omega)
          have ha' : a < vo (vo v a i) b j 13 0 := by rw [vo_f (by decide) (by decide), vo_f (by decide) (by decide)]; exact ha
          have hb' : b < vo (vo v a i) b j 13 0 := by rw [vo_f (by decide) (by decide), vo_f (by decide) (by decide)]; exact hb
          refine c_play hC' hu.1 r4 (fun n3 a3 l3 hPl => c_costOf (w := 2) hC' hu.1 hPl.2.2.2 ha' (by decide) (c_costOf (w := 2) hC' hu.1 hPl.2.2.2 hb' (by decide) (fun x hx => ?_)))
          have hx' : x = fP v a b i j := hx
          subst hx'
          have go := ih (j + 1) _ n3 a3 l3 (vo (vo v a i) b j) (by omega) hC' (fun j' => by rw [vo_vo]) (fun i' j' => by rw [vo_comm _ hab, vo_vo, vo_vo]) hPl.2.1
          rw [pI] at go
          rw [nI_1, show (100 : Int32) * nI i + nI j = nI (100 * i + j) by simp only [fa_lit, pk_mul, nI_add]]
          have := mn_c htop 0 (A := fun n l => P_X11_pair_64 rs ra (nI a) (nI b) (nI (nO v)) rs' (fun r _ ra2' ns' na' nl' => P_X12_pair ms ma ml (nI a) (nI b) (fun r' mt mb mk => r = r' ∧ Inv us ua rs ra ra2' sa sl ns' na' nl' yt im mt mb mk)) R42 (nI i) (k + 1) n l (nI (j + 1)) (va_up (va_up ry 7 loc) 8 mar) n3 a3 l3) go
          exact ⟨fun c => this.1 c, fun c y hy => by rw [hy]; exact this.2 c⟩
      exact ⟨nO v + 1, L (nO v) 0 rx nx ax lx u (by omega) q1 q2 q4 q3⟩
    have L : ∀ (k i : Nat) (ry : A2) (ny : A1) (ay : A2) (ly : L2) (u : Rl), i + k = nO v → RelC u rs' ry → (∀ i j, vo (vo u a i) b j = vo (vo v a i) b j) → NOK ny ay ly → P_X11_pair_42 rs ra (nI a) (nI b) (fun r _ ra2' ns' na' nl' => P_X12_pair ms ma ml (nI a) (nI b) (fun r' mt mb mk => r = r' ∧ Inv us ua rs ra ra2' sa sl ns' na' nl' yt im mt mb mk)) (nI (nO v)) rs' (k + 1) (oN 0 (pO v a b i)) (oV 9223372036854775807 (pO v a b i)) (nI i) ry ny ay ly := by
      intro k
      induction k with
      | zero =>
        intro i ry ny ay ly u hi r1 r2 r3
        obtain rfl : i = nO v := by omega
        exact ⟨fun _ => M ry ny ay ly r1.bok r3, fun c => absurd (nI_le (Nat.le_refl _) (by omega)) c⟩
      | succ k ih =>
        intro i ry ny ay ly u hi r1 r2 r3
        refine ⟨fun c => absurd ((nI_leI (by omega) (by omega)).mp c) (by omega), fun _ => ?_⟩
        refine c_setOption r1 (by omega) (by omega) (fun loc mar hC' => ?_)
        exact I i (by omega) _ _ ny ay ly (vo u a i) hC' (fun j => r2 i j) r3 (fun rz nz az lz u' s1 s2 s3 => ih (i + 1) rz nz az lz u' (by omega) s1 s2 s3) (fun i' j' => by rw [vo_vo]; exact r2 i' j')
    exact ⟨nO v + 1, L (nO v) 0 ra' ns na nl v (by omega) hC1 (fun _ _ => rfl) hK⟩
/-! wasted -/
def zro (v : Rl) : Nat → Rl
  | 0 => v
  | k + 1 => vo (zro v k) k 0
theorem zro_ok {v : Rl} (hv : okR v) : ∀ k, k ≤ v 13 0 → okR (zro v k) ∧ SO (zro v k) v
  | 0, _ => ⟨hv, SO.refl v⟩
  | k + 1, hk => by
    obtain ⟨h1, h2⟩ := zro_ok hv k (by omega)
    exact ⟨h1.vo (by omega), h2.vo (by omega) _⟩
theorem q_wasted (hI : Inv us ua rs ra ra2 sa sl ns na nl yt im ms ma ml) (rs2 : A1) : P_X11_wasted rs ra rs2 ra2 ns na nl (fun r _ ra2' ns' na' nl' => P_X12_wasted ms ma ml (fun r' mt mb mk => r = r' ∧ Inv us ua rs ra ra2' sa sl ns' na' nl' yt im mt mb mk)) := by
  obtain ⟨v, hv, hC, hM, hP, hY, hK, hB, F⟩ := hI.get
  have h13 := ok13 hv.1
  have fin := F ra2 ns na nl _ _ _ (MG.refl _ _ _) hM.1 hB hK
  obtain ⟨g1, g2⟩ := zro_ok hv _ (Nat.le_refl _)
  rcases Nat.eq_zero_or_pos (v 2 0) with z | z
  · exact c_told0 hC z (b0t (m_rail0 hM.1 hv.1 z (b0t ⟨rfl, fin⟩)))
  · refine c_told hC hv.1 z (b1t (c_copyFrom hC hv.1 (fun rs' ra' hC1 hB1 _ => ?_)))
    have M : ∀ (ra3 : A2) (ns' : A1) (na' : A2) (nl' : L2), BOK ra3 → NOK ns' na' nl' → P_X12_wasted ms ma ml (fun r' mt mb mk => allL v 2 - allL (zro v (v 13 0)) 2 = r' ∧ Inv us ua rs ra ra3 sa sl ns' na' nl' yt im mt mb mk) := by
      intro ra3 ns' na' nl' hB3 hK3
      refine m_rail hM.1 hv.1 z (b1t (m_allNow (w := 2) hv.1 hv.2.1 hM (by decide) (fun m1 a1 l1 hF1 => m_laysAside hv.1 (hF1.rm hM) (fun mb h1 h2 => ?_))))
      have L : ∀ (k i : Nat) (ay : A2), i + k = v 13 0 → RM (zro v i) 0 m1 ay → (∀ (ms : A1) (ml : L2), MG ms mb ml ms ay ml) → ay 20 = mb 20 → P_X12_wasted_28 (fun r' mt mb mk => allL v 2 - allL (zro v (v 13 0)) 2 = r' ∧ Inv us ua rs ra ra3 sa sl ns' na' nl' yt im mt mb mk) (fun (x1_ : Int64) (ms : Nat → Int32) (ma : Nat → Nat → Int32) (ml : Nat → Nat → Int64) => P_X12_wasted_50 (fun r' mt mb mk => allL v 2 - allL (zro v (v 13 0)) 2 = r' ∧ Inv us ua rs ra ra3 sa sl ns' na' nl' yt im mt mb mk) x1_ ms ma ml) (allL v 2) m1 l1 (k + 1) (nI i) ay := by
        intro k
        induction k with
        | zero =>
          intro i ay hi r1 r2 r3
          obtain rfl : i = v 13 0 := by omega
          have e : ay 10 0 = nI (v 13 0) := by rw [r1.1.1.2.2.2.2, g2.n]
          refine ⟨fun _ => ?_, fun c => absurd ((cmp_le e (by omega) (by omega)).mpr (Nat.le_refl _)) c⟩
          refine m_allNow (w := 2) g1.1 g1.2.1 r1 (by decide) (fun m2 a2 l2 hF x hx => ?_)
          refine m_takesBack hv.1 g2 (hF.rm r1) (fun b hb => by rw [hF.2.1 20 (by decide) (by decide), r3]; exact h2 b hb) (fun md hMd hGd => ?_)
          exact ⟨hx.symm, F _ _ _ _ _ _ _ ((((hF1.g.trans (MG.of20 h1)).trans (r2 _ _)).trans hF.g).trans (hGd _ _)) hMd.1 hB3 hK3⟩
        | succ k ih =>
          intro i ay hi r1 r2 r3
          have e : ay 10 0 = nI (v 13 0) := by rw [r1.1.1.2.2.2.2, (zro_ok hv i (by omega)).2.n]
          refine ⟨fun c => absurd ((cmp_le e (by omega) (by omega)).mp c) (by omega), fun _ => ?_⟩
          refine m_setO (o := 0) r1 (by omega) (by decide) (fun az s1 s2 s3 => ?_)
          rw [nI_1]
          exact ih (i + 1) az (by omega) s1 (fun a b => (r2 a b).trans (s2 a b)) ((s3 20 (by decide)).trans r3)
      exact ⟨v 13 0 + 1, L (v 13 0) 0 mb (by omega) ((hF1.rm hM).fr (fun i _ _ => h1 i (by omega)) rfl rfl) (fun _ _ => MG.refl _ _ _) rfl⟩
    have L : ∀ (k i : Nat) (ry : A2), i + k = v 13 0 → RelC (zro v i) rs' ry → P_X11_wasted_27 rs ra (fun r _ ra2' ns' na' nl' => P_X12_wasted ms ma ml (fun r' mt mb mk => r = r' ∧ Inv us ua rs ra ra2' sa sl ns' na' nl' yt im mt mb mk)) (fun (rs2 : Nat → Int32) (ra2 : Nat → Nat → Int32) (ns : Nat → Int32) (na : Nat → Nat → Int32) (nl : Nat → Nat → Int64) => P_X11_wasted_59 rs ra (fun r _ ra2' ns' na' nl' => P_X12_wasted ms ma ml (fun r' mt mb mk => r = r' ∧ Inv us ua rs ra ra2' sa sl ns' na' nl' yt im mt mb mk)) rs2 ra2 ns na nl) rs' ns na nl (k + 1) (nI i) ry := by
      intro k
      induction k with
      | zero =>
        intro i ry hi r1
        obtain rfl : i = v 13 0 := by omega
        refine ⟨fun _ => ?_, fun c => absurd ((cmp_le (rc_s hC1 13) (by omega) (by omega)).mpr (Nat.le_refl _)) c⟩
        refine c_allOn (w := 2) hC hv.1 hK (by decide) (fun n1 a1 l1 hK1 => c_allOn (w := 2) r1 g1.1 hK1 (by decide) (fun n2 a2 l2 hK2 => ?_))
        exact M ry n2 a2 l2 r1.bok hK2
      | succ k ih =>
        intro i ry hi r1
        refine ⟨fun c => absurd ((cmp_le (rc_s hC1 13) (by omega) (by omega)).mp c) (by omega), fun _ => ?_⟩
        refine c_setOption (o := 0) r1 (by omega) (by decide) (fun loc mar hC' => ?_)
        rw [nI_1]
        exact ih (i + 1) _ (by omega) hC'
    exact ⟨v 13 0 + 1, L (v 13 0) 0 ra' (by omega) hC1⟩
/-! growth -/
def gr (v : Rl) (b o k : Nat) : Int64 := -(risk v k) + risk (vo v b o) k
theorem c_grown {v : Rl} (hv : okR v) (hC : RelC v rs ra) (hK : NOK ns na nl) (rs2 : A1) (o_of : Nat → Int64) {b o : Nat} (hb : b < v 13 0) (ho : o < 2 * (v 12 0 + 1)) {post : A1 → A2 → A1 → A2 → L2 → (Nat → Int64) → Prop} (h : ∀ rs' ra' ns' na' nl' of', BOK ra' → NOK ns' na' nl' → (∀ k, k < v 13 0 → of' k = gr v b o k) → post rs' ra' ns' na' nl' of') : P_X11_findGrownRisks rs ra rs2 ra2 ns na nl o_of (nI b) (nI o) post := by
  have h13 := ok13 hv.1
  have h12 := ok12 hv.1
  have hv' := hv.vo (b := b) ho
  refine c_play hC hv.1 hK (fun n1 a1 l1 hPl => ?_)
  have LL2 : ∀ (rs3 : A1) (ra3 : A2), RelC (vo v b o) rs3 ra3 → ∀ (n2 : A1) (a2 : A2) (l2 : L2), NOK n2 a2 l2 → HadR (vo v b o) l2 → ∀ (k i : Nat) (of : Nat → Int64), i + k = v 13 0 → (∀ x, x < i → of x = gr v b o x) → (∀ x, i ≤ x → x < v 13 0 → of x = -(risk v x)) → P_X11_findGrownRisks_84 rs ra (nI b) (nI o) post rs3 ra3 n2 a2 l2 (k + 1) (nI i) of := by
    intro rs3 ra3 hC3 n2 a2 l2 hK2 hH2 k
    induction k with
    | zero =>
      intro i of hi q1 q2
      obtain rfl : i = v 13 0 := by omega
      exact ⟨fun _ => h _ _ _ _ _ _ hC3.bok hK2 q1, fun c => absurd ((cmp_le (rc_s hC 13) (by omega) (by omega)).mpr (Nat.le_refl _)) c⟩
    | succ k ih =>
      intro i of hi q1 q2
      refine ⟨fun c => absurd ((cmp_le (rc_s hC 13) (by omega) (by omega)).mp c) (by omega), fun _ => ⟨vp_in_nI (by omega) (by decide), ?_⟩⟩
      refine c_riskOf hH2 (by omega) ⟨vp_in_nI (by omega) (by decide), ?_⟩
      rw [nI_1, nI_clamp (by omega), q2 i (Nat.le_refl _) (by omega)]
      refine ih (i + 1) _ (by omega) (fun x hx => ?_) (fun x h1 h2 => by rw [uL_ne (by omega)]; exact q2 x (by omega) h2)
      by_cases c : x = i
      · rw [c, uL_at]; rfl
      · rw [uL_ne c]; exact q1 x (by omega)
  have L1 : ∀ (k i : Nat) (of : Nat → Int64), i + k = v 13 0 → (∀ x, x < i → of x = -(risk v x)) → P_X11_findGrownRisks_13 rs ra (nI b) (nI o) post (fun (rs2 : Nat → Int32) (ra2 : Nat → Nat → Int32) (ns : Nat → Int32) (na : Nat → Nat → Int32) (nl : Nat → Nat → Int64) (o_of : Nat → Int64) => P_X11_findGrownRisks_48 rs ra (nI b) (nI o) post rs2 ra2 ns na nl o_of) rs2 ra2 n1 a1 l1 (k + 1) (nI i) of := by
    intro k
    induction k with
    | zero =>
      intro i of hi q1
      obtain rfl : i = v 13 0 := by omega
      refine ⟨fun _ => ?_, fun c => absurd ((cmp_le (rc_s hC 13) (by omega) (by omega)).mpr (Nat.le_refl _)) c⟩
      refine c_copyFrom hC hv.1 (fun rs3 ra3 hC3 _ _ => c_setOption hC3 (by omega) (by omega) (fun loc mar hC4 => c_play hC4 hv'.1 hPl.2.1 (fun n2 a2 l2 hPl2 => ?_)))
      exact ⟨v 13 0 + 1, LL2 _ _ hC4 n2 a2 l2 hPl2.2.1 hPl2.2.2.2 (v 13 0) 0 of (by omega) (fun x hx => by omega) (fun x _ hx => q1 x hx)⟩
    | succ k ih =>
      intro i of hi q1
      refine ⟨fun c => absurd ((cmp_le (rc_s hC 13) (by omega) (by omega)).mp c) (by omega), fun _ => ?_⟩
      refine c_riskOf hPl.2.2.2 (by omega) ⟨vp_in_nI (by omega) (by decide), ?_⟩
      rw [nI_1, nI_clamp (by omega)]
      refine ih (i + 1) _ (by omega) (fun x hx => ?_)
      by_cases c : x = i
      · rw [c, uL_at]
      · rw [uL_ne c]; exact q1 x (by omega)
  exact ⟨v 13 0 + 1, L1 (v 13 0) 0 o_of (by omega) (fun x hx => by omega)⟩
theorem MG.l5 (x : Nat → Int64) : MG ms ma ml ms ma (va_up ml 5 x) := ⟨fun _ _ _ _ => rfl, fun _ _ _ _ _ => rfl, fun _ _ => rfl, fun _ _ => rfl, up_ne (by decide)⟩
theorem m_growth {v : Rl} (hv : okR v) (hM : RM v 0 ms ma) {b o : Nat} (hb : b < v 13 0) (ho : o < 2 * (v 12 0 + 1)) {post : A1 → A2 → L2 → Prop} (h : ∀ mt mb mk, RM v 0 mt mb → MG ms ma ml mt mb mk → (∀ k, k < v 13 0 → mk 5 k = gr v b o k) → post mt mb mk) : P_X12_laysGrowth ms ma ml (nI b) (nI o) post := by
  have h13 := ok13 hv.1
  have h12 := ok12 hv.1
  have hv' := hv.vo (b := b) ho
  have hol := opt_lt hv.1 hb
  refine m_nightF hv.1 hv.2.1 hM (fun m1 a1 l1 hF1 hP1 => ?_)
  have hM1 := hF1.rm hM
  have LL2 : ∀ (m2 : A1) (a2 : A2), RM (vo v b o) 0 m2 a2 → ∀ (k i : Nat) (lx : L2), i + k = v 13 0 → MP (vo v b o) lx → MG ms ma ml m2 a2 lx → (∀ x, x < i → lx 5 x = gr v b o x) → (∀ x, i ≤ x → x < v 13 0 → lx 5 x = -(risk v x)) → P_X12_laysGrowth_53 (nI b) (nI o) post (fun (x3_ : Int32) (ms : Nat → Int32) (ma : Nat → Nat → Int32) (ml : Nat → Nat → Int64) => P_X12_laysGrowth_86 (nI b) (nI o) post x3_ ms ma ml) (nI (opt v b)) m2 a2 (k + 1) (nI i) lx := by
    intro m2 a2 hM2 k
    have e : a2 10 0 = nI (v 13 0) := by rw [hM2.1.1.2.2.2.2, vo_f (by decide) (by decide)]
    induction k with
    | zero =>
      intro i lx hi q0 qG q1 q2
      obtain rfl : i = v 13 0 := by omega
      refine ⟨fun _ => ?_, fun c => absurd ((cmp_le e (by omega) (by omega)).mpr (Nat.le_refl _)) c⟩
      refine m_setO hM2 (by omega) (by omega) (fun a3 s1 s2 _ => ?_)
      rw [vo_vo, vo_opt (hv.1.2.2.2.2.1 b hb).2.2.2.2] at s1
      exact h _ _ _ s1 (qG.trans (s2 _ _)) q1
    | succ k ih =>
      intro i lx hi q0 qG q1 q2
      refine ⟨fun c => absurd ((cmp_le e (by omega) (by omega)).mp c) (by omega), fun _ => ⟨vp_in_nI (by omega) (by decide), ?_⟩⟩
      refine m_riskOf hv'.1 hM2.1 q0 (by rw [vo_f (by decide) (by decide)]; omega) ⟨vp_in_nI (by omega) (by decide), ?_⟩
      rw [nI_1, nI_clamp (by omega), q2 i (Nat.le_refl _) (by omega)]
      refine ih (i + 1) _ (by omega) ?_ (qG.trans (MG.l5 _)) (fun x hx => ?_) (fun x h1 h2 => by rw [up_at, uL_ne (by omega)]; exact q2 x (by omega) h2)
      · unfold MP at q0 ⊢
        rw [up_ne (by decide), up_ne (by decide)]
        exact q0
      · rw [up_at]
        by_cases c : x = i
        · rw [c, uL_at]; rfl
        · rw [uL_ne c]; exact q1 x (by omega)
  have e1 : a1 10 0 = nI (v 13 0) := hM1.1.1.2.2.2.2
  have L1 : ∀ (k i : Nat) (lx : L2), i + k = v 13 0 → MP v lx → MG ms ma ml m1 a1 lx → (∀ x, x < i → lx 5 x = -(risk v x)) → P_X12_laysGrowth_6 (nI b) (nI o) post (fun (ms : Nat → Int32) (ma : Nat → Nat → Int32) (ml : Nat → Nat → Int64) => P_X12_laysGrowth_34 (nI b) (nI o) post ms ma ml) m1 a1 (k + 1) (nI i) lx := by
    intro k
    induction k with
    | zero =>
      intro i lx hi q0 qG q1
      obtain rfl : i = v 13 0 := by omega
      refine ⟨fun _ => ?_, fun c => absurd ((cmp_le e1 (by omega) (by omega)).mpr (Nat.le_refl _)) c⟩
      refine m_optionOf hM1.1 hv.1 hb (m_setO hM1 (by omega) (by omega) (fun a2 s1 s2 _ => m_nightF hv'.1 hv'.2.1 s1 (fun m3 a3 l3 hF3 hP3 => ?_)))
      exact ⟨v 13 0 + 1, LL2 m3 a3 (hF3.rm s1) (v 13 0) 0 l3 (by omega) hP3 ((qG.trans (s2 _ _)).trans hF3.g) (fun x hx => by omega) (fun x _ hx => by rw [hF3.2.2 5 (by decide) (by decide) (by decide)]; exact q1 x hx)⟩
    | succ k ih =>
      intro i lx hi q0 qG q1
      refine ⟨fun c => absurd ((cmp_le e1 (by omega) (by omega)).mp c) (by omega), fun _ => ?_⟩
      refine m_riskOf hv.1 hM1.1 q0 (by omega) ⟨vp_in_nI (by omega) (by decide), ?_⟩
      rw [nI_1, nI_clamp (by omega)]
      refine ih (i + 1) _ (by omega) ?_ (qG.trans (MG.l5 _)) (fun x hx => ?_)
      · unfold MP at q0 ⊢
        rw [up_ne (by decide), up_ne (by decide)]
        exact q0
      · rw [up_at]
        by_cases c : x = i
        · rw [c, uL_at]
        · rw [uL_ne c]; exact q1 x (by omega)
  exact ⟨v 13 0 + 1, L1 (v 13 0) 0 l1 (by omega) hP1 hF1.g (fun x hx => by omega)⟩
theorem q_beside (hI : Inv us ua rs ra ra2 sa sl ns na nl yt im ms ma ml) (rs2 : A1) (o_of : Nat → Int64) (p w y : Int32) : P_X11_beside rs ra rs2 ra2 ns na nl o_of p w y (fun r _ ra2' ns' na' nl' _ => P_X12_beside ms ma ml p w y (fun r' mt mb mk => r = r' ∧ Inv us ua rs ra ra2' sa sl ns' na' nl' yt im mt mb mk)) := by
  obtain ⟨v, hv, hC, hM, hP, hY, hK, hB, F⟩ := hI.get
  have h13 := ok13 hv.1
  have h12 := ok12 hv.1
  have fin := F ra2 ns na nl _ _ _ (MG.refl _ _ _) hM.1 hB hK
  rcases two_cases hC hM.1 hv.1 p y with ⟨h1, h2⟩ | ⟨b, c, hb, hc, hbc, rfl, rfl⟩
  · exact h1 _ (b0f (h2 _ (b0f ⟨rfl, fin⟩)))
  · have z := told_of hv hb
    rcases ixs w (n := 2 * (v 12 0 + 1)) (by omega) with h | ⟨o, ho, rfl⟩
    · exact c_two hC hv.1 hb hc hbc (b1f (c_hasO0 hC hv.1 z h (b0t (m_two hM.1 hv.1 hb hc hbc (b1f (m_isO0 hM.1 hv.1 h (b0t ⟨rfl, fin⟩)))))))
    · refine c_two hC hv.1 hb hc hbc (b1f (c_hasO hC hv.1 z ho (b1t (c_grown hv hC hK rs2 o_of hb ho (fun rs3 ra3 ns' na' nl' of' hB3 hK3 hof => ⟨vp_in_nI (by omega) (by decide), ?_⟩)))))
      refine m_two hM.1 hv.1 hb hc hbc (b1f (m_isO hM.1 hv.1 ho (b1t (m_growth hv hM hb ho (fun mt mb mk hM' hG hgr => ⟨vp_in_nI (by omega) (by decide), ?_⟩)))))
      rw [nI_clamp (by omega), hof c hc, hgr c hc]
      exact ⟨rfl, F _ _ _ _ _ _ _ hG hM'.1 hB3 hK3⟩
def wrN (v : Rl) (b o : Nat) : Nat → Nat
  | 0 => 0
  | k + 1 => wrN v b o k + if k ≠ b ∧ 0 < gr v b o k then 1 else 0
theorem q_worse (hI : Inv us ua rs ra ra2 sa sl ns na nl yt im ms ma ml) (rs2 : A1) (o_of : Nat → Int64) (p w : Int32) : P_X11_worse rs ra rs2 ra2 ns na nl o_of p w (fun r _ ra2' ns' na' nl' _ => P_X12_worse ms ma ml p w (fun r' mt mb mk => r = r' ∧ Inv us ua rs ra ra2' sa sl ns' na' nl' yt im mt mb mk)) := by
  obtain ⟨v, hv, hC, hM, hP, hY, hK, hB, F⟩ := hI.get
  have h13 := ok13 hv.1
  have h12 := ok12 hv.1
  have fin := F ra2 ns na nl _ _ _ (MG.refl _ _ _) hM.1 hB hK
  rcases ixs p (n := v 13 0) (by omega) with h | ⟨b, hb, rfl⟩
  · exact c_hasB0 hC h (b0f (m_isB0 hM.1 hv.1 h (b0f ⟨rfl, fin⟩)))
  · have z := told_of hv hb
    rcases ixs w (n := 2 * (v 12 0 + 1)) (by omega) with h | ⟨o, ho, rfl⟩
    · exact c_hasB hC hv.1 hb (b1f (c_hasO0 hC hv.1 z h (b0t (m_isB hM.1 hv.1 hb (b1f (m_isO0 hM.1 hv.1 h (b0t ⟨rfl, fin⟩)))))))
    · refine c_hasB hC hv.1 hb (b1f (c_hasO hC hv.1 z ho (b1t (c_grown hv hC hK rs2 o_of hb ho (fun rs3 ra3 ns' na' nl' of' hB3 hK3 hof => ?_)))))
      have M : P_X12_worse ms ma ml (nI b) (nI o) (fun r' mt mb mk => nI (wrN v b o (v 13 0)) = r' ∧ Inv us ua rs ra ra3 sa sl ns' na' nl' yt im mt mb mk) := by
        refine m_isB hM.1 hv.1 hb (b1f (m_isO hM.1 hv.1 ho (b1t (m_growth hv hM hb ho (fun mt mb mk hM' hG hgr => ?_)))))
        have e1 : mb 10 0 = nI (v 13 0) := hM'.1.1.2.2.2.2
        have L : ∀ k i, i + k = v 13 0 → P_X12_worse_35 (nI b) (nI o) (fun r' mt mb mk => nI (wrN v b o (v 13 0)) = r' ∧ Inv us ua rs ra ra3 sa sl ns' na' nl' yt im mt mb mk) mt mb mk (k + 1) (nI (wrN v b o i)) (nI i) := by
          intro k
          induction k with
          | zero =>
            intro i hi
            obtain rfl : i = v 13 0 := by omega
            exact ⟨fun _ => ⟨rfl, F _ _ _ _ _ _ _ hG hM'.1 hB3 hK3⟩, fun c => absurd ((cmp_le e1 (by omega) (by omega)).mpr (Nat.le_refl _)) c⟩
          | succ k ih =>
            intro i hi
            have go := ih (i + 1) (by omega)
            rw [wrN] at go
            refine ⟨fun c => absurd ((cmp_le e1 (by omega) (by omega)).mp c) (by omega), fun _ => ?_⟩
            rw [nI_eq (by omega) (by omega), nI_1, nI_clamp (by omega), hgr i (by omega)]
            refine ⟨fun c x hx => ?_, fun c => ⟨vp_in_nI (by omega) (by decide), fun c2 x hx => ?_, fun c2 x hx => ?_⟩⟩
            · rw [if_neg (fun q => q.1 c)] at go
              rw [show (0 : Int32) = nI 0 from rfl, nI_add] at hx
              rw [hx]; exact go
            · rw [if_neg (fun q => absurd q.2 (Int64.not_lt.mpr c2))] at go
              rw [show (0 : Int32) = nI 0 from rfl, nI_add] at hx
              rw [hx]; exact go
            · rw [if_pos ⟨c, Int64.not_le.mp c2⟩] at go
              rw [nI_1] at hx
              rw [hx]; exact go
        exact ⟨v 13 0 + 1, L (v 13 0) 0 (by omega)⟩
      have L : ∀ k i, i + k = v 13 0 → P_X11_worse_36 rs ra (nI b) (nI o) (fun r _ ra2' ns' na' nl' _ => P_X12_worse ms ma ml (nI b) (nI o) (fun r' mt mb mk => r = r' ∧ Inv us ua rs ra ra2' sa sl ns' na' nl' yt im mt mb mk)) rs3 ra3 ns' na' nl' of' (k + 1) (nI (wrN v b o i)) (nI i) := by
        intro k
        induction k with
        | zero =>
          intro i hi
          obtain rfl : i = v 13 0 := by omega
          exact ⟨fun _ => M, fun c => absurd ((cmp_le (rc_s hC 13) (by omega) (by omega)).mpr (Nat.le_refl _)) c⟩
        | succ k ih =>
          intro i hi
          have go := ih (i + 1) (by omega)
          rw [wrN] at go
          refine ⟨fun c => absurd ((cmp_le (rc_s hC 13) (by omega) (by omega)).mp c) (by omega), fun _ => ?_⟩
          rw [nI_eq (by omega) (by omega), nI_1, nI_clamp (by omega), hof i (by omega), nI_1]
          refine ⟨fun c => ?_, fun c => ⟨vp_in_nI (by omega) (by decide), fun c2 => ?_, fun c2 => ?_⟩⟩
          · rw [if_neg (fun q => q.1 c)] at go
            exact go
          · rw [if_neg (fun q => absurd q.2 (Int64.not_lt.mpr c2))] at go
            exact go
          · rw [if_pos ⟨c, Int64.not_le.mp c2⟩] at go
            exact go
      exact ⟨v 13 0 + 1, L (v 13 0) 0 (by omega)⟩
def nxS (v : Rl) (b o : Nat) : Nat → Option Nat × Int64
  | 0 => (none, 0)
  | k + 1 => if k ≠ b ∧ (nxS v b o k).2 < gr v b o k then (some k, gr v b o k) else nxS v b o k
theorem q_next (hI : Inv us ua rs ra ra2 sa sl ns na nl yt im ms ma ml) (rs2 : A1) (o_of : Nat → Int64) (p w : Int32) : P_X11_next rs ra rs2 ra2 ns na nl o_of p w (fun r _ ra2' ns' na' nl' _ => P_X12_next_ ms ma ml p w (fun r' mt mb mk => r = r' ∧ Inv us ua rs ra ra2' sa sl ns' na' nl' yt im mt mb mk)) := by
  obtain ⟨v, hv, hC, hM, hP, hY, hK, hB, F⟩ := hI.get
  have h13 := ok13 hv.1
  have h12 := ok12 hv.1
  have fin := F ra2 ns na nl _ _ _ (MG.refl _ _ _) hM.1 hB hK
  rcases ixs p (n := v 13 0) (by omega) with h | ⟨b, hb, rfl⟩
  · exact c_hasB0 hC h (b0f (m_isB0 hM.1 hv.1 h (b0f ⟨rfl, fin⟩)))
  · have z := told_of hv hb
    rcases ixs w (n := 2 * (v 12 0 + 1)) (by omega) with h | ⟨o, ho, rfl⟩
    · exact c_hasB hC hv.1 hb (b1f (c_hasO0 hC hv.1 z h (b0t (m_isB hM.1 hv.1 hb (b1f (m_isO0 hM.1 hv.1 h (b0t ⟨rfl, fin⟩)))))))
    · refine c_hasB hC hv.1 hb (b1f (c_hasO hC hv.1 z ho (b1t (c_grown hv hC hK rs2 o_of hb ho (fun rs3 ra3 ns' na' nl' of' hB3 hK3 hof => ?_)))))
      have M : P_X12_next_ ms ma ml (nI b) (nI o) (fun r' mt mb mk => oI (nxS v b o (v 13 0)).1 = r' ∧ Inv us ua rs ra ra3 sa sl ns' na' nl' yt im mt mb mk) := by
        refine m_isB hM.1 hv.1 hb (b1f (m_isO hM.1 hv.1 ho (b1t (m_growth hv hM hb ho (fun mt mb mk hM' hG hgr => ?_)))))
        have e1 : mb 10 0 = nI (v 13 0) := hM'.1.1.2.2.2.2
        have L : ∀ k i, i + k = v 13 0 → P_X12_next__38 (nI b) (nI o) (fun r' mt mb mk => oI (nxS v b o (v 13 0)).1 = r' ∧ Inv us ua rs ra ra3 sa sl ns' na' nl' yt im mt mb mk) mt mb mk (k + 1) (oI (nxS v b o i).1) (nxS v b o i).2 (nI i) := by
          intro k
          induction k with
          | zero =>
            intro i hi
            obtain rfl : i = v 13 0 := by omega
            exact ⟨fun _ => ⟨rfl, F _ _ _ _ _ _ _ hG hM'.1 hB3 hK3⟩, fun c => absurd ((cmp_le e1 (by omega) (by omega)).mpr (Nat.le_refl _)) c⟩
          | succ k ih =>
            intro i hi
            have go := ih (i + 1) (by omega)
            rw [nxS] at go
            refine ⟨fun c => absurd ((cmp_le e1 (by omega) (by omega)).mp c) (by omega), fun _ => ?_⟩
            rw [nI_eq (by omega) (by omega), nI_1, nI_clamp (by omega), hgr i (by omega)]
            refine ⟨fun c => ?_, fun c => ⟨vp_in_nI (by omega) (by decide), fun c2 => ⟨vp_in_nI (by omega) (by decide), fun x hx => ?_⟩, fun c2 => ?_⟩⟩
            · rw [if_neg (fun q => q.1 c)] at go
              exact go
            · rw [if_pos ⟨c, c2⟩] at go
              rw [hx]; exact go
            · rw [if_neg (fun q => c2 q.2)] at go
              exact go
        exact ⟨v 13 0 + 1, L (v 13 0) 0 (by omega)⟩
      have L : ∀ k i, i + k = v 13 0 → P_X11_next_39 rs ra (nI b) (nI o) (fun r _ ra2' ns' na' nl' _ => P_X12_next_ ms ma ml (nI b) (nI o) (fun r' mt mb mk => r = r' ∧ Inv us ua rs ra ra2' sa sl ns' na' nl' yt im mt mb mk)) rs3 ra3 ns' na' nl' of' (k + 1) (oI (nxS v b o i).1) (nxS v b o i).2 (nI i) := by
        intro k
        induction k with
        | zero =>
          intro i hi
          obtain rfl : i = v 13 0 := by omega
          exact ⟨fun _ => M, fun c => absurd ((cmp_le (rc_s hC 13) (by omega) (by omega)).mpr (Nat.le_refl _)) c⟩
        | succ k ih =>
          intro i hi
          have go := ih (i + 1) (by omega)
          rw [nxS] at go
          refine ⟨fun c => absurd ((cmp_le (rc_s hC 13) (by omega) (by omega)).mp c) (by omega), fun _ => ?_⟩
          rw [nI_eq (by omega) (by omega), nI_1, nI_clamp (by omega), hof i (by omega)]
          refine ⟨fun c => ?_, fun c => ⟨vp_in_nI (by omega) (by decide), fun c2 => ?_, fun c2 => ⟨vp_in_nI (by omega) (by decide), fun x hx => ?_⟩⟩⟩
          · rw [if_neg (fun q => q.1 c)] at go
            exact go
          · rw [if_neg (fun q => absurd q.2 (Int64.not_lt.mpr c2))] at go
            exact go
          · rw [if_pos ⟨c, Int64.not_le.mp c2⟩] at go
            rw [hx]; exact go
      exact ⟨v 13 0 + 1, L (v 13 0) 0 (by omega)⟩
end P
end
