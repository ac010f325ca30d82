/-! promises 37 and 38: the cover -/
def fC (v : Rl) (b : Nat) (p q : Int32) (o : Nat) : Int64 := ((1000 * p.toInt64) + lN (paidZ (vo v b o) b)) + (((100 - q).toInt64 * lossL (vo v b o) b) / 100)
def cO (v : Rl) (b : Nat) (p q : Int32) : Nat → Option (Nat × Int64)
  | 0 => none
  | k + 1 => mn (cO v b p q k) k (fC v b p q k)
theorem cO_at (v : Rl) (b : Nat) (p q : Int32) : ∀ k s, cO v b p q k = some s → s.1 < k ∧ s.2 = fC v b p q s.1
  | 0, s, h => by simp [cO] at h
  | k + 1, s, h => by
    unfold cO mn at h
    cases hs : cO v b p q k with
    | none =>
      rw [hs] at h
      simp at h
      subst h
      exact ⟨Nat.lt_succ_self _, rfl⟩
    | some r =>
      rw [hs] at h
      simp only at h
      split at h
      · simp at h
        subst h
        exact ⟨Nat.lt_succ_self _, rfl⟩
      · simp at h
        subst h
        have := cO_at v b p q k r hs
        exact ⟨by omega, this.2⟩
theorem cO_some (v : Rl) (b : Nat) (p q : Int32) (k : Nat) : ∃ s, cO v b p q (k + 1) = some s := by
  unfold cO mn
  split
  · exact ⟨_, rfl⟩
  · split <;> exact ⟨_, rfl⟩
theorem div100_rng (x : Int64) : (x / 100).toInt ≤ 92233720368547759 ∧ -92233720368547759 ≤ (x / 100).toInt := by
  have h1 := fb_rngL x
  rw [Int64.toInt_div, show (100 : Int64).toInt = 100 from rfl]
  have h2 : x.toInt.tdiv 100 ≤ 92233720368547759 ∧ -92233720368547759 ≤ x.toInt.tdiv 100 := by
    rcases Int.lt_or_le x.toInt 0 with c | c
    · obtain ⟨y, hy⟩ : ∃ y : Int, x.toInt = -y := ⟨-x.toInt, by omega⟩
      rw [hy, Int.neg_tdiv, Int.tdiv_eq_ediv_of_nonneg (by omega)]
      omega
    · rw [Int.tdiv_eq_ediv_of_nonneg c]
      omega
  rw [fb_bmodL (by omega) (by omega)]
  exact h2
theorem fC_top {v : Rl} (hv : okR v) {b : Nat} (hb : b < v 13 0) {a : Nat} (ha : a ≤ 9999) (q : Int32) {o : Nat} (ho : o < nO v) : fC v b (nI a) q o < 9223372036854775807 := by
  have h1 := hv.vo (b := b) (o := o) ho
  have h2 := paid_le h1.1 (b := b) (by rw [vo_f (by decide) (by decide)]; exact hb)
  unfold fC
  have h3 := div100_rng ((100 - q).toInt64 * lossL (vo v b o) b)
  generalize ((100 - q).toInt64 * lossL (vo v b o) b) / 100 = x at h3
  rw [nI_l (by omega), show (1000 : Int64) = lN 1000 from rfl, lN_mul, lN_add, Int64.lt_iff_toInt_lt]
  have e : (lN (1000 * a + paidZ (vo v b o) b)).toInt = ((1000 * a + paidZ (vo v b o) b : Nat) : Int) := pk_lT (by omega)
  rw [fb_addL (by rw [e]; omega) (by rw [e]; omega), e, show (9223372036854775807 : Int64).toInt = 9223372036854775807 from rfl]
  omega
section CV
variable {us : A1} {ua : A2} {rs : A1} {ra ra2 sa : A2} {sl : L2} {ns : A1} {na : A2} {nl : L2} {yt : Int32} {im : Img} {ms : A1} {ma : A2} {ml : L2}
theorem cover_cases {v : Rl} (hC : RelC v rs ra) (hN : RelN v 0 ma) (hv : okV v) (p s c : Int32) : ((∀ post : Int32 → Prop, post 0 → P_X11_isCover rs p s c post) ∧ ∀ post : Int32 → Prop, post 0 → P_X12_isCover ma p s c post) ∨ ∃ b a d, b < v 13 0 ∧ a ≤ 9999 ∧ d ≤ 100 ∧ p = nI b ∧ s = nI a ∧ c = nI d ∧ (∀ post : Int32 → Prop, post 1 → P_X11_isCover rs p s c post) ∧ ∀ post : Int32 → Prop, post 1 → P_X12_isCover ma p s c post := by
  have h13 := ok13 hv
  rcases ixs p (n := v 13 0) (by omega) with h | ⟨b, hb, rfl⟩
  · exact Or.inl ⟨fun post hp => c_hasB0 hC h (b0f hp), fun post hp => m_isB0 hN hv h (b0f hp)⟩
  · rcases ixs s (n := 10000) (by decide) with h | ⟨a, ha, rfl⟩
    · refine Or.inl ⟨fun post hp => c_hasB hC hv hb (b1f ⟨fun _ => hp, fun c => ⟨fun _ => hp, fun c2 => absurd ?_ c2⟩⟩), fun post hp => m_isB hN hv hb (b1f (m_inL_bad (m := 9999) h (by decide) (b0f hp)))⟩
      have h2 := h.resolve_left c
      rw [Int32.le_iff_toInt_le, nI_toInt (by decide)] at h2
      rw [Int32.lt_iff_toInt_lt, show (9999 : Int32).toInt = 9999 from rfl]
      omega
    · have n9 : ¬ (9999 : Int32) < nI a := fun c => absurd ((nI_ltI (a := 9999) (by decide) (by omega)).mp c) (by omega)
      rcases ixs c (n := 101) (by decide) with h | ⟨d, hd, rfl⟩
      · refine Or.inl ⟨fun post hp => c_hasB hC hv hb (b1f ⟨fun c => absurd c (nI_pos (by omega)), fun _ => ⟨fun c => absurd c n9, fun _ => ⟨fun _ => hp, fun c => ⟨fun _ => hp, fun c2 => absurd ?_ c2⟩⟩⟩⟩), fun post hp => m_isB hN hv hb (b1f (m_inL_ok (m := 9999) (by omega) (by decide) (b1f (m_inL_bad (m := 100) h (by decide) (b0f hp)))))⟩
        have h2 := h.resolve_left c
        rw [Int32.le_iff_toInt_le, nI_toInt (by decide)] at h2
        rw [Int32.lt_iff_toInt_lt, show (100 : Int32).toInt = 100 from rfl]
        omega
      · have n1 : ¬ (100 : Int32) < nI d := fun c => absurd ((nI_ltI (a := 100) (by decide) (by omega)).mp c) (by omega)
        exact Or.inr ⟨b, a, d, hb, by omega, by omega, rfl, rfl, rfl, fun post hp => c_hasB hC hv hb (b1f ⟨fun c => absurd c (nI_pos (by omega)), fun _ => ⟨fun c => absurd c n9, fun _ => ⟨fun c => absurd c (nI_pos (by omega)), fun _ => ⟨fun c => absurd c n1, fun _ => hp⟩⟩⟩⟩), fun post hp => m_isB hN hv hb (b1f (m_inL_ok (m := 9999) (by omega) (by decide) (b1f (m_inL_ok (m := 100) (by omega) (by decide) (b1f hp)))))⟩
theorem c_coveredOn {v : Rl} (hv : okR v) {b o : Nat} (hb : b < v 13 0) (ho : o < nO v) (hC : RelC (vo v b o) rs ra) (hK : NOK ns na nl) (p q : Int32) {post : Int64 → A1 → A2 → L2 → Prop} (h : ∀ ns' na' nl', NOK ns' na' nl' → post (fC v b p q o) ns' na' nl') : P_X11_coveredOn rs ra ns na nl (nI b) p q post := by
  have hv' := hv.vo (b := b) (o := o) ho
  have hb' : b < vo v b o 13 0 := by rw [vo_f (by decide) (by decide)]; exact hb
  refine c_play hC hv'.1 hK (fun n1 a1 l1 hPl => ?_)
  refine c_costOf (w := 1) hC hv'.1 hPl.2.2.2 hb' (by decide) (c_costOf (w := 0) hC hv'.1 hPl.2.2.2 hb' (by decide) (h _ _ _ hPl.2.1))
theorem c_careless {v : Rl} (hv : okR v) (hC : RelC v rs ra) (hK : NOK ns na nl) (rs2 : A1) (ra2 : A2) {b : Nat} (hb : b < v 13 0) {a : Nat} (ha : a ≤ 9999) (q : Int32) {post : Int32 → A1 → A2 → A1 → A2 → L2 → Prop} (h : ∀ rs' ra' ns' na' nl' u, RelC u rs' ra' → (∀ o, vo u b o = vo v b o) → BOK ra' → NOK ns' na' nl' → post (oN 0 (cO v b (nI a) q (nO v))) rs' ra' ns' na' nl') : P_X11_carelessOption rs ra rs2 ra2 ns na nl (nI b) (nI a) q post := by
  have h13 := ok13 hv.1
  have h12 := ok12 hv.1
  have hnO : nO v = 2 * (v 12 0 + 1) := rfl
  have z := told_of hv hb
  refine c_copyFrom hC hv.1 (fun rs' ra' hC1 hB1 _ => ?_)
  have L : ∀ (k i : Nat) (rx : A2) (nx : A1) (ax : A2) (lx : L2) (u : Rl), i + k = nO v → RelC u rs' rx → (∀ o, vo u b o = vo v b o) → NOK nx ax lx → P_X11_carelessOption_22 rs ra (nI b) (nI a) q post rs' (k + 1) (oN 0 (cO v b (nI a) q i)) (oV 9223372036854775807 (cO v b (nI a) q i)) (nI i) rx nx ax lx := by
    intro k
    induction k with
    | zero =>
      intro i rx nx ax lx u hi q1 q2 q3
      obtain rfl : i = nO v := by omega
      unfold P_X11_carelessOption_22 P_X11_carelessOption_22_b
      exact c_options hC1 hv.1 z ⟨fun _ => h _ _ _ _ _ u q1 q2 q1.bok q3, fun c => absurd (nI_le (Nat.le_refl _) (by omega)) c⟩
    | succ k ih =>
      intro i rx nx ax lx u hi q1 q2 q3
      unfold P_X11_carelessOption_22 P_X11_carelessOption_22_b
      refine c_options hC1 hv.1 z ⟨fun c => absurd ((nI_leI (by omega) (by omega)).mp c) (by omega), fun _ => ?_⟩
      refine c_setOption q1 (by omega) (by omega) (fun loc mar hC' => ?_)
      rw [q2] at hC'
      refine c_coveredOn hv hb (by omega) hC' q3 _ _ (fun n1 a1 l1 hK1 => ?_)
      have go := ih (i + 1) (va_up (va_up rx 7 loc) 8 mar) n1 a1 l1 (vo v b i) (by omega) hC' (fun o => vo_vo v b i o) hK1
      rw [nI_1]
      exact mn_c (A := fun n l => P_X11_carelessOption_22 rs ra (nI b) (nI a) q post rs' (k + 1) n l (nI (i + 1)) (va_up (va_up rx 7 loc) 8 mar) n1 a1 l1) (fC_top hv hb ha q (by omega)) 0 go
  exact ⟨nO v + 1, L (nO v) 0 ra' ns na nl v (by omega) hC1 (fun _ => rfl) hK⟩
theorem m_covers {v : Rl} (hv : okR v) (hM : RM v 0 ms ma) (mw : Nat → Int64) {b : Nat} (hb : b < v 13 0) (p q : Int32) {post : Int32 → A1 → (Nat → Int64) → A2 → L2 → Prop} (h : ∀ mt mw' mb mk, RM v 0 mt mb → MG ms ma ml mt mb mk → mw' 3 = oV (mw 3) (cO v b p q (nO v)) → post (oN (-1) (cO v b p q (nO v))) mt mw' mb mk) : P_X12_covers ms mw ma ml (nI b) p q post := by
  have h13 := ok13 hv.1
  have h12 := ok12 hv.1
  have hnO : nO v = 2 * (v 12 0 + 1) := rfl
  have hol := opt_lt hv.1 hb
  refine m_optionOf hM.1 hv.1 hb ?_
  have L : ∀ (k i : Nat) (mt : A1) (mw' : Nat → Int64) (mb : A2) (mk : L2) (u : Rl), i + k = nO v → RM u 0 mt mb → u 12 0 = v 12 0 → (∀ o, vo u b o = vo v b o) → MG ms ma ml mt mb mk → mw' 3 = oV (mw 3) (cO v b p q i) → P_X12_covers_13 (nI b) p q post (fun (x4_ : Int32) (x5_ : Int32) (ms : Nat → Int32) (mw : Nat → Int64) (ma : Nat → Nat → Int32) (ml : Nat → Nat → Int64) => P_X12_covers_98 (nI b) p q post x4_ x5_ ms mw ma ml) (nI (opt v b)) (k + 1) (oN (-1) (cO v b p q i)) (nI i) mt mw' mb mk := by
    intro k
    induction k with
    | zero =>
      intro i mt mw' mb mk u hi r1 r2 r3 r4 r5
      obtain rfl : i = nO v := by omega
      unfold P_X12_covers_13 P_X12_covers_13_b
      refine m_optionMany r1.1 ?_
      rw [r2]
      refine ⟨fun _ => m_setO r1 (by omega) (by omega) (fun a1 s1 s2 _ => ?_), fun c => absurd (nI_le (Nat.le_refl _) (by omega)) c⟩
      rw [r3, vo_opt (hv.1.2.2.2.2.1 b hb).2.2.2.2] at s1
      exact h _ _ _ _ s1 (r4.trans (s2 _ _)) r5
    | succ k ih =>
      intro i mt mw' mb mk u hi r1 r2 r3 r4 r5
      unfold P_X12_covers_13 P_X12_covers_13_b
      refine m_optionMany r1.1 ?_
      rw [r2]
      refine ⟨fun c => absurd ((nI_leI (by omega) (by omega)).mp c) (by omega), fun _ => m_setO r1 (by omega) (by omega) (fun a1 s1 s2 _ => ?_)⟩
      rw [r3] at s1
      have hv' := hv.vo (b := b) (o := i) (by omega)
      have hb' : b < vo v b i 13 0 := by rw [vo_f (by decide) (by decide)]; exact hb
      refine m_nightF hv'.1 hv'.2.1 s1 (fun m3 a3 l3 hF hMP => ?_)
      have hM3 := hF.rm s1
      refine m_paidOf hv'.1 hM3.1 hb' (m_lossOf hv'.1 hM3.1 hMP hb' (fun x hx => ?_))
      have hx' : x = fC v b p q i := hx
      have hw : ∀ w : Nat → Int64, w 3 = oV (mw 3) (cO v b p q (i + 1)) → P_X12_covers_13 (nI b) p q post (fun (x4_ : Int32) (x5_ : Int32) (ms : Nat → Int32) (mw : Nat → Int64) (ma : Nat → Nat → Int32) (ml : Nat → Nat → Int64) => P_X12_covers_98 (nI b) p q post x4_ x5_ ms mw ma ml) (nI (opt v b)) (k + 1) (oN (-1) (cO v b p q (i + 1))) (nI (i + 1)) m3 w a3 l3 := fun w e => ih (i + 1) m3 w a3 l3 (vo v b i) (by omega) hM3 (by rw [vo_f (by decide) (by decide)]) (fun o => vo_vo v b i o) ((r4.trans (s2 _ _)).trans hF.g) e
      rw [nI_1]
      have := mn_m (A := fun n l => ∀ w : Nat → Int64, w 3 = l → P_X12_covers_13 (nI b) p q post (fun (x4_ : Int32) (x5_ : Int32) (ms : Nat → Int32) (mw : Nat → Int64) (ma : Nat → Nat → Int32) (ml : Nat → Nat → Int64) => P_X12_covers_98 (nI b) p q post x4_ x5_ ms mw ma ml) (nI (opt v b)) (k + 1) n (nI (i + 1)) m3 w a3 l3) (s := cO v b p q i) (n := i) (x := fC v b p q i) (fun s hs => Nat.lt_trans (cO_at v b p q i s hs).1 (by omega)) (mw 3) hw
      rw [hx', r5]
      exact ⟨fun c => this.1 c _ up_at, fun c => ⟨fun c2 => (this.2 c).1 c2 _ up_at, fun c2 => (this.2 c).2 c2 _ r5⟩⟩
  exact ⟨nO v + 1, L (nO v) 0 ms mw ma ml v (by omega) hM rfl (fun _ => rfl) (MG.refl _ _ _) rfl⟩
theorem q_careless (hI : Inv us ua rs ra ra2 sa sl ns na nl yt im ms ma ml) (rs2 : A1) (mw : Nat → Int64) (p s c : Int32) : P_X11_careless rs ra rs2 ra2 ns na nl p s c (fun r _ ra2' ns' na' nl' => P_X12_careless ms mw ma ml p s c (fun r' mt _ mb mk => r = r' ∧ Inv us ua rs ra ra2' sa sl ns' na' nl' yt im mt mb mk)) := by
  obtain ⟨v, hv, hC, hM, hP, hY, hK, hB, F⟩ := hI.get
  have fin := F ra2 ns na nl _ _ _ (MG.refl _ _ _) hM.1 hB hK
  rcases cover_cases hC hM.1 hv.1 p s c with ⟨h1, h2⟩ | ⟨b, a, d, hb, ha, hd, rfl, rfl, rfl, h1, h2⟩
  · exact h1 _ (b0f (h2 _ (b0f ⟨rfl, fin⟩)))
  · refine h1 _ (b1f (c_careless hv hC hK rs2 ra2 hb ha _ (fun rs' ra' ns' na' nl' u hCu hu hB' hK' => h2 _ (b1f (m_covers hv hM mw hb _ _ (fun mt mw' mb mk hM' hG h3 => ⟨?_, F _ _ _ _ _ _ _ hG hM'.1 hB' hK'⟩))))))
    obtain ⟨q, hq⟩ : ∃ q, cO v b (nI a) (nI d) (nO v) = some q := by
      rw [show nO v = (nO v - 1) + 1 by unfold nO; omega]
      exact cO_some _ _ _ _ _
    rw [hq]
    rfl
theorem q_cover (hI : Inv us ua rs ra ra2 sa sl ns na nl yt im ms ma ml) (rs2 : A1) (mw : Nat → Int64) (p s c : Int32) : P_X11_cover rs ra rs2 ra2 ns na nl p s c (fun r _ ra2' ns' na' nl' => P_X12_cover ms mw ma ml p s c (fun r' mt _ mb mk => r = r' ∧ Inv us ua rs ra ra2' sa sl ns' na' nl' yt im mt mb mk)) := by
  obtain ⟨v, hv, hC, hM, hP, hY, hK, hB, F⟩ := hI.get
  have h13 := ok13 hv.1
  have h12 := ok12 hv.1
  have hnO : nO v = 2 * (v 12 0 + 1) := rfl
  have fin := F ra2 ns na nl _ _ _ (MG.refl _ _ _) hM.1 hB hK
  rcases cover_cases hC hM.1 hv.1 p s c with ⟨h1, h2⟩ | ⟨b, a, d, hb, ha, hd, rfl, rfl, rfl, h1, h2⟩
  · exact h1 _ (b0t (h2 _ (b0t ⟨rfl, fin⟩)))
  · obtain ⟨q, hq⟩ : ∃ q, cO v b (nI a) (nI d) (nO v) = some q := by
      rw [show nO v = (nO v - 1) + 1 by unfold nO; omega]
      exact cO_some _ _ _ _ _
    obtain ⟨hq1, hq2⟩ := cO_at _ _ _ _ _ _ hq
    refine h1 _ (b1t (c_careless hv hC hK rs2 ra2 hb ha _ (fun rs' ra' ns' na' nl' u hCu hu hB' hK' => ?_)))
    rw [hq]
    refine c_setOption hCu (by omega) (by omega) (fun loc mar hC' => ?_)
    rw [hu] at hC'
    refine c_coveredOn hv hb hq1 hC' hK' _ _ (fun n1 a1 l1 hK1 => ?_)
    refine h2 _ (b1t (m_covers hv hM mw hb _ _ (fun mt mw' mb mk hM' hG h3 => ⟨?_, F _ _ _ _ _ _ _ hG hM'.1 hC'.bok hK1⟩)))
    rw [h3, hq]
    exact hq2.symm
end CV
