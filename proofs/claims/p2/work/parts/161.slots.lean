/-! the rows of numbers, and the tape -/
section SL
variable {us : A1} {ua : A2} {rs : A1} {ra ra2 sa : A2} {sl : L2} {ns : A1} {na : A2} {nl : L2} {yt : Int32} {im : Img} {ms : A1} {ma : A2} {ml : L2}
theorem Inv.rows (hI : Inv us ua rs ra ra2 sa sl ns na nl yt im ms ma ml) {us' : A1} {ua' : A2} {sa' : A2} {sl' : L2} {mt : A1} {mb : A2} {mk : L2} (h1 : ∀ j, j ≠ 0 → j ≠ 1 → mt j = ms j) (h2 : ∀ j, 3 ≤ j → mb j = ma j) (hT : TapeR us' ua' mt mb) (hS : SlotR sa' sl' mb mk) : Inv us' ua' rs ra ra2 sa' sl' ns na nl yt im mt mb mk := by
  obtain ⟨-, ⟨v, hv, hC, hN, hTh, hP, hY⟩, hB, hK, -, hIm, ⟨h10, h11⟩, hy⟩ := hI
  refine ⟨hT, ⟨v, hv, hC, hN.fr (fun i a _ => h2 i a), hTh.eq (h2 12 (by decide)) (h2 13 (by decide)), hP.eq (h2 6 (by decide)) (h2 7 (by decide)), hY.eq (h2 16 (by decide))⟩, hB, hK, hS, fun k hk => ?_, ⟨(h1 10 (by decide) (by decide)).trans h10, (h1 11 (by decide) (by decide)).trans h11⟩, hy⟩
  have hh := hIm k hk
  cases hm : im k with
  | none =>
    rw [hm] at hh
    simp only at hh ⊢
    rw [h2 17 (by decide)]
    exact hh
  | some q =>
    rw [hm] at hh
    simp only at hh ⊢
    rw [h2 17 (by decide)]
    obtain ⟨g0, w, g1, g2, g3, g4, g5, g6⟩ := hh
    exact ⟨g0, w, g1, g2, g3.fr (fun i a _ => h2 i a), g4.eq (h2 12 (by decide)) (h2 13 (by decide)), g5.eq (h2 6 (by decide)) (h2 7 (by decide)), g6.eq (h2 16 (by decide))⟩
theorem TapeR.z (h : TapeR us ua ms ma) {mb : A2} (h2 : mb 2 = ma 2) : TapeR us ua (va_up ms 0 0) mb := by
  obtain ⟨a, b, n, c, d, e, f⟩ := h
  refine ⟨by rw [up_ne (by decide)]; exact a, by rw [up_ne (by decide)]; exact b, n, c, d, by rw [up_ne (by decide)]; exact e, fun i hi => by rw [h2]; exact f i hi⟩
theorem uL_at2 {f : Nat → Int64} {k : Nat} {x : Int64} : vp_updL f k x k = x := uL_at
/-- a slot is made, whatever zeroes it -/
theorem c_make {k n : Nat} (hk : k < 4) (hn : n ≤ 60) {sa : A2} (p2 : Int32) {post : A2 → L2 → Prop} (h : ∀ sl', (∀ i, i < n → sl' 0 (60 * k + i) = 0) → (∀ x, x < 60 * k ∨ 60 * k + n ≤ x → sl' 0 x = sl 0 x) → post (va_up (va_up sa 0 (upd (sa 0) k (nI n))) 1 (upd (sa 1) k (p2 + 1))) sl') : P_X6_make sa sl (nI k) p2 (nI n) post := by
  refine ⟨vp_in_nI hk (by decide), vp_in_nI hk (by decide), ?_⟩
  rw [nI_clamp (by omega)]
  have L : ∀ (d i : Nat) (sx : L2), i + d = n → (∀ j, j < i → sx 0 (60 * k + j) = 0) → (∀ x, x < 60 * k ∨ 60 * k + n ≤ x → sx 0 x = sl 0 x) → P_X6_make_19 (nI k) p2 (nI n) post (va_up (va_up sa 0 (upd (sa 0) k (nI n))) 1 (upd (sa 1) k (p2 + 1))) (d + 1) (nI i) sx := by
    intro d
    induction d with
    | zero =>
      intro i sx hi q1 q2
      obtain rfl : i = n := by omega
      exact ⟨fun _ => h sx q1 q2, fun z => absurd (nI_le (Nat.le_refl _) (by omega)) z⟩
    | succ d ih =>
      intro i sx hi q1 q2
      refine ⟨fun z => absurd ((nI_leI (by omega) (by omega)).mp z) (by omega), fun _ => ?_⟩
      rw [show nI k * (60 : Int32) + nI i = nI (60 * k + i) by rw [Nat.mul_comm]; simp only [fa_lit, pk_mul, nI_add], nI_clamp (by omega), nI_1]
      refine ⟨vp_in_nI (by omega) (by decide), ih (i + 1) _ (by omega) (fun j hj => ?_) (fun x hx => ?_)⟩
      · rw [up_at]
        by_cases c : j = i
        · rw [c, uL_at]
        · rw [uL_ne (by omega)]; exact q1 j (by omega)
      · rw [up_at, uL_ne (by omega)]; exact q2 x hx
  exact ⟨n + 1, L n 0 sl (by omega) (fun j hj => by omega) (fun _ _ => rfl)⟩
theorem m_make {k n : Nat} (hk : k < 4) (hn : n ≤ 60) (p2 : Int32) {mt : A1} {mb : A2} {post : Int32 → A1 → A2 → L2 → Prop} (h : ∀ mk, (∀ i, i < n → mk 0 (60 * k + i) = 0) → (∀ x, x < 60 * k ∨ 60 * k + n ≤ x → mk 0 x = ml 0 x) → post 0 mt mb mk) : ∃ m, P_X12_row_57 (nI k) p2 (nI n) post mt mb m 0 ml := by
  have L : ∀ (d i : Nat) (sx : L2), i + d = n → (∀ j, j < i → sx 0 (60 * k + j) = 0) → (∀ x, x < 60 * k ∨ 60 * k + n ≤ x → sx 0 x = ml 0 x) → P_X12_row_57 (nI k) p2 (nI n) post mt mb (d + 1) (nI i) sx := by
    intro d
    induction d with
    | zero =>
      intro i sx hi q1 q2
      obtain rfl : i = n := by omega
      exact ⟨fun _ => h sx q1 q2, fun z => absurd (nI_le (Nat.le_refl _) (by omega)) z⟩
    | succ d ih =>
      intro i sx hi q1 q2
      refine ⟨fun z => absurd ((nI_leI (by omega) (by omega)).mp z) (by omega), fun _ => ?_⟩
      rw [show (60 : Int32) * nI k + nI i = nI (60 * k + i) by simp only [fa_lit, pk_mul, nI_add], nI_clamp (by omega), nI_1]
      refine ⟨vp_in_nI (by omega) (by decide), ih (i + 1) _ (by omega) (fun j hj => ?_) (fun x hx => ?_)⟩
      · rw [up_at]
        by_cases c : j = i
        · rw [c, uL_at]
        · rw [uL_ne (by omega)]; exact q1 j (by omega)
      · rw [up_at, uL_ne (by omega)]; exact q2 x hx
  exact ⟨n + 1, L n 0 ml (by omega) (fun j hj => by omega) (fun _ _ => rfl)⟩
theorem q_row (hI : Inv us ua rs ra ra2 sa sl ns na nl yt im ms ma ml) (p w q : Int32) : P_X11_row sa sl p w q (fun r sa' sl' => P_X12_row ms ma ml p w q (fun r' mt mb mk => r = r' ∧ Inv us ua rs ra ra2 sa' sl' ns na nl yt im mt mb mk)) := by
  have fin : Inv us ua rs ra ra2 sa sl ns na nl yt im (va_up ms 0 0) ma ml := hI.rows (fun j a _ => up_ne a) (fun _ _ => rfl) (hI.1.z rfl) hI.2.2.2.2.1
  rcases ixs p (n := 4) (by decide) with hp | ⟨k, hk, rfl⟩
  · exact c_slot0 hp (b0f (m_slot0 hp (b0f ⟨rfl, fin⟩)))
  · rcases ixs w (n := 4) (by decide) with hw | ⟨j, hj, rfl⟩
    · have M : P_X12_row ms ma ml (nI k) w q (fun r' mt mb mk => -2 = r' ∧ Inv us ua rs ra ra2 sa sl ns na nl yt im mt mb mk) := m_slot hk (b1f (m_inL_bad (m := 3) hw (by decide) (b0f ⟨rfl, fin⟩)))
      exact c_slot hk (b1f ⟨fun _ => M, fun c => ⟨fun _ => M, fun c2 => absurd (hw.resolve_left c) c2⟩⟩)
    · have M : ∀ post : Int32 → A1 → A2 → L2 → Prop, (((q ≤ 60) → ((0 ≤ q) → vp_in (nI k) 4 ∧ (vp_in (nI k) 4 ∧ ((∃ n : Nat, P_X12_row_57 (nI k) (nI j) q post (va_up ms 0 0) (va_up (va_up ma 0 (upd (ma 0) (nI k).toNatClampNeg (nI j))) 1 (upd (ma 1) (nI k).toNatClampNeg q)) n 0 ml)))) ∧ ((¬ 0 ≤ q) → post (-3) (va_up ms 0 0) ma ml)) ∧ ((¬ q ≤ 60) → post (-2) (va_up ms 0 0) ma ml)) → P_X12_row ms ma ml (nI k) (nI j) q post := fun post hp => m_slot hk (b1f (m_inL_ok (m := 3) (by omega) (by decide) (b1f hp)))
      refine c_slot hk (b1f ⟨fun c => absurd c (nI_pos (by omega)), fun _ => ⟨fun c => absurd ((nI_leI (a := 4) (by decide) (by omega)).mp c) (by omega), fun _ => ⟨fun c60 => ⟨fun c0 => ?_, fun c0 => M _ ⟨fun _ => ⟨fun z => absurd z c0, fun _ => ⟨rfl, fin⟩⟩, fun z => absurd c60 z⟩⟩, fun c60 => M _ ⟨fun z => absurd z c60, fun _ => ⟨rfl, fin⟩⟩⟩⟩⟩)
      obtain ⟨n, hn, rfl⟩ : ∃ n, n ≤ 60 ∧ q = nI n := by
        have c1 := c60
        have c2 := c0
        rw [Int32.le_iff_toInt_le, show (60 : Int32).toInt = 60 from rfl] at c1
        rw [Int32.le_iff_toInt_le, show (0 : Int32).toInt = 0 from rfl] at c2
        refine ⟨q.toInt.toNat, by omega, ?_⟩
        apply Int32.toInt_inj.mp
        rw [nI_toInt (by omega)]
        omega
      refine c_make hk hn (nI j) (fun sl' s1 s2 => M _ ⟨fun _ => ⟨fun _ => ⟨vp_in_nI hk (by decide), vp_in_nI hk (by decide), ?_⟩, fun z => absurd c0 z⟩, fun z => absurd c60 z⟩)
      rw [nI_clamp (by omega)]
      refine m_make hk hn _ (fun mk m1 m2 => ⟨rfl, hI.rows (fun j a _ => up_ne a) (fun i hi => by rw [up_ne (by omega), up_ne (by omega)]) (hI.1.z (by rw [up_ne (by decide), up_ne (by decide)])) (fun k' hk' => ?_)⟩)
      obtain ⟨w', n', hw', hn', e1, e2, e3, e4, e5⟩ := hI.2.2.2.2.1 k' hk'
      rw [up_at, up_ne (show (0 : Nat) ≠ 1 by decide), up_at, up_at, up_ne (show (0 : Nat) ≠ 1 by decide), up_at]
      by_cases c : k' = k
      · subst c
        rw [u_at, u_at, u_at, u_at]
        refine ⟨j + 1, n, by omega, hn, by rw [nI_1], by rw [nI_pre (by omega)]; rfl, rfl, rfl, fun i hi => by rw [s1 i hi, m1 i hi]⟩
      · rw [u_ne c, u_ne c, u_ne c, u_ne c]
        refine ⟨w', n', hw', hn', e1, e2, e3, e4, fun i hi => ?_⟩
        rw [s2 _ (by omega), m2 _ (by omega)]
        exact e5 i hi
theorem cut_both (x : Int64) (q : Int32) : ∃ y, (∀ post : Int64 → Prop, post y → P_X6_cut x q post) ∧ ∀ post : Int64 → Prop, post y → P_X12_cut x q post := by
  by_cases h0 : q = 0
  · exact ⟨x.toInt32.toInt8.toInt32.toInt64, fun post h => ⟨fun _ => h, fun c => absurd (h0.symm.trans c) (by decide), fun c => absurd (h0.symm.trans c) (by decide), fun c => absurd h0 c⟩, fun post h => ⟨fun c => absurd h0 c, fun _ => h⟩⟩
  · by_cases h1 : q = 1
    · exact ⟨x.toInt32.toInt16.toInt32.toInt64, fun post h => ⟨fun c => absurd c h0, fun _ => h, fun c => absurd (h1.symm.trans c) (by decide), fun _ c => absurd h1 c⟩, fun post h => ⟨fun _ => ⟨fun c => absurd h1 c, fun _ => h⟩, fun c => absurd c h0⟩⟩
    · by_cases h2 : q = 2
      · exact ⟨x.toInt32.toInt64, fun post h => ⟨fun c => absurd c h0, fun c => absurd c h1, fun _ => h, fun _ _ c => absurd h2 c⟩, fun post h => ⟨fun _ => ⟨fun _ => ⟨fun c => absurd h2 c, fun _ => h⟩, fun c => absurd c h1⟩, fun c => absurd c h0⟩⟩
      · exact ⟨x, fun post h => ⟨fun c => absurd c h0, fun c => absurd c h1, fun c => absurd c h2, fun _ _ _ => h⟩, fun post h => ⟨fun _ => ⟨fun _ => ⟨fun _ => h, fun c => absurd c h2⟩, fun c => absurd c h1⟩, fun c => absurd c h0⟩⟩
theorem q_write (hI : Inv us ua rs ra ra2 sa sl ns na nl yt im ms ma ml) (p w : Int32) (x : Int64) : P_X11_write sa sl p w x (fun r sl' => P_X12_write ms ma ml p w x (fun r' mt mk => r = r' ∧ Inv us ua rs ra ra2 sa sl' ns na nl yt im mt ma mk)) := by
  have fin : Inv us ua rs ra ra2 sa sl ns na nl yt im (va_up ms 0 0) ma ml := hI.rows (fun j a _ => up_ne a) (fun _ _ => rfl) (hI.1.z rfl) hI.2.2.2.2.1
  rcases ixs p (n := 4) (by decide) with hp | ⟨k, hk, rfl⟩
  · exact c_slot0 hp (b0t (m_slot0 hp (b0t ⟨rfl, fin⟩)))
  · obtain ⟨wd, n, hw, hn, e1, e2, e3, e4, e5⟩ := hI.2.2.2.2.1 k hk
    have M : ∀ post : Int32 → A1 → L2 → Prop, (wd = 0 → post (-6) (va_up ms 0 0) ml) → (wd ≠ 0 → P_X12_in w.toInt64 0 ((nI n - 1).toInt64) (fun (r4 : Int32) => (((¬ r4 = 0) → vp_in (nI k) 4 ∧ (P_X12_cut x (nI wd - 1) (fun (r6 : Int64) => (vp_in ((60 * nI k) + w) 240 ∧ (post 0 (va_up ms 0 0) (va_up ml 0 (vp_updL (ml 0) (((60 * nI k) + w).toNatClampNeg) r6))))))) ∧ ((r4 = 0) → post (-7) (va_up ms 0 0) ml)))) → P_X12_write ms ma ml (nI k) w x post := by
      intro post a b
      refine m_slot hk (b1t ⟨vp_in_nI hk (by decide), ?_⟩)
      rw [nI_clamp (by omega), e2, e4, nI_m1 (by omega)]
      exact ⟨fun c => ⟨vp_in_nI hk (by decide), b c⟩, fun c => a c⟩
    refine c_slot hk (b1t (c_hasRow hk hw e1 (fun w0 => b0t (M _ (fun _ => ⟨rfl, fin⟩) (fun c => absurd w0 c))) (fun w0 => b1t ?_)))
    rcases ixs w (n := n) (by omega) with hq | ⟨j, hj, rfl⟩
    · have M2 : P_X12_write ms ma ml (nI k) w x (fun r' mt mk => -7 = r' ∧ Inv us ua rs ra ra2 sa sl ns na nl yt im mt ma mk) := M _ (fun c => absurd c w0) (fun _ => m_in_bad hq (by omega) (b0t ⟨rfl, fin⟩))
      refine ⟨fun _ => M2, fun c => ⟨vp_in_nI hk (by decide), ?_⟩⟩
      rw [nI_clamp (by omega), e3]
      refine ⟨fun c2 => ?_, fun _ => M2⟩
      exact absurd c2 (Int32.not_lt.mpr (hq.resolve_left c))
    · refine ⟨fun c => absurd c (nI_pos (by omega)), fun c => ⟨vp_in_nI hk (by decide), ?_⟩⟩
      rw [nI_clamp (by omega), e3]
      refine ⟨fun _ => ⟨vp_in_nI hk (by decide), ?_⟩, fun c2 => absurd (nI_lt hj (by omega)) c2⟩
      rw [nI_clamp (by omega), e1]
      obtain ⟨y, y1, y2⟩ := cut_both x (nI wd - 1)
      refine y1 _ ?_
      simp only []
      rw [show nI k * (60 : Int32) + nI j = nI (60 * k + j) by rw [Nat.mul_comm]; simp only [fa_lit, pk_mul, nI_add], nI_clamp (by omega)]
      refine ⟨vp_in_nI (by omega) (by decide), M _ (fun c => absurd c w0) (fun _ => m_in_ok hj (by omega) (b1t ⟨vp_in_nI hk (by decide), y2 _ ?_⟩))⟩
      simp only []
      rw [show (60 : Int32) * nI k + nI j = nI (60 * k + j) by simp only [fa_lit, pk_mul, nI_add], nI_clamp (by omega)]
      refine ⟨vp_in_nI (by omega) (by decide), trivial, hI.rows (fun j a _ => up_ne a) (fun _ _ => rfl) (hI.1.z rfl) (fun k' hk' => ?_)⟩
      obtain ⟨w', n', hw', hn', f1, f2, f3, f4, f5⟩ := hI.2.2.2.2.1 k' hk'
      refine ⟨w', n', hw', hn', f1, f2, f3, f4, fun i hi => ?_⟩
      rw [up_at, up_at]
      by_cases c : 60 * k' + i = 60 * k + j
      · rw [c, uL_at, uL_at]
      · rw [uL_ne c, uL_ne c]; exact f5 i hi
theorem hasAll_c {k n : Nat} (hk : k < 4) (hn : n ≤ 60) (e : sa 0 k = nI n) (p q : Int32) {post : Int32 → Prop} (h0 : ¬ (0 ≤ p.toInt ∧ 0 ≤ q.toInt ∧ p.toInt + q.toInt ≤ n) → post 0) (h1 : 0 ≤ p.toInt → 0 ≤ q.toInt → p.toInt + q.toInt ≤ n → post 1) : P_X6_hasAll sa (nI k) p q post := by
  have hp := fb_rng p
  have hq := fb_rng q
  unfold P_X6_hasAll
  rw [Int32.lt_iff_toInt_lt, Int32.lt_iff_toInt_lt, show (0 : Int32).toInt = 0 from rfl]
  refine ⟨fun c => h0 (by omega), fun c1 => ⟨fun c => h0 (by omega), fun c2 => ⟨vp_in_nI hk (by decide), ?_⟩⟩⟩
  rw [nI_clamp (by omega), e, nI_l (by omega), Int64.lt_iff_toInt_lt, pk_lT (by omega), fb_addL (by rw [Int32.toInt_toInt64, Int32.toInt_toInt64]; omega) (by rw [Int32.toInt_toInt64, Int32.toInt_toInt64]; omega), Int32.toInt_toInt64, Int32.toInt_toInt64]
  exact ⟨fun c => h0 (by omega), fun c => h1 (by omega) (by omega) (by omega)⟩
theorem nat_of {p : Int32} (h : 0 ≤ p.toInt) : ∃ n : Nat, p = nI n ∧ (n : Int) = p.toInt := by
  have := fb_rng p
  refine ⟨p.toInt.toNat, ?_, by omega⟩
  apply Int32.toInt_inj.mp
  rw [nI_toInt (by omega)]
  omega
theorem m_pasteLoop {s d n : Nat} (hs : s + n ≤ 240) (hd : d + n ≤ 240) (hn : n ≤ 60) {k1 p2 k3 p4 : Nat} (es : s = 60 * k1 + p2) (ed : d = 60 * k3 + p4) {mt : A1} {post : Int32 → A1 → L2 → Prop} (h : ∀ mk, (∀ i, i < n → mk 0 (d + i) = ml 0 (s + i)) → (∀ x, x < d ∨ d + n ≤ x → mk 0 x = ml 0 x) → post 0 mt mk) : ∃ m, P_X12_paste_118 ma (nI k1) (nI p2) (nI k3) (nI p4) (nI n) post (fun (ms : Nat → Int32) (x6_ : Int32) (ml : Nat → Nat → Int64) => (∃ n' : Nat, P_X12_paste_155 ma (nI k1) (nI p2) (nI k3) (nI p4) (nI n) post ms n' x6_ ml)) mt m 0 ml := by
  have I : ∀ (mx : L2), mx 0 = ml 0 → (∀ i, i < n → mx 1 i = ml 0 (s + i)) → ∀ (c i : Nat) (mk : L2), i + c = n → mk 1 = mx 1 → (∀ j, j < i → mk 0 (d + j) = ml 0 (s + j)) → (∀ x, x < d ∨ d + n ≤ x → mk 0 x = ml 0 x) → P_X12_paste_155 ma (nI k1) (nI p2) (nI k3) (nI p4) (nI n) post mt (c + 1) (nI i) mk := by
    intro mx m0 m1 c
    induction c with
    | zero =>
      intro i mk hi q0 q1 q2
      obtain rfl : i = n := by omega
      exact ⟨fun _ => h mk q1 q2, fun z => absurd (nI_le (Nat.le_refl _) (by omega)) z⟩
    | succ c ih =>
      intro i mk hi q0 q1 q2
      refine ⟨fun z => absurd ((nI_leI (by omega) (by omega)).mp z) (by omega), fun _ => ?_⟩
      rw [show (60 : Int32) * nI k3 + nI p4 + nI i = nI (60 * k3 + p4 + i) by simp only [fa_lit, pk_mul, nI_add], ← ed, nI_clamp (by omega), nI_clamp (by omega), nI_1]
      refine ⟨vp_in_nI (by omega) (by decide), vp_in_nI (by omega) (by decide), ih (i + 1) _ (by omega) (by rw [up_ne (by decide)]; exact q0) (fun j hj => ?_) (fun x hx => ?_)⟩
      · rw [up_at]
        by_cases e : j = i
        · rw [e, uL_at, q0]; exact m1 i (by omega)
        · rw [uL_ne (by omega)]; exact q1 j (by omega)
      · rw [up_at, uL_ne (by omega)]; exact q2 x hx
  have L : ∀ (c i : Nat) (mk : L2), i + c = n → mk 0 = ml 0 → (∀ j, j < i → mk 1 j = ml 0 (s + j)) → P_X12_paste_118 ma (nI k1) (nI p2) (nI k3) (nI p4) (nI n) post (fun (ms : Nat → Int32) (x6_ : Int32) (ml : Nat → Nat → Int64) => (∃ n' : Nat, P_X12_paste_155 ma (nI k1) (nI p2) (nI k3) (nI p4) (nI n) post ms n' x6_ ml)) mt (c + 1) (nI i) mk := by
    intro c
    induction c with
    | zero =>
      intro i mk hi q0 q1
      obtain rfl : i = n := by omega
      exact ⟨fun _ => ⟨i + 1, I mk q0 q1 i 0 mk (by omega) rfl (fun j hj => by omega) (fun x _ => by rw [q0])⟩, fun z => absurd (nI_le (Nat.le_refl _) (by omega)) z⟩
    | succ c ih =>
      intro i mk hi q0 q1
      refine ⟨fun z => absurd ((nI_leI (by omega) (by omega)).mp z) (by omega), fun _ => ?_⟩
      rw [show (60 : Int32) * nI k1 + nI p2 + nI i = nI (60 * k1 + p2 + i) by simp only [fa_lit, pk_mul, nI_add], ← es, nI_clamp (by omega), nI_clamp (by omega), nI_1]
      refine ⟨vp_in_nI (by omega) (by decide), vp_in_nI (by omega) (by decide), ih (i + 1) _ (by omega) (by rw [up_ne (by decide)]; exact q0) (fun j hj => ?_)⟩
      rw [up_at]
      by_cases e : j = i
      · rw [e, uL_at, q0]
      · rw [uL_ne e]; exact q1 j (by omega)
  exact ⟨n + 1, L n 0 ml (by omega) rfl (fun j hj => by omega)⟩
theorem q_paste (hI : Inv us ua rs ra ra2 sa sl ns na nl yt im ms ma ml) (a b c d e : Int32) : P_X11_paste sa sl a b c d e (fun r sl' => P_X12_paste ms ma ml a b c d e (fun r' mt mk => r = r' ∧ Inv us ua rs ra ra2 sa sl' ns na nl yt im mt ma mk)) := by
  have fin : Inv us ua rs ra ra2 sa sl ns na nl yt im (va_up ms 0 0) ma ml := hI.rows (fun j a _ => up_ne a) (fun _ _ => rfl) (hI.1.z rfl) hI.2.2.2.2.1
  rcases ixs a (n := 4) (by decide) with hp | ⟨k, hk, rfl⟩
  · exact c_slot0 hp (b0f (m_slot0 hp (b0f ⟨rfl, fin⟩)))
  · rcases ixs c (n := 4) (by decide) with hp | ⟨l, hl, rfl⟩
    · exact c_slot hk (b1f (c_slot0 hp (b0t (m_slot hk (b1f (m_slot0 hp (b0t ⟨rfl, fin⟩)))))))
    · obtain ⟨w1, n1, hw1, hn1, e1, e2, e3, e4, e5⟩ := hI.2.2.2.2.1 k hk
      obtain ⟨w2, n2, hw2, hn2, f1, f2, f3, f4, f5⟩ := hI.2.2.2.2.1 l hl
      have rb := fb_rng b
      have rd := fb_rng d
      have re := fb_rng e
      have M : ∀ post : Int32 → A1 → L2 → Prop, (w1 = 0 ∨ w2 = 0 → post (-6) (va_up ms 0 0) ml) → (w1 ≠ 0 → w2 ≠ 0 → w1 ≠ w2 → post (-8) (va_up ms 0 0) ml) → (w1 ≠ 0 → w1 = w2 → ¬ (0 ≤ b.toInt ∧ 0 ≤ d.toInt ∧ 0 ≤ e.toInt ∧ b.toInt + e.toInt ≤ n1 ∧ d.toInt + e.toInt ≤ n2) → post (-7) (va_up ms 0 0) ml) → (w1 ≠ 0 → w1 = w2 → 0 ≤ b.toInt → 0 ≤ d.toInt → 0 ≤ e.toInt → b.toInt + e.toInt ≤ n1 → d.toInt + e.toInt ≤ n2 → (∃ n : Nat, P_X12_paste_118 ma (nI k) b (nI l) d e post (fun (ms : Nat → Int32) (x6_ : Int32) (ml : Nat → Nat → Int64) => (∃ n : Nat, P_X12_paste_155 ma (nI k) b (nI l) d e post ms n x6_ ml)) (va_up ms 0 0) n 0 ml)) → P_X12_paste ms ma ml (nI k) b (nI l) d e post := by
        intro post h6 h8 h7 hgo
        refine m_slot hk (b1f (m_slot hl (b1t ⟨vp_in_nI hk (by decide), ?_⟩)))
        rw [nI_clamp (by omega), nI_clamp (by omega), e2, f2, e4, f4, nI_m1 (by omega), nI_m1 (by omega), Int32.lt_iff_toInt_lt, Int32.lt_iff_toInt_lt, Int32.lt_iff_toInt_lt, show (0 : Int32).toInt = 0 from rfl, nI_l (show n1 < 2 ^ 31 by omega), nI_l (show n2 < 2 ^ 31 by omega), Int64.lt_iff_toInt_lt, Int64.le_iff_toInt_le, pk_lT (by omega), pk_lT (by omega), fb_addL (by rw [Int32.toInt_toInt64, Int32.toInt_toInt64]; omega) (by rw [Int32.toInt_toInt64, Int32.toInt_toInt64]; omega), fb_addL (by rw [Int32.toInt_toInt64, Int32.toInt_toInt64]; omega) (by rw [Int32.toInt_toInt64, Int32.toInt_toInt64]; omega), Int32.toInt_toInt64, Int32.toInt_toInt64, Int32.toInt_toInt64]
        refine ⟨fun z => h6 (Or.inl z), fun z1 => ⟨vp_in_nI hl (by decide), fun z2 => ⟨vp_in_nI hk (by decide), vp_in_nI hl (by decide), fun z3 => ?_, fun z3 => ?_⟩, fun z => h6 (Or.inr z)⟩⟩
        · have ew : w1 = w2 := by
            have := congrArg (fun x : Int32 => (x + 1)) z3
            simp only [Int32.sub_add_cancel] at this
            exact (nI_eq (by omega) (by omega)).mp this
          exact ⟨fun q => h7 z1 ew (by omega), fun q1 => ⟨fun q => h7 z1 ew (by omega), fun q2 => ⟨fun q => h7 z1 ew (by omega), fun q3 => ⟨vp_in_nI hk (by decide), fun q => h7 z1 ew (by omega), fun q4 => ⟨vp_in_nI hl (by decide), fun q5 => hgo z1 ew (by omega) (by omega) (by omega) (by omega) q5, fun q => h7 z1 ew (by omega)⟩⟩⟩⟩⟩
        · exact h8 z1 z2 (fun ew => z3 (by rw [ew]))
      refine c_slot hk (b1f (c_slot hl (b1t (c_hasRow hk hw1 e1 (fun w0 => b0f (M _ (fun _ => ⟨rfl, fin⟩) (fun q => absurd w0 q) (fun q => absurd w0 q) (fun q => absurd w0 q))) (fun z1 => b1f (c_hasRow hl hw2 f1 (fun w0 => b0t (M _ (fun _ => ⟨rfl, fin⟩) (fun _ q => absurd w0 q) (fun q ew => absurd (ew.trans w0) q) (fun q ew => absurd (ew.trans w0) q))) (fun z2 => b1t ⟨vp_in_nI hk (by decide), vp_in_nI hl (by decide), ?_⟩)))))))
      rw [nI_clamp (by omega), nI_clamp (by omega), e1, f1, nI_eq (by omega) (by omega)]
      refine ⟨fun ew => b0t (M _ (fun q => q.elim (fun q => absurd q z1) (fun q => absurd q z2)) (fun _ _ _ => ⟨rfl, fin⟩) (fun _ q => absurd q ew) (fun _ q => absurd q ew)), fun ew => b1t ?_⟩
      have M7 : ∀ sl' : L2, sl' = sl → ¬ (0 ≤ b.toInt ∧ 0 ≤ d.toInt ∧ 0 ≤ e.toInt ∧ b.toInt + e.toInt ≤ n1 ∧ d.toInt + e.toInt ≤ n2) → P_X12_paste ms ma ml (nI k) b (nI l) d e (fun r' mt mk => -7 = r' ∧ Inv us ua rs ra ra2 sa sl ns na nl yt im mt ma mk) := fun _ _ hb => M _ (fun q => q.elim (fun q => absurd q z1) (fun q => absurd q z2)) (fun _ _ q => absurd ew q) (fun _ _ _ => ⟨rfl, fin⟩) (fun _ _ g1 g2 g3 g4 g5 => absurd ⟨g1, g2, g3, g4, g5⟩ hb)
      refine hasAll_c hk hn1 e3 b e (fun q => b0f (M7 sl rfl (fun r => q ⟨r.1, r.2.2.1, r.2.2.2.1⟩))) (fun g1 g3 g4 => b1f (hasAll_c hl hn2 f3 d e (fun q => b0t (M7 sl rfl (fun r => q ⟨r.2.1, r.2.2.1, r.2.2.2.2⟩))) (fun g2 _ g5 => b1t ?_)))
      obtain ⟨nb, rfl, hnb⟩ := nat_of g1
      obtain ⟨nd, rfl, hnd⟩ := nat_of g2
      obtain ⟨ne, rfl, hne⟩ := nat_of g3
      unfold P_X6_copy
      rw [show nI k * (60 : Int32) + nI nb = nI (60 * k + nb) by rw [Nat.mul_comm]; simp only [fa_lit, pk_mul, nI_add], show nI l * (60 : Int32) + nI nd = nI (60 * l + nd) by rw [Nat.mul_comm]; simp only [fa_lit, pk_mul, nI_add], nI_clamp (by omega), nI_clamp (by omega), nI_clamp (by omega)]
      refine ⟨⟨nI_pos (by omega), nI_pos (by omega), nI_pos (by omega), by omega, by omega⟩, M _ (fun q => q.elim (fun q => absurd q z1) (fun q => absurd q z2)) (fun _ _ q => absurd ew q) (fun _ _ q => absurd ⟨g1, g2, g3, g4, g5⟩ q) (fun _ _ _ _ _ _ _ => ?_)⟩
      refine m_pasteLoop (s := 60 * k + nb) (d := 60 * l + nd) (by omega) (by omega) (by omega) rfl rfl (fun mk m1 m2 => ⟨rfl, hI.rows (fun j a _ => up_ne a) (fun _ _ => rfl) (hI.1.z rfl) (fun k' hk' => ?_)⟩)
      obtain ⟨w', n', hw', hn', t1, t2, t3, t4, t5⟩ := hI.2.2.2.2.1 k' hk'
      refine ⟨w', n', hw', hn', t1, t2, t3, t4, fun i hi => ?_⟩
      rw [up_at]
      unfold va_cpy
      by_cases z : 60 * l + nd ≤ 60 * k' + i ∧ 60 * k' + i < 60 * l + nd + ne
      · rw [if_pos z]
        have := m1 (60 * k' + i - (60 * l + nd)) (by omega)
        rw [show 60 * l + nd + (60 * k' + i - (60 * l + nd)) = 60 * k' + i by omega] at this
        rw [this, show 60 * k + nb + (60 * k' + i - (60 * l + nd)) = 60 * k + (nb + (60 * k' + i - (60 * l + nd))) by omega]
        exact e5 _ (by omega)
      · rw [if_neg z, m2 _ (by omega)]
        exact t5 i hi
end SL
