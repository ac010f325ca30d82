/-! what a year held; several years; counts -/
theorem sumN_at {f : Nat → Nat} {b : Nat} : ∀ {n : Nat}, b < n → f b ≤ sumN f n
  | 0, h => absurd h (Nat.not_lt_zero b)
  | n + 1, h => by
    rw [sumN]
    by_cases c : b = n
    · rw [c]; omega
    · have := sumN_at (f := f) (b := b) (n := n) (by omega)
      omega
def yT (v : Rl) (s y : Nat) : Nat := sumN (yr v (CR v (s + y)) (v 1 0)).1 10
def yB (v : Rl) (s y k : Nat) : Nat := sumN (fun b => (yr v (CR v (s + y)) (v 1 0)).1 b * v 20 b) k
def yM (v : Rl) (s : Nat) : Nat → Nat
  | 0 => 0
  | n + 1 => max (yM v s n) (yT v s n)
def yA (v : Rl) (s n : Nat) : Nat := sumN (yT v s) n
def yW (v : Rl) (s n : Nat) : Nat := sumN (fun y => yB v s y (v 13 0)) n
def yQ (v : Rl) (s q n : Nat) : Nat := if q = 0 then yA v s n else if q = 1 then yM v s n else yW v s n
theorem yT_le {v : Rl} (hv : okV v) (s y : Nat) : yT v s y ≤ 660 := by
  have := yr_le (ok13 hv) (CR v (s + y)) (v 1 0)
  have := ok1 hv
  unfold yT
  omega
theorem yM_le {v : Rl} (hv : okV v) (s : Nat) : ∀ n, yM v s n ≤ 660
  | 0 => Nat.zero_le _
  | n + 1 => by
    have := yM_le hv s n
    have := yT_le hv s n
    rw [yM]
    omega
theorem yb_le {v : Rl} (hv : okV v) (s y : Nat) {b : Nat} (hb : b < 10) : (yr v (CR v (s + y)) (v 1 0)).1 b ≤ 660 := Nat.le_trans (sumN_at hb) (yT_le hv s y)
section Y2
variable {us : A1} {ua : A2} {rs : A1} {ra ra2 sa : A2} {sl : L2} {ns : A1} {na : A2} {nl : L2} {yt : Int32} {im : Img} {ms : A1} {ma : A2} {ml : L2}
theorem q_taken (hI : Inv us ua rs ra ra2 sa sl ns na nl yt im ms ma ml) (p : Int32) : P_X11_taken rs ra p (fun r => P_X12_taken ms ma p (fun r' mt => r = r' ∧ Inv us ua rs ra ra2 sa sl ns na nl yt im mt ma ml)) := by
  obtain ⟨v, hv, hC, hM, hP, hY, hK, hB, F⟩ := hI.get
  have h13 := ok13 hv.1
  have h15 : v 15 0 ≤ 1 := hv.1.1.2.2.2.2.2.2.2.2.2.2.2.2.2.2.2.1
  have fin := F ra2 ns na nl _ _ _ (MG.refl _ _ ml) hM.1 hB hK
  have e16 : ma 16 0 = nI (v 15 0) := hY.1
  rcases ixs p (n := v 13 0) (by omega) with h | ⟨b, hb, rfl⟩
  · exact c_hasB0 hC h (b0t (m_isB0 hM.1 hv.1 h (b0t ⟨rfl, fin⟩)))
  · refine c_hasB hC hv.1 hb (b1t ?_)
    rw [rc_s hC 15]
    rcases Nat.lt_or_ge (v 15 0) 1 with z | z
    · have z0 : v 15 0 = 0 := by omega
      rw [z0] at e16 ⊢
      exact ⟨fun _ => m_isB hM.1 hv.1 hb (b1t ⟨fun c => absurd e16 c, fun _ => ⟨rfl, fin⟩⟩), fun c => absurd rfl c⟩
    · have z1 : v 15 0 = 1 := by omega
      rw [z1] at e16 ⊢
      refine ⟨fun c => absurd c (by decide), fun _ => ⟨vp_in_nI (by omega) (by decide), m_isB hM.1 hv.1 hb (b1t ⟨fun _ => ?_, fun c => absurd (e16.symm.trans c) (by decide)⟩)⟩⟩
      rw [show (1 : Int32) + nI b = nI (1 + b) by simp only [fa_lit, nI_add], nI_clamp (by omega), nI_clamp (by omega)]
      refine ⟨vp_in_nI (by omega) (by decide), ?_, fin⟩
      have := (hY.2 z1).1 b (by omega)
      rw [show 17 * 0 + 1 + b = 1 + b by omega] at this
      rw [this]
      exact (hC.2.2.2.2.2.2.1 z1).1 b (by omega)
theorem q_took (hI : Inv us ua rs ra ra2 sa sl ns na nl yt im ms ma ml) (p : Int32) : P_X11_took rs ra p (fun r => P_X12_took ms ma p (fun r' mt => r = r' ∧ Inv us ua rs ra ra2 sa sl ns na nl yt im mt ma ml)) := by
  obtain ⟨v, hv, hC, hM, hP, hY, hK, hB, F⟩ := hI.get
  have h14 := ok14 hv.1
  have h15 : v 15 0 ≤ 1 := hv.1.1.2.2.2.2.2.2.2.2.2.2.2.2.2.2.2.1
  have fin := F ra2 ns na nl _ _ _ (MG.refl _ _ ml) hM.1 hB hK
  have e16 : ma 16 0 = nI (v 15 0) := hY.1
  rcases ixs p (n := v 14 0) (by omega) with h | ⟨b, hb, rfl⟩
  · exact c_hasT0 hC h (b0t (m_isT0 hM.2.1 hv.1 h (b0t ⟨rfl, fin⟩)))
  · refine c_hasT hC hv.1 hb (b1t ?_)
    rw [rc_s hC 15]
    rcases Nat.lt_or_ge (v 15 0) 1 with z | z
    · have z0 : v 15 0 = 0 := by omega
      rw [z0] at e16 ⊢
      exact ⟨fun _ => m_isT hM.2.1 hv.1 hb (b1t ⟨fun c => absurd e16 c, fun _ => ⟨rfl, fin⟩⟩), fun c => absurd rfl c⟩
    · have z1 : v 15 0 = 1 := by omega
      rw [z1] at e16 ⊢
      refine ⟨fun c => absurd c (by decide), fun _ => ⟨vp_in_nI (by omega) (by decide), m_isT hM.2.1 hv.1 hb (b1t ⟨fun _ => ?_, fun c => absurd (e16.symm.trans c) (by decide)⟩)⟩⟩
      rw [show (11 : Int32) + nI b = nI (11 + b) by simp only [fa_lit, nI_add], nI_clamp (by omega), nI_clamp (by omega)]
      refine ⟨vp_in_nI (by omega) (by decide), ?_, fin⟩
      have := (hY.2 z1).2 b (by omega)
      rw [show 17 * 0 + 11 + b = 11 + b by omega] at this
      rw [this]
      exact (hC.2.2.2.2.2.2.1 z1).2 b (by omega)
theorem c_worthTaken {v : Rl} (hv : okV v) (hC : RelC v rs ra) {T : Nat → Nat} {et : Nat → Int32} (hT : ∀ b, b < 10 → et b = nI (T b)) (hl : ∀ b, b < 10 → T b ≤ 660) {post : Int64 → Prop} (h : post (lN (sumN (fun b => T b * v 20 b) (v 13 0)))) : P_X4_worthTaken rs ra et post := by
  have h13 := ok13 hv
  have L : ∀ (k i : Nat), i + k = v 13 0 → P_X4_worthTaken_5 rs ra et post (k + 1) (lN (sumN (fun b => T b * v 20 b) i)) (nI i) := by
    intro k
    induction k with
    | zero =>
      intro i hi
      obtain rfl : i = v 13 0 := by omega
      exact ⟨fun _ => h, fun c => absurd ((cmp_le (rc_s hC 13) (by omega) (by omega)).mpr (Nat.le_refl _)) c⟩
    | succ k ih =>
      intro i hi
      have b20 := (hv.2.2.2.2.1 i (by omega)).1
      have bT := hl i (by omega)
      refine ⟨fun c => absurd ((cmp_le (rc_s hC 13) (by omega) (by omega)).mp c) (by omega), fun _ => ⟨vp_in_nI (by omega) (by decide), vp_in_nI (by omega) (by decide), fun x hx => ?_⟩⟩
      rw [nI_clamp (by omega), hT i (by omega), (hC.2.2.2.2.1 i (by omega)).1, nI_l (by omega), nI_l (by omega), lN_mul, lN_add] at hx
      rw [hx, nI_1]
      exact ih (i + 1) (by omega)
  exact ⟨v 13 0 + 1, L (v 13 0) 0 (by omega)⟩
theorem m_in1 {p : Int32} {post : Int32 → Prop} (h0 : p < 1 ∨ 100 < p → post 0) (h1 : ¬ p < 1 → ¬ 100 < p → post 1) : P_X12_in p.toInt64 1 100 post := by
  unfold P_X12_in
  rw [show (1 : Int64) = (1 : Int32).toInt64 from rfl, show (100 : Int64) = (100 : Int32).toInt64 from rfl, fa_wide_lt, fa_wide_lt]
  exact ⟨fun c => h0 (Or.inl c), fun c => ⟨fun d => h0 (Or.inr d), fun d => h1 c d⟩⟩
theorem m_years {v : Rl} (hv : okR v) (hM : RM v 0 ms ma) (mw : Nat → Int64) {s : Nat} (hs : s ≤ 2000000000) {n : Nat} (hn : n ≤ 100) {q : Nat} (hq : q < 3) {post : Int64 → A1 → (Nat → Int64) → A2 → Prop} (h : ∀ mt mw' mb, RM v 0 mt mb → MG ms ma ml mt mb ml → post (lN (yQ v s q n)) mt mw' mb) : ∃ k, P_X12_years_53 (nI s) (nI n) (nI q) post k 0 0 ms mw ma := by
  have h13 := ok13 hv.1
  have L : ∀ (k i : Nat) (mt : A1) (mw' : Nat → Int64) (mb : A2), i + k = n → RM v 0 mt mb → MG ms ma ml mt mb ml → P_X12_years_53 (nI s) (nI n) (nI q) post (k + 1) (lN (yQ v s q i)) (nI i) mt mw' mb := by
    intro k
    induction k with
    | zero =>
      intro i mt mw' mb hi q1 q2
      obtain rfl : i = n := by omega
      exact ⟨fun _ => h _ _ _ q1 q2, fun c => absurd (nI_le (Nat.le_refl _) (by omega)) c⟩
    | succ k ih =>
      intro i mt mw' mb hi q1 q2
      refine ⟨fun c => absurd ((nI_leI (by omega) (by omega)).mp c) (by omega), fun _ => ?_⟩
      rw [nI_l (show s < 2 ^ 31 by omega), nI_l (show i < 2 ^ 31 by omega), lN_add]
      refine m_draws (ml := ml) hv q1 mw' (by omega) (fun m2 w2 a2 hM2 hG2 hY2 => m_drawnAll hY2 ?_)
      have go := fun w => ih (i + 1) m2 w a2 (by omega) hM2 (q2.trans hG2)
      have hT := yT_le hv.1 s i
      have hMl := yM_le hv.1 s i
      have hT2 : sumN (yr v (CR v (s + i)) (v 1 0)).1 10 = yT v s i := rfl
      rw [hT2, nI_1, nI_l (by omega)]
      unfold yQ at go ⊢
      refine ⟨fun c => ⟨fun c2 => ?_, fun c2 => ?_⟩, fun c x hx => ?_⟩
      · have q0 : q ≠ 0 := fun e => c (by rw [e]; rfl)
        have q1' : q ≠ 1 := fun e => c2 (by rw [e]; rfl)
        rw [if_neg q0, if_neg q1'] at go ⊢
        have Li : ∀ (d j : Nat), j + d = v 13 0 → P_X12_years_120 (nI s) (nI n) (nI q) post (P_X12_years_53 (nI s) (nI n) (nI q) post (k + 1)) (nI i) m2 w2 a2 (d + 1) (lN (yW v s i + yB v s i j)) (nI j) := by
          intro d
          induction d with
          | zero =>
            intro j hj
            obtain rfl : j = v 13 0 := by omega
            refine ⟨fun _ => ?_, fun c => absurd ((cmp_le hM2.1.1.2.2.2.2 (by omega) (by omega)).mpr (Nat.le_refl _)) c⟩
            rw [nI_1]
            exact go w2
          | succ d id =>
            intro j hj
            have b20 := (hv.1.2.2.2.2.1 j (by omega)).1
            have bT := yb_le hv.1 s i (b := j) (by omega)
            have e20 := (hM2.1.2.2.2.1 j (by omega)).1
            refine ⟨fun c => absurd ((cmp_le hM2.1.1.2.2.2.2 (by omega) (by omega)).mp c) (by omega), fun _ => ⟨vp_in_nI (by omega) (by decide), m_at0 ⟨vp_in_nI (by omega) (by decide), fun x hx => ?_⟩⟩⟩
            rw [nI_clamp (by omega), nI_clamp (by omega), hY2.1 j (by omega), e20, nI_l (by omega), nI_l (by omega), lN_mul, lN_add] at hx
            rw [hx, nI_1, Nat.add_assoc]
            exact id (j + 1) (by omega)
        exact ⟨v 13 0 + 1, Li (v 13 0) 0 (by omega)⟩
      · have q1' : q = 1 := (nI_eq (b := 1) (by omega) (by decide)).mp c2
        have q0 : q ≠ 0 := by omega
        rw [if_neg q0, if_pos q1'] at go ⊢
        rw [yM] at go
        rw [lN_le (by omega) (by omega)]
        refine ⟨fun z => ?_, fun z x hx => ?_⟩
        · rw [Nat.max_eq_left z] at go
          exact go w2
        · rw [Nat.max_eq_right (by omega)] at go
          rw [hx]
          exact go w2
      · have q0 : q = 0 := (nI_eq (b := 0) (by omega) (by decide)).mp c
        rw [if_pos q0] at go hx
        rw [lN_add] at hx
        rw [hx]
        exact go w2
  have := L n 0 ms mw ma (by omega) hM (MG.refl _ _ _)
  have z : lN (yQ v s q 0) = 0 := by
    unfold yQ
    split
    · rfl
    · split <;> rfl
  rw [z] at this
  exact ⟨n + 1, this⟩
theorem q_years (hI : Inv us ua rs ra ra2 sa sl ns na nl yt im ms ma ml) (mw : Nat → Int64) (et eo : Nat → Int32) (p w q : Int32) : P_X11_years rs ra ns na yt et eo p w q (fun r ns' na' yt' _ _ => P_X12_years ms mw ma p w q (fun r' mt _ mb => r = r' ∧ Inv us ua rs ra ra2 sa sl ns' na' nl yt' im mt mb ml)) := by
  obtain ⟨v, hv, hC, hM, hP, hY, hK, hB, F⟩ := hI.get
  have fin := F ra2 ns na nl _ _ _ (MG.refl _ _ ml) hM.1 hB hK
  -- where the answer is -2
  have bad : (∀ post : Int64 → A1 → A2 → Int32 → (Nat → Int32) → (Nat → Int32) → Prop, post (-2) ns na yt et eo → P_X11_years rs ra ns na yt et eo p w q post) → (∀ post : Int64 → A1 → (Nat → Int64) → A2 → Prop, post (-2) (va_up ms 0 0) mw ma → P_X12_years ms mw ma p w q post) → P_X11_years rs ra ns na yt et eo p w q (fun r ns' na' yt' _ _ => P_X12_years ms mw ma p w q (fun r' mt _ mb => r = r' ∧ Inv us ua rs ra ra2 sa sl ns' na' nl yt' im mt mb ml)) := fun a b => a _ (b _ ⟨rfl, fin⟩)
  rcases seed_cases p with ⟨h1, h2⟩ | ⟨s, hs, rfl, h1, h2⟩
  · refine bad (fun post hp => ?_) (fun post hp => h2 _ (b0f hp))
    rcases Nat.eq_zero_or_pos (v 2 0) with z | z
    · exact c_told0 hC z (b0f hp)
    · exact c_told hC hv.1 z (b1f (h1 _ (b0f hp)))
  · by_cases w1 : w < 1
    · refine bad (fun post hp => ?_) (fun post hp => h2 _ (b1f (m_in1 (fun _ => b0f hp) (fun c => absurd w1 c))))
      rcases Nat.eq_zero_or_pos (v 2 0) with z | z
      · exact c_told0 hC z (b0f hp)
      · exact c_told hC hv.1 z (b1f (h1 _ (b1f ⟨fun _ => hp, fun c => absurd w1 c⟩)))
    · by_cases w2 : 100 < w
      · refine bad (fun post hp => ?_) (fun post hp => h2 _ (b1f (m_in1 (fun _ => b0f hp) (fun _ c => absurd w2 c))))
        rcases Nat.eq_zero_or_pos (v 2 0) with z | z
        · exact c_told0 hC z (b0f hp)
        · exact c_told hC hv.1 z (b1f (h1 _ (b1f ⟨fun c => absurd c w1, fun _ => ⟨fun _ => hp, fun c => absurd w2 c⟩⟩)))
      · rcases ixs q (n := 3) (by decide) with hq | ⟨j, hj, rfl⟩
        · refine bad (fun post hp => ?_) (fun post hp => h2 _ (b1f (m_in1 (fun c => c.elim (fun c => absurd c w1) (fun c => absurd c w2)) (fun _ _ => b1f (m_inL_bad (m := 2) hq (by decide) (b0f hp))))))
          rcases Nat.eq_zero_or_pos (v 2 0) with z | z
          · exact c_told0 hC z (b0f hp)
          · refine c_told hC hv.1 z (b1f (h1 _ (b1f ⟨fun c => absurd c w1, fun _ => ⟨fun c => absurd c w2, fun _ => ⟨fun _ => hp, fun c => ⟨fun c2 => ?_, fun _ => hp⟩⟩⟩⟩)))
            exfalso
            have h3 := hq.resolve_left c
            rw [Int32.le_iff_toInt_le, nI_toInt (by decide)] at h3
            rw [Int32.le_iff_toInt_le, show (2 : Int32).toInt = 2 from rfl] at c2
            omega
        · rcases Nat.eq_zero_or_pos (v 2 0) with z | z
          · exact bad (fun post hp => c_told0 hC z (b0f hp)) (fun post hp => h2 _ (b1f (m_in1 (fun c => c.elim (fun c => absurd c w1) (fun c => absurd c w2)) (fun _ _ => b1f (m_inL_ok (m := 2) (by omega) (by decide) (b1f (m_rail0 hM.1 hv.1 z (b0t hp))))))))
          · obtain ⟨n, hn, rfl⟩ : ∃ n, n ≤ 100 ∧ w = nI n := by
              rw [Int32.lt_iff_toInt_lt, show (1 : Int32).toInt = 1 from rfl] at w1
              rw [Int32.lt_iff_toInt_lt, show (100 : Int32).toInt = 100 from rfl] at w2
              refine ⟨w.toInt.toNat, by omega, ?_⟩
              apply Int32.toInt_inj.mp
              rw [nI_toInt (by omega)]
              omega
            refine c_told hC hv.1 z (b1f (h1 _ (b1f ⟨fun c => absurd c w1, fun _ => ⟨fun c => absurd c w2, fun _ => ⟨fun c => absurd c (nI_pos (by omega)), fun _ => ⟨fun _ => c_lookAt hC hv.1 (fun nb hN hb => ?_), fun c => absurd (nI_le (b := 2) (by omega) (by decide)) c⟩⟩⟩⟩)))
            have hK1 := hK.look hb (nI (v 13 0))
            have M : ∀ (r : Int64) (yt' : Int32), yt' = 0 ∨ yt' = 1 → r = lN (yQ v s j n) → P_X12_years ms mw ma (nI s) (nI n) (nI j) (fun r' mt _ mb => r = r' ∧ Inv us ua rs ra ra2 sa sl (va_up ns 0 (nI (v 13 0))) nb nl yt' im mt mb ml) := by
              intro r yt' hyt hr
              refine h2 _ (b1f (m_in1 (fun c => c.elim (fun c => absurd c w1) (fun c => absurd c w2)) (fun _ _ => b1f (m_inL_ok (m := 2) (by omega) (by decide) (b1f (m_rail hM.1 hv.1 z (b1t (m_years (ml := ml) hv hM mw hs hn hj (fun mt mw' mb hM' hG => ⟨hr, ?_⟩)))))))))
              obtain ⟨a1, a2, a3, a4, a5, a6, a7, a8⟩ := F ra2 (va_up ns 0 (nI (v 13 0))) nb nl mt mb ml hG hM'.1 hB hK1
              exact ⟨a1, a2, a3, a4, a5, a6, a7, hyt⟩
            have L : ∀ (k i : Nat) (y1 : Int32) (y2 y3 : Nat → Int32), i + k = n → y1 = 0 ∨ y1 = 1 → P_X11_years_64 rs ra (nI s) (nI n) (nI j) (fun r ns' na' yt' _ _ => P_X12_years ms mw ma (nI s) (nI n) (nI j) (fun r' mt _ mb => r = r' ∧ Inv us ua rs ra ra2 sa sl ns' na' nl yt' im mt mb ml)) (fun (x4_ : Int64) (x6_ : Int64) (x8_ : Int64) (ns : Nat → Int32) (na : Nat → Nat → Int32) (y_isThere : Int32) (y_taken : Nat → Int32) (y_took : Nat → Int32) => P_X11_years_131 rs ra (nI s) (nI n) (nI j) (fun r ns' na' yt' _ _ => P_X12_years ms mw ma (nI s) (nI n) (nI j) (fun r' mt _ mb => r = r' ∧ Inv us ua rs ra ra2 sa sl ns' na' nl yt' im mt mb ml)) x4_ x6_ x8_ ns na y_isThere y_taken y_took) (va_up ns 0 (nI (v 13 0))) nb (k + 1) (lN (yA v s i)) (lN (yM v s i)) (lN (yW v s i)) (nI i) y1 y2 y3 := by
              intro k
              induction k with
              | zero =>
                intro i y1 y2 y3 hi g1
                obtain rfl : i = n := by omega
                refine ⟨fun _ => ⟨fun c => ⟨fun c2 => M _ y1 g1 ?_, fun c2 => M _ y1 g1 ?_⟩, fun c => M _ y1 g1 ?_⟩, fun c => absurd (nI_le (Nat.le_refl _) (by omega)) c⟩
                · unfold yQ
                  rw [if_neg (fun e => c (by rw [e]; rfl)), if_neg (fun e => c2 (by rw [e]; rfl))]
                · have e1 : j = 1 := (nI_eq (b := 1) (by omega) (by decide)).mp c2
                  unfold yQ
                  rw [if_neg (by omega), if_pos e1]
                · have e0 : j = 0 := (nI_eq (b := 0) (by omega) (by decide)).mp c
                  unfold yQ
                  rw [if_pos e0]
              | succ k ih =>
                intro i y1 y2 y3 hi g1
                refine ⟨fun c => absurd ((nI_leI (by omega) (by omega)).mp c) (by omega), fun _ => ?_⟩
                rw [nI_add]
                refine c_draw hv hC hN (by omega) y1 y2 y3 (fun tak too t1 x4 hx4 x6 hx6 => ?_)
                have hT := yT_le hv.1 s i
                have hMl := yM_le hv.1 s i
                have hT2 : sumN (yr v (CR v (s + i)) (v 1 0)).1 10 = yT v s i := rfl
                rw [hT2, nI_l (by omega), lN_add] at hx4
                have e6 : x6 = lN (yM v s (i + 1)) := by
                  rw [hx6, hT2, nI_l (by omega), yM]
                  by_cases d : yT v s i < yM v s i
                  · rw [if_pos ((lN_lt (by omega) (by omega)).mpr d), Nat.max_eq_left (by omega)]
                  · rw [if_neg (fun e => d ((lN_lt (by omega) (by omega)).mp e)), Nat.max_eq_right (by omega)]
                refine c_worthTaken hv.1 hC t1 (fun b hb => yb_le hv.1 s i hb) (fun x8 hx8 => ?_)
                rw [lN_add] at hx8
                rw [hx4, e6, hx8, nI_1]
                exact ih (i + 1) 1 tak too (by omega) (Or.inr rfl)
            exact ⟨n + 1, L n 0 yt et eo (by omega) hI.2.2.2.2.2.2.2⟩
def rwN (sa : A2) : Nat → Nat := sumN (fun k => if sa 1 k = 0 then 0 else 1)
theorem c_rows (hS : SlotR sa sl ma ml) {post : Int32 → Prop} (h : post (nI (rwN sa 4))) : P_X6_rows sa post := by
  have L : ∀ (k i : Nat), i + k = 4 → P_X6_rows_4 sa post (k + 1) (nI (rwN sa i)) (nI i) := by
    intro k
    induction k with
    | zero =>
      intro i hi
      obtain rfl : i = 4 := by omega
      exact ⟨fun _ => h, fun c => absurd (nI_le (a := 4) (b := 4) (by decide) (by decide)) c⟩
    | succ k ih =>
      intro i hi
      obtain ⟨w, n, hw, hn, e1, e2, e3, e4, e5⟩ := hS i (by omega)
      have go := ih (i + 1) (by omega)
      rw [show rwN sa (i + 1) = rwN sa i + (if sa 1 i = 0 then 0 else 1) from rfl] at go
      refine ⟨fun c => absurd ((nI_leI (a := 4) (by decide) (by omega)).mp c) (by omega), fun _ => ⟨vp_in_nI (by omega) (by decide), ?_⟩⟩
      rw [nI_clamp (by omega), e1, show (nI w ≤ (0 : Int32)) = (nI w ≤ nI 0) from rfl, nI_leI (show w < 2 ^ 31 by omega) (by decide), nI_1, nI_1]
      rw [e1] at go
      refine ⟨fun c => b0f ?_, fun c => b1f ?_⟩
      · rw [if_pos (by rw [show w = 0 by omega]; rfl)] at go
        exact go
      · rw [if_neg (fun e => c (by have := (nI_eq (b := 0) (by omega) (by decide)).mp e; omega))] at go
        exact go
  exact ⟨5, L 4 0 (by omega)⟩
theorem m_rows (p : Int32) (hS : SlotR sa sl ma ml) {post : Int32 → A1 → Prop} (h : post (nI (rwN sa 4)) ms) : ∃ n, P_X12_count_169 ma p post ms n 0 0 := by
  have L : ∀ (k i : Nat), i + k = 4 → P_X12_count_169 ma p post ms (k + 1) (nI (rwN sa i)) (nI i) := by
    intro k
    induction k with
    | zero =>
      intro i hi
      obtain rfl : i = 4 := by omega
      exact ⟨fun _ => h, fun c => absurd (nI_le (a := 4) (b := 4) (by decide) (by decide)) c⟩
    | succ k ih =>
      intro i hi
      obtain ⟨w, n, hw, hn, e1, e2, e3, e4, e5⟩ := hS i (by omega)
      have go := ih (i + 1) (by omega)
      rw [show rwN sa (i + 1) = rwN sa i + (if sa 1 i = 0 then 0 else 1) from rfl, e1] at go
      refine ⟨fun c => absurd ((nI_leI (a := 4) (by decide) (by omega)).mp c) (by omega), fun _ => ⟨vp_in_nI (by omega) (by decide), ?_⟩⟩
      rw [nI_clamp (by omega), e2, nI_m1 (by omega), nI_1 i]
      refine ⟨fun c x hx => ?_, fun c x hx => ?_⟩
      · have c' : ¬ nI w = 0 := fun e => c ((nI_eq (b := 0) (by omega) (by decide)).mp e)
        rw [if_neg c'] at go
        rw [hx, nI_1]
        exact go
      · rw [if_pos (by rw [c]; rfl)] at go
        rw [show nI (rwN sa i) + 0 = nI (rwN sa i + 0) from nI_add _ 0] at hx
        rw [hx]
        exact go
  exact ⟨5, L 4 0 (by omega)⟩
theorem q_count (hI : Inv us ua rs ra ra2 sa sl ns na nl yt im ms ma ml) (p : Int32) : P_X11_count us rs ra sa p (fun r => P_X12_count ms ma p (fun r' mt => r = r' ∧ Inv us ua rs ra ra2 sa sl ns na nl yt im mt ma ml)) := by
  obtain ⟨v, hv, hC, hM, hP, hY, hK, hB, F⟩ := hI.get
  have h13' := ok13 hv.1
  have h10' : v 10 0 ≤ 1 := hv.1.1.2.2.2.2.2.2.2.2.2.2.1
  have h15' : v 15 0 ≤ 1 := hv.1.1.2.2.2.2.2.2.2.2.2.2.2.2.2.2.2.1
  have fin := F ra2 ns na nl _ _ _ (MG.refl _ _ ml) hM.1 hB hK
  obtain ⟨nT, -, eT1, eT2, -⟩ := hI.1.2.2
  have hSl := hI.2.2.2.2.1
  by_cases h0 : p = 0
  · exact ⟨fun _ => ⟨fun _ => ⟨(rc_s hC 0).trans (hM.1.1.2.1).symm, fin⟩, fun c => absurd (h0.symm.trans c) (by decide), fun c => absurd (h0.symm.trans c) (by decide), fun c => absurd (h0.symm.trans c) (by decide), fun c => absurd (h0.symm.trans c) (by decide), fun c => absurd (h0.symm.trans c) (by decide), fun c => absurd (h0.symm.trans c) (by decide), fun c => absurd (h0.symm.trans c) (by decide), fun c => absurd (h0.symm.trans c) (by decide), fun c => absurd (h0.symm.trans c) (by decide), fun c => absurd (h0.symm.trans c) (by decide), fun c => absurd (h0.symm.trans c) (by decide), fun c => absurd (h0.symm.trans c) (by decide), fun c0 c1 c2 c3 c4 c5 c6 c7 c8 c9 c10 c11 c12 => absurd h0 c0⟩, fun c => absurd (h0.symm.trans c) (by decide), fun c => absurd (h0.symm.trans c) (by decide), fun c => absurd (h0.symm.trans c) (by decide), fun c => absurd (h0.symm.trans c) (by decide), fun c => absurd (h0.symm.trans c) (by decide), fun c => absurd (h0.symm.trans c) (by decide), fun c => absurd (h0.symm.trans c) (by decide), fun c => absurd (h0.symm.trans c) (by decide), fun c => absurd (h0.symm.trans c) (by decide), fun c => absurd (h0.symm.trans c) (by decide), fun c => absurd (h0.symm.trans c) (by decide), fun c => absurd (h0.symm.trans c) (by decide), fun c0 c1 c2 c3 c4 c5 c6 c7 c8 c9 c10 c11 c12 => absurd h0 c0⟩
  · by_cases h1 : p = 1
    · exact ⟨fun c => absurd (h1.symm.trans c) (by decide), fun _ => ⟨fun c => absurd (h1.symm.trans c) (by decide), fun _ => ⟨(rc_s hC 1).trans (hM.1.1.2.2.1).symm, fin⟩, fun c => absurd (h1.symm.trans c) (by decide), fun c => absurd (h1.symm.trans c) (by decide), fun c => absurd (h1.symm.trans c) (by decide), fun c => absurd (h1.symm.trans c) (by decide), fun c => absurd (h1.symm.trans c) (by decide), fun c => absurd (h1.symm.trans c) (by decide), fun c => absurd (h1.symm.trans c) (by decide), fun c => absurd (h1.symm.trans c) (by decide), fun c => absurd (h1.symm.trans c) (by decide), fun c => absurd (h1.symm.trans c) (by decide), fun c => absurd (h1.symm.trans c) (by decide), fun c0 c1 c2 c3 c4 c5 c6 c7 c8 c9 c10 c11 c12 => absurd h1 c1⟩, fun c => absurd (h1.symm.trans c) (by decide), fun c => absurd (h1.symm.trans c) (by decide), fun c => absurd (h1.symm.trans c) (by decide), fun c => absurd (h1.symm.trans c) (by decide), fun c => absurd (h1.symm.trans c) (by decide), fun c => absurd (h1.symm.trans c) (by decide), fun c => absurd (h1.symm.trans c) (by decide), fun c => absurd (h1.symm.trans c) (by decide), fun c => absurd (h1.symm.trans c) (by decide), fun c => absurd (h1.symm.trans c) (by decide), fun c => absurd (h1.symm.trans c) (by decide), fun c0 c1 c2 c3 c4 c5 c6 c7 c8 c9 c10 c11 c12 => absurd h1 c1⟩
    · by_cases h2 : p = 2
      · exact ⟨fun c => absurd (h2.symm.trans c) (by decide), fun c => absurd (h2.symm.trans c) (by decide), fun _ => ⟨fun c => absurd (h2.symm.trans c) (by decide), fun c => absurd (h2.symm.trans c) (by decide), fun _ => ⟨(rc_s hC 11).trans (hP.1).symm, fin⟩, fun c => absurd (h2.symm.trans c) (by decide), fun c => absurd (h2.symm.trans c) (by decide), fun c => absurd (h2.symm.trans c) (by decide), fun c => absurd (h2.symm.trans c) (by decide), fun c => absurd (h2.symm.trans c) (by decide), fun c => absurd (h2.symm.trans c) (by decide), fun c => absurd (h2.symm.trans c) (by decide), fun c => absurd (h2.symm.trans c) (by decide), fun c => absurd (h2.symm.trans c) (by decide), fun c => absurd (h2.symm.trans c) (by decide), fun c0 c1 c2 c3 c4 c5 c6 c7 c8 c9 c10 c11 c12 => absurd h2 c2⟩, fun c => absurd (h2.symm.trans c) (by decide), fun c => absurd (h2.symm.trans c) (by decide), fun c => absurd (h2.symm.trans c) (by decide), fun c => absurd (h2.symm.trans c) (by decide), fun c => absurd (h2.symm.trans c) (by decide), fun c => absurd (h2.symm.trans c) (by decide), fun c => absurd (h2.symm.trans c) (by decide), fun c => absurd (h2.symm.trans c) (by decide), fun c => absurd (h2.symm.trans c) (by decide), fun c => absurd (h2.symm.trans c) (by decide), fun c0 c1 c2 c3 c4 c5 c6 c7 c8 c9 c10 c11 c12 => absurd h2 c2⟩
      · by_cases h3 : p = 3
        · exact ⟨fun c => absurd (h3.symm.trans c) (by decide), fun c => absurd (h3.symm.trans c) (by decide), fun c => absurd (h3.symm.trans c) (by decide), fun _ => ⟨fun c => absurd (h3.symm.trans c) (by decide), fun c => absurd (h3.symm.trans c) (by decide), fun c => absurd (h3.symm.trans c) (by decide), fun _ => ⟨(rc_s hC 12).trans (hM.1.1.2.2.2.1).symm, fin⟩, fun c => absurd (h3.symm.trans c) (by decide), fun c => absurd (h3.symm.trans c) (by decide), fun c => absurd (h3.symm.trans c) (by decide), fun c => absurd (h3.symm.trans c) (by decide), fun c => absurd (h3.symm.trans c) (by decide), fun c => absurd (h3.symm.trans c) (by decide), fun c => absurd (h3.symm.trans c) (by decide), fun c => absurd (h3.symm.trans c) (by decide), fun c => absurd (h3.symm.trans c) (by decide), fun c0 c1 c2 c3 c4 c5 c6 c7 c8 c9 c10 c11 c12 => absurd h3 c3⟩, fun c => absurd (h3.symm.trans c) (by decide), fun c => absurd (h3.symm.trans c) (by decide), fun c => absurd (h3.symm.trans c) (by decide), fun c => absurd (h3.symm.trans c) (by decide), fun c => absurd (h3.symm.trans c) (by decide), fun c => absurd (h3.symm.trans c) (by decide), fun c => absurd (h3.symm.trans c) (by decide), fun c => absurd (h3.symm.trans c) (by decide), fun c => absurd (h3.symm.trans c) (by decide), fun c0 c1 c2 c3 c4 c5 c6 c7 c8 c9 c10 c11 c12 => absurd h3 c3⟩
        · by_cases h4 : p = 4
          · exact ⟨fun c => absurd (h4.symm.trans c) (by decide), fun c => absurd (h4.symm.trans c) (by decide), fun c => absurd (h4.symm.trans c) (by decide), fun c => absurd (h4.symm.trans c) (by decide), fun _ => ⟨fun c => absurd (h4.symm.trans c) (by decide), fun c => absurd (h4.symm.trans c) (by decide), fun c => absurd (h4.symm.trans c) (by decide), fun c => absurd (h4.symm.trans c) (by decide), fun _ => ⟨(rc_s hC 13).trans (hM.1.1.2.2.2.2).symm, fin⟩, fun c => absurd (h4.symm.trans c) (by decide), fun c => absurd (h4.symm.trans c) (by decide), fun c => absurd (h4.symm.trans c) (by decide), fun c => absurd (h4.symm.trans c) (by decide), fun c => absurd (h4.symm.trans c) (by decide), fun c => absurd (h4.symm.trans c) (by decide), fun c => absurd (h4.symm.trans c) (by decide), fun c => absurd (h4.symm.trans c) (by decide), fun c0 c1 c2 c3 c4 c5 c6 c7 c8 c9 c10 c11 c12 => absurd h4 c4⟩, fun c => absurd (h4.symm.trans c) (by decide), fun c => absurd (h4.symm.trans c) (by decide), fun c => absurd (h4.symm.trans c) (by decide), fun c => absurd (h4.symm.trans c) (by decide), fun c => absurd (h4.symm.trans c) (by decide), fun c => absurd (h4.symm.trans c) (by decide), fun c => absurd (h4.symm.trans c) (by decide), fun c => absurd (h4.symm.trans c) (by decide), fun c0 c1 c2 c3 c4 c5 c6 c7 c8 c9 c10 c11 c12 => absurd h4 c4⟩
          · by_cases h5 : p = 5
            · exact ⟨fun c => absurd (h5.symm.trans c) (by decide), fun c => absurd (h5.symm.trans c) (by decide), fun c => absurd (h5.symm.trans c) (by decide), fun c => absurd (h5.symm.trans c) (by decide), fun c => absurd (h5.symm.trans c) (by decide), fun _ => ⟨fun c => absurd (h5.symm.trans c) (by decide), fun c => absurd (h5.symm.trans c) (by decide), fun c => absurd (h5.symm.trans c) (by decide), fun c => absurd (h5.symm.trans c) (by decide), fun c => absurd (h5.symm.trans c) (by decide), fun _ => ⟨(rc_s hC 14).trans (hM.2.1.1).symm, fin⟩, fun c => absurd (h5.symm.trans c) (by decide), fun c => absurd (h5.symm.trans c) (by decide), fun c => absurd (h5.symm.trans c) (by decide), fun c => absurd (h5.symm.trans c) (by decide), fun c => absurd (h5.symm.trans c) (by decide), fun c => absurd (h5.symm.trans c) (by decide), fun c => absurd (h5.symm.trans c) (by decide), fun c0 c1 c2 c3 c4 c5 c6 c7 c8 c9 c10 c11 c12 => absurd h5 c5⟩, fun c => absurd (h5.symm.trans c) (by decide), fun c => absurd (h5.symm.trans c) (by decide), fun c => absurd (h5.symm.trans c) (by decide), fun c => absurd (h5.symm.trans c) (by decide), fun c => absurd (h5.symm.trans c) (by decide), fun c => absurd (h5.symm.trans c) (by decide), fun c => absurd (h5.symm.trans c) (by decide), fun c0 c1 c2 c3 c4 c5 c6 c7 c8 c9 c10 c11 c12 => absurd h5 c5⟩
            · by_cases h6 : p = 6
              · exact ⟨fun c => absurd (h6.symm.trans c) (by decide), fun c => absurd (h6.symm.trans c) (by decide), fun c => absurd (h6.symm.trans c) (by decide), fun c => absurd (h6.symm.trans c) (by decide), fun c => absurd (h6.symm.trans c) (by decide), fun c => absurd (h6.symm.trans c) (by decide), fun _ => ⟨fun c => absurd (h6.symm.trans c) (by decide), fun c => absurd (h6.symm.trans c) (by decide), fun c => absurd (h6.symm.trans c) (by decide), fun c => absurd (h6.symm.trans c) (by decide), fun c => absurd (h6.symm.trans c) (by decide), fun c => absurd (h6.symm.trans c) (by decide), fun _ => ⟨(rc_s hC 2).trans (hM.1.1.1).symm, fin⟩, fun c => absurd (h6.symm.trans c) (by decide), fun c => absurd (h6.symm.trans c) (by decide), fun c => absurd (h6.symm.trans c) (by decide), fun c => absurd (h6.symm.trans c) (by decide), fun c => absurd (h6.symm.trans c) (by decide), fun c => absurd (h6.symm.trans c) (by decide), fun c0 c1 c2 c3 c4 c5 c6 c7 c8 c9 c10 c11 c12 => absurd h6 c6⟩, fun c => absurd (h6.symm.trans c) (by decide), fun c => absurd (h6.symm.trans c) (by decide), fun c => absurd (h6.symm.trans c) (by decide), fun c => absurd (h6.symm.trans c) (by decide), fun c => absurd (h6.symm.trans c) (by decide), fun c => absurd (h6.symm.trans c) (by decide), fun c0 c1 c2 c3 c4 c5 c6 c7 c8 c9 c10 c11 c12 => absurd h6 c6⟩
              · by_cases h7 : p = 7
                · exact ⟨fun c => absurd (h7.symm.trans c) (by decide), fun c => absurd (h7.symm.trans c) (by decide), fun c => absurd (h7.symm.trans c) (by decide), fun c => absurd (h7.symm.trans c) (by decide), fun c => absurd (h7.symm.trans c) (by decide), fun c => absurd (h7.symm.trans c) (by decide), fun c => absurd (h7.symm.trans c) (by decide), fun _ => ⟨fun c => absurd (h7.symm.trans c) (by decide), fun c => absurd (h7.symm.trans c) (by decide), fun c => absurd (h7.symm.trans c) (by decide), fun c => absurd (h7.symm.trans c) (by decide), fun c => absurd (h7.symm.trans c) (by decide), fun c => absurd (h7.symm.trans c) (by decide), fun c => absurd (h7.symm.trans c) (by decide), fun _ => ⟨(eT1).trans (eT2).symm, fin⟩, fun c => absurd (h7.symm.trans c) (by decide), fun c => absurd (h7.symm.trans c) (by decide), fun c => absurd (h7.symm.trans c) (by decide), fun c => absurd (h7.symm.trans c) (by decide), fun c => absurd (h7.symm.trans c) (by decide), fun c0 c1 c2 c3 c4 c5 c6 c7 c8 c9 c10 c11 c12 => absurd h7 c7⟩, fun c => absurd (h7.symm.trans c) (by decide), fun c => absurd (h7.symm.trans c) (by decide), fun c => absurd (h7.symm.trans c) (by decide), fun c => absurd (h7.symm.trans c) (by decide), fun c => absurd (h7.symm.trans c) (by decide), fun c0 c1 c2 c3 c4 c5 c6 c7 c8 c9 c10 c11 c12 => absurd h7 c7⟩
                · by_cases h8 : p = 8
                  · refine ⟨fun c => absurd (h8.symm.trans c) (by decide), fun c => absurd (h8.symm.trans c) (by decide), fun c => absurd (h8.symm.trans c) (by decide), fun c => absurd (h8.symm.trans c) (by decide), fun c => absurd (h8.symm.trans c) (by decide), fun c => absurd (h8.symm.trans c) (by decide), fun c => absurd (h8.symm.trans c) (by decide), fun c => absurd (h8.symm.trans c) (by decide), fun _ => ?_, fun c => absurd (h8.symm.trans c) (by decide), fun c => absurd (h8.symm.trans c) (by decide), fun c => absurd (h8.symm.trans c) (by decide), fun c => absurd (h8.symm.trans c) (by decide), fun c0 c1 c2 c3 c4 c5 c6 c7 c8 c9 c10 c11 c12 => absurd h8 c8⟩
                    rw [rc_s hC 13]
                    refine c_markedOnes h13' (fun b hb => ⟨(hC.2.2.2.2.1 b hb).2.2.2.2, (hv.1.2.2.2.2.1 b hb).2.2.2.2⟩) ?_
                    exact ⟨fun c => absurd (h8.symm.trans c) (by decide), fun c => absurd (h8.symm.trans c) (by decide), fun c => absurd (h8.symm.trans c) (by decide), fun c => absurd (h8.symm.trans c) (by decide), fun c => absurd (h8.symm.trans c) (by decide), fun c => absurd (h8.symm.trans c) (by decide), fun c => absurd (h8.symm.trans c) (by decide), fun c => absurd (h8.symm.trans c) (by decide), fun _ => m_markedOn (j := 0) hv.1 hM.1 (by decide) ⟨rfl, fin⟩, fun c => absurd (h8.symm.trans c) (by decide), fun c => absurd (h8.symm.trans c) (by decide), fun c => absurd (h8.symm.trans c) (by decide), fun c => absurd (h8.symm.trans c) (by decide), fun c0 c1 c2 c3 c4 c5 c6 c7 c8 c9 c10 c11 c12 => absurd h8 c8⟩
                  · by_cases h9 : p = 9
                    · refine ⟨fun c => absurd (h9.symm.trans c) (by decide), fun c => absurd (h9.symm.trans c) (by decide), fun c => absurd (h9.symm.trans c) (by decide), fun c => absurd (h9.symm.trans c) (by decide), fun c => absurd (h9.symm.trans c) (by decide), fun c => absurd (h9.symm.trans c) (by decide), fun c => absurd (h9.symm.trans c) (by decide), fun c => absurd (h9.symm.trans c) (by decide), fun c => absurd (h9.symm.trans c) (by decide), fun _ => ?_, fun c => absurd (h9.symm.trans c) (by decide), fun c => absurd (h9.symm.trans c) (by decide), fun c => absurd (h9.symm.trans c) (by decide), fun c0 c1 c2 c3 c4 c5 c6 c7 c8 c9 c10 c11 c12 => absurd h9 c9⟩
                      have e : ma 14 6 = nI (v 10 0) := hM.1.2.2.2.2.2.2.2.2.2.2
                      rw [rc_s hC 10]
                      rcases Nat.lt_or_ge (v 10 0) 1 with z | z
                      · have z0 : v 10 0 = 0 := by omega
                        rw [z0] at e ⊢
                        exact ⟨fun _ => ⟨fun c => absurd (h9.symm.trans c) (by decide), fun c => absurd (h9.symm.trans c) (by decide), fun c => absurd (h9.symm.trans c) (by decide), fun c => absurd (h9.symm.trans c) (by decide), fun c => absurd (h9.symm.trans c) (by decide), fun c => absurd (h9.symm.trans c) (by decide), fun c => absurd (h9.symm.trans c) (by decide), fun c => absurd (h9.symm.trans c) (by decide), fun c => absurd (h9.symm.trans c) (by decide), fun _ => ⟨e.symm, fin⟩, fun c => absurd (h9.symm.trans c) (by decide), fun c => absurd (h9.symm.trans c) (by decide), fun c => absurd (h9.symm.trans c) (by decide), fun c0 c1 c2 c3 c4 c5 c6 c7 c8 c9 c10 c11 c12 => absurd h9 c9⟩, fun c => absurd rfl c⟩
                      · have z0 : v 10 0 = 1 := by omega
                        rw [z0] at e ⊢
                        exact ⟨fun c => absurd c (by decide), fun _ => ⟨fun c => absurd (h9.symm.trans c) (by decide), fun c => absurd (h9.symm.trans c) (by decide), fun c => absurd (h9.symm.trans c) (by decide), fun c => absurd (h9.symm.trans c) (by decide), fun c => absurd (h9.symm.trans c) (by decide), fun c => absurd (h9.symm.trans c) (by decide), fun c => absurd (h9.symm.trans c) (by decide), fun c => absurd (h9.symm.trans c) (by decide), fun c => absurd (h9.symm.trans c) (by decide), fun _ => ⟨e.symm, fin⟩, fun c => absurd (h9.symm.trans c) (by decide), fun c => absurd (h9.symm.trans c) (by decide), fun c => absurd (h9.symm.trans c) (by decide), fun c0 c1 c2 c3 c4 c5 c6 c7 c8 c9 c10 c11 c12 => absurd h9 c9⟩⟩
                    · by_cases h10 : p = 10
                      · refine ⟨fun c => absurd (h10.symm.trans c) (by decide), fun c => absurd (h10.symm.trans c) (by decide), fun c => absurd (h10.symm.trans c) (by decide), fun c => absurd (h10.symm.trans c) (by decide), fun c => absurd (h10.symm.trans c) (by decide), fun c => absurd (h10.symm.trans c) (by decide), fun c => absurd (h10.symm.trans c) (by decide), fun c => absurd (h10.symm.trans c) (by decide), fun c => absurd (h10.symm.trans c) (by decide), fun c => absurd (h10.symm.trans c) (by decide), fun _ => ?_, fun c => absurd (h10.symm.trans c) (by decide), fun c => absurd (h10.symm.trans c) (by decide), fun c0 c1 c2 c3 c4 c5 c6 c7 c8 c9 c10 c11 c12 => absurd h10 c10⟩
                        rcases Nat.eq_zero_or_pos (v 2 0) with z | z
                        · exact c_told0 hC z (b0f ⟨fun c => absurd (h10.symm.trans c) (by decide), fun c => absurd (h10.symm.trans c) (by decide), fun c => absurd (h10.symm.trans c) (by decide), fun c => absurd (h10.symm.trans c) (by decide), fun c => absurd (h10.symm.trans c) (by decide), fun c => absurd (h10.symm.trans c) (by decide), fun c => absurd (h10.symm.trans c) (by decide), fun c => absurd (h10.symm.trans c) (by decide), fun c => absurd (h10.symm.trans c) (by decide), fun c => absurd (h10.symm.trans c) (by decide), fun _ => m_rail0 hM.1 hv.1 z (b0f ⟨rfl, fin⟩), fun c => absurd (h10.symm.trans c) (by decide), fun c => absurd (h10.symm.trans c) (by decide), fun c0 c1 c2 c3 c4 c5 c6 c7 c8 c9 c10 c11 c12 => absurd h10 c10⟩)
                        · exact c_options hC hv.1 z ⟨fun c => absurd (h10.symm.trans c) (by decide), fun c => absurd (h10.symm.trans c) (by decide), fun c => absurd (h10.symm.trans c) (by decide), fun c => absurd (h10.symm.trans c) (by decide), fun c => absurd (h10.symm.trans c) (by decide), fun c => absurd (h10.symm.trans c) (by decide), fun c => absurd (h10.symm.trans c) (by decide), fun c => absurd (h10.symm.trans c) (by decide), fun c => absurd (h10.symm.trans c) (by decide), fun c => absurd (h10.symm.trans c) (by decide), fun _ => m_rail hM.1 hv.1 z (b1f (m_optionMany hM.1 ⟨rfl, fin⟩)), fun c => absurd (h10.symm.trans c) (by decide), fun c => absurd (h10.symm.trans c) (by decide), fun c0 c1 c2 c3 c4 c5 c6 c7 c8 c9 c10 c11 c12 => absurd h10 c10⟩
                      · by_cases h11 : p = 11
                        · refine ⟨fun c => absurd (h11.symm.trans c) (by decide), fun c => absurd (h11.symm.trans c) (by decide), fun c => absurd (h11.symm.trans c) (by decide), fun c => absurd (h11.symm.trans c) (by decide), fun c => absurd (h11.symm.trans c) (by decide), fun c => absurd (h11.symm.trans c) (by decide), fun c => absurd (h11.symm.trans c) (by decide), fun c => absurd (h11.symm.trans c) (by decide), fun c => absurd (h11.symm.trans c) (by decide), fun c => absurd (h11.symm.trans c) (by decide), fun c => absurd (h11.symm.trans c) (by decide), fun _ => ?_, fun c => absurd (h11.symm.trans c) (by decide), fun c0 c1 c2 c3 c4 c5 c6 c7 c8 c9 c10 c11 c12 => absurd h11 c11⟩
                          have e : ma 16 0 = nI (v 15 0) := hY.1
                          rw [rc_s hC 15]
                          rcases Nat.lt_or_ge (v 15 0) 1 with z | z
                          · have z0 : v 15 0 = 0 := by omega
                            rw [z0] at e ⊢
                            exact ⟨fun _ => ⟨fun c => absurd (h11.symm.trans c) (by decide), fun c => absurd (h11.symm.trans c) (by decide), fun c => absurd (h11.symm.trans c) (by decide), fun c => absurd (h11.symm.trans c) (by decide), fun c => absurd (h11.symm.trans c) (by decide), fun c => absurd (h11.symm.trans c) (by decide), fun c => absurd (h11.symm.trans c) (by decide), fun c => absurd (h11.symm.trans c) (by decide), fun c => absurd (h11.symm.trans c) (by decide), fun c => absurd (h11.symm.trans c) (by decide), fun c => absurd (h11.symm.trans c) (by decide), fun _ => ⟨e.symm, fin⟩, fun c => absurd (h11.symm.trans c) (by decide), fun c0 c1 c2 c3 c4 c5 c6 c7 c8 c9 c10 c11 c12 => absurd h11 c11⟩, fun c => absurd rfl c⟩
                          · have z0 : v 15 0 = 1 := by omega
                            rw [z0] at e ⊢
                            exact ⟨fun c => absurd c (by decide), fun _ => ⟨fun c => absurd (h11.symm.trans c) (by decide), fun c => absurd (h11.symm.trans c) (by decide), fun c => absurd (h11.symm.trans c) (by decide), fun c => absurd (h11.symm.trans c) (by decide), fun c => absurd (h11.symm.trans c) (by decide), fun c => absurd (h11.symm.trans c) (by decide), fun c => absurd (h11.symm.trans c) (by decide), fun c => absurd (h11.symm.trans c) (by decide), fun c => absurd (h11.symm.trans c) (by decide), fun c => absurd (h11.symm.trans c) (by decide), fun c => absurd (h11.symm.trans c) (by decide), fun _ => ⟨e.symm, fin⟩, fun c => absurd (h11.symm.trans c) (by decide), fun c0 c1 c2 c3 c4 c5 c6 c7 c8 c9 c10 c11 c12 => absurd h11 c11⟩⟩
                        · by_cases h12 : p = 12
                          · refine ⟨fun c => absurd (h12.symm.trans c) (by decide), fun c => absurd (h12.symm.trans c) (by decide), fun c => absurd (h12.symm.trans c) (by decide), fun c => absurd (h12.symm.trans c) (by decide), fun c => absurd (h12.symm.trans c) (by decide), fun c => absurd (h12.symm.trans c) (by decide), fun c => absurd (h12.symm.trans c) (by decide), fun c => absurd (h12.symm.trans c) (by decide), fun c => absurd (h12.symm.trans c) (by decide), fun c => absurd (h12.symm.trans c) (by decide), fun c => absurd (h12.symm.trans c) (by decide), fun c => absurd (h12.symm.trans c) (by decide), fun _ => c_rows hSl ?_, fun c0 c1 c2 c3 c4 c5 c6 c7 c8 c9 c10 c11 c12 => absurd h12 c12⟩
                            exact ⟨fun c => absurd (h12.symm.trans c) (by decide), fun c => absurd (h12.symm.trans c) (by decide), fun c => absurd (h12.symm.trans c) (by decide), fun c => absurd (h12.symm.trans c) (by decide), fun c => absurd (h12.symm.trans c) (by decide), fun c => absurd (h12.symm.trans c) (by decide), fun c => absurd (h12.symm.trans c) (by decide), fun c => absurd (h12.symm.trans c) (by decide), fun c => absurd (h12.symm.trans c) (by decide), fun c => absurd (h12.symm.trans c) (by decide), fun c => absurd (h12.symm.trans c) (by decide), fun c => absurd (h12.symm.trans c) (by decide), fun _ => m_rows p hSl ⟨rfl, fin⟩, fun c0 c1 c2 c3 c4 c5 c6 c7 c8 c9 c10 c11 c12 => absurd h12 c12⟩
                          · exact ⟨fun c => absurd c h0, fun c => absurd c h1, fun c => absurd c h2, fun c => absurd c h3, fun c => absurd c h4, fun c => absurd c h5, fun c => absurd c h6, fun c => absurd c h7, fun c => absurd c h8, fun c => absurd c h9, fun c => absurd c h10, fun c => absurd c h11, fun c => absurd c h12, fun _ _ _ _ _ _ _ _ _ _ _ _ _ => ⟨fun c => absurd c h0, fun c => absurd c h1, fun c => absurd c h2, fun c => absurd c h3, fun c => absurd c h4, fun c => absurd c h5, fun c => absurd c h6, fun c => absurd c h7, fun c => absurd c h8, fun c => absurd c h9, fun c => absurd c h10, fun c => absurd c h11, fun c => absurd c h12, fun _ _ _ _ _ _ _ _ _ _ _ _ _ => ⟨rfl, fin⟩⟩⟩
end Y2
