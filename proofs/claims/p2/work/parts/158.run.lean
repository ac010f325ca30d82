/-! a year is drawn -/
section RN
variable {us : A1} {ua : A2} {rs : A1} {ra ra2 sa : A2} {sl : L2} {ns : A1} {na : A2} {nl : L2} {yt : Int32} {im : Img} {ms : A1} {ma : A2} {ml : L2}
theorem c_drawAl {v : Rl} (hv : okR v) (hC : RelC v rs ra) (hN : NR v 0 ns na) {s : Nat} (hs : s < 2147483648) {post : Int32 → A1 → A2 → Prop} (h : ∀ rs' ra', RelC (vy v (yr v (CR v s) (v 1 0)).1 (yr v (CR v s) (v 1 0)).2) rs' ra' → post (nI (sumN (yr v (CR v s) (v 1 0)).1 10)) rs' ra') : P_X3_drawYear_al ns na rs ra (nI s) post := by
  have h13 := ok13 hv.1
  have h14 := ok14 hv.1
  have h1 := ok1 hv.1
  refine c_yearBegin (fun tak too b1 b2 x hx => ?_)
  rw [nI_l (by omega)] at hx
  subst hx
  have e14 : va_up rs 15 1 14 = nI (v 14 0) := by rw [up_ne (by decide)]; exact rc_s hC 14
  have e1 : va_up rs 15 1 1 = nI (v 1 0) := by rw [up_ne (by decide)]; exact rc_s hC 1
  -- who comes
  have I : ∀ (x : Nat), x < 2147483648 → ∀ (rx : A2), (∀ j, j ≠ 14 → j ≠ 15 → rx j = ra j) → ∀ (x6 x7 : Int32) (K97 : Int64 → Int32 → Int32 → Int32 → A2 → Prop), K97 (lN (dN x (v 14 0))) x6 x7 (nI (msk v x (v 14 0))) rx → ∃ n, P_X3_drawYear_al_29 ns na (nI s) (va_up rs 15 1) post K97 x6 x7 rx n (lN x) 0 0 := by
    intro x hx rx hrx x6 x7 K97 kk
    have L : ∀ (k i : Nat), i + k = v 14 0 → P_X3_drawYear_al_29 ns na (nI s) (va_up rs 15 1) post K97 x6 x7 rx (k + 1) (lN (dN x i)) (nI (msk v x i)) (nI i) := by
      intro k
      induction k with
      | zero =>
        intro i hi
        obtain rfl : i = v 14 0 := by omega
        exact ⟨fun _ => kk, fun c => absurd ((cmp_le e14 (by omega) (by omega)).mpr (Nat.le_refl _)) c⟩
      | succ k ih =>
        intro i hi
        have hlt := dN_lt hx (i + 1)
        have b26 := (hv.1.2.2.2.2.2.1 i (by omega)).2.1
        have go := ih (i + 1) (by omega)
        rw [msk] at go
        refine ⟨fun c => absurd ((cmp_le e14 (by omega) (by omega)).mp c) (by omega), fun _ y hy => ⟨vp_in_nI (by omega) (by decide), ?_⟩⟩
        rw [dr_c, show dr (dN x i) = dN x (i + 1) from rfl] at hy
        rw [hy, dr_p hlt, nI_clamp (by omega), hrx 10 (by decide) (by decide), (hC.2.2.2.2.2.1 i (by omega)).2.1, nI_l (by omega), lN_le (by omega) (by omega), nI_1]
        refine ⟨fun c => ?_, fun c z hz => ?_⟩
        · rw [if_neg (by unfold cmb; simp; omega)] at go
          exact go
        · rw [if_pos (by unfold cmb; simp; omega)] at go
          rw [sh1 (by omega), fa_or] at hz
          rw [hz]
          exact go
    exact ⟨v 14 0 + 1, L (v 14 0) 0 (by omega)⟩
  have L : ∀ (k i : Nat) (rx : A2), i + k = v 1 0 → (∀ j, j ≠ 14 → j ≠ 15 → rx j = ra j) → (∀ b, b < 10 → rx 14 b = nI ((yr v (CR v s) i).1 b)) → (∀ t, t < 6 → rx 15 t = nI ((yr v (CR v s) i).2 t)) → P_X3_drawYear_al_14 ns na (nI s) post (va_up rs 15 1) (k + 1) (lN (xs v s i)) (nI (sumN (yr v (CR v s) i).1 10)) (nI i) rx := by
    intro k
    induction k with
    | zero =>
      intro i rx hi q1 q2 q3
      obtain rfl : i = v 1 0 := by omega
      exact ⟨fun _ => h _ _ (hC.y (fun j hj => up_ne hj) up_at q1 q2 q3), fun c => absurd ((cmp_le e1 (by omega) (by omega)).mpr (Nat.le_refl _)) c⟩
    | succ k ih =>
      intro i rx hi q1 q2 q3
      refine ⟨fun c => absurd ((cmp_le e1 (by omega) (by omega)).mp c) (by omega), fun _ => ?_⟩
      refine I (xs v s i) (xs_lt hs i) rx q1 _ _ _ ?_
      unfold P_X3_drawYear_al_97
      rw [e14]
      have hm : msk v (xs v s i) (v 14 0) < 2 ^ 31 := Nat.lt_of_lt_of_le (msk_lt _ _ _) (Nat.pow_le_pow_right (by decide) (by omega))
      have ec : nsn v (fun t => (msk v (xs v s i) (v 14 0)).testBit t) (0, (yr v (CR v s) i).1, (yr v (CR v s) i).2) (v 14 0) = nsn v (CR v s i) (0, (yr v (CR v s) i).1, (yr v (CR v s) i).2) (v 14 0) := nsn_cong _ (fun t ht => msk_bit v _ ht)
      refine c_letAll hv hN hm q2 q3 (fun tak too t1 t2 x hx => ?_)
      rw [ec] at t1 t2 hx
      rw [nI_add, ← yr_sum h13] at hx
      rw [hx, nI_1]
      exact ih (i + 1) _ (by omega) (fun j a b => by rw [up_ne b, up_ne a]; exact q1 j a b) (fun b hb => by rw [up_ne (by decide), up_at]; exact t1 b hb) (fun t ht => by rw [up_at]; exact t2 t ht)
  exact ⟨v 1 0 + 1, L (v 1 0) 0 _ (by omega) (fun j a b => by rw [up_ne b, up_ne a]) (fun b hb => by rw [up_ne (by decide), up_at]; exact b1 b hb) (fun t ht => by rw [up_at]; exact b2 t ht)⟩
theorem c_draw {v : Rl} (hv : okR v) (hC : RelC v rs ra) (hN : NR v 0 ns na) {s : Nat} (hs : s < 2147483648) (yt : Int32) (et eo : Nat → Int32) {post : Int32 → Int32 → (Nat → Int32) → (Nat → Int32) → Prop} (h : ∀ tak too, (∀ b, b < 10 → tak b = nI ((yr v (CR v s) (v 1 0)).1 b)) → post (nI (sumN (yr v (CR v s) (v 1 0)).1 10)) 1 tak too) : P_X3_drawYear ns na rs ra yt et eo (nI s) post := by
  have h13 := ok13 hv.1
  have h14 := ok14 hv.1
  have h1 := ok1 hv.1
  refine c_yearBegin (fun tak too b1 b2 x hx => ?_)
  rw [nI_l (by omega)] at hx
  subst hx
  have e14 : rs 14 = nI (v 14 0) := rc_s hC 14
  have e1 : rs 1 = nI (v 1 0) := rc_s hC 1
  have I : ∀ (x : Nat), x < 2147483648 → ∀ (x6 x7 : Int32) (tak too : Nat → Int32) (K97 : Int64 → Int32 → Int32 → Int32 → (Nat → Int32) → (Nat → Int32) → Prop), K97 (lN (dN x (v 14 0))) x6 x7 (nI (msk v x (v 14 0))) tak too → ∃ n, P_X3_drawYear_29 ns na rs ra (nI s) 1 post K97 x6 x7 tak too n (lN x) 0 0 := by
    intro x hx x6 x7 tak too K97 kk
    have L : ∀ (k i : Nat), i + k = v 14 0 → P_X3_drawYear_29 ns na rs ra (nI s) 1 post K97 x6 x7 tak too (k + 1) (lN (dN x i)) (nI (msk v x i)) (nI i) := by
      intro k
      induction k with
      | zero =>
        intro i hi
        obtain rfl : i = v 14 0 := by omega
        exact ⟨fun _ => kk, fun c => absurd ((cmp_le e14 (by omega) (by omega)).mpr (Nat.le_refl _)) c⟩
      | succ k ih =>
        intro i hi
        have hlt := dN_lt hx (i + 1)
        have b26 := (hv.1.2.2.2.2.2.1 i (by omega)).2.1
        have go := ih (i + 1) (by omega)
        rw [msk] at go
        refine ⟨fun c => absurd ((cmp_le e14 (by omega) (by omega)).mp c) (by omega), fun _ y hy => ⟨vp_in_nI (by omega) (by decide), ?_⟩⟩
        rw [dr_c, show dr (dN x i) = dN x (i + 1) from rfl] at hy
        rw [hy, dr_p hlt, nI_clamp (by omega), (hC.2.2.2.2.2.1 i (by omega)).2.1, nI_l (by omega), lN_le (by omega) (by omega), nI_1]
        refine ⟨fun c => ?_, fun c z hz => ?_⟩
        · rw [if_neg (by unfold cmb; simp; omega)] at go
          exact go
        · rw [if_pos (by unfold cmb; simp; omega)] at go
          rw [sh1 (by omega), fa_or] at hz
          rw [hz]
          exact go
    exact ⟨v 14 0 + 1, L (v 14 0) 0 (by omega)⟩
  have L : ∀ (k i : Nat) (tak too : Nat → Int32), i + k = v 1 0 → (∀ b, b < 10 → tak b = nI ((yr v (CR v s) i).1 b)) → (∀ t, t < 6 → too t = nI ((yr v (CR v s) i).2 t)) → P_X3_drawYear_14 ns na rs ra (nI s) post 1 (k + 1) (lN (xs v s i)) (nI (sumN (yr v (CR v s) i).1 10)) (nI i) tak too := by
    intro k
    induction k with
    | zero =>
      intro i tak too hi q2 q3
      obtain rfl : i = v 1 0 := by omega
      exact ⟨fun _ => h tak too q2, fun c => absurd ((cmp_le e1 (by omega) (by omega)).mpr (Nat.le_refl _)) c⟩
    | succ k ih =>
      intro i tak too hi q2 q3
      refine ⟨fun c => absurd ((cmp_le e1 (by omega) (by omega)).mp c) (by omega), fun _ => ?_⟩
      refine I (xs v s i) (xs_lt hs i) _ _ _ _ _ ?_
      unfold P_X3_drawYear_97
      rw [e14]
      have hm : msk v (xs v s i) (v 14 0) < 2 ^ 31 := Nat.lt_of_lt_of_le (msk_lt _ _ _) (Nat.pow_le_pow_right (by decide) (by omega))
      have ec : nsn v (fun t => (msk v (xs v s i) (v 14 0)).testBit t) (0, (yr v (CR v s) i).1, (yr v (CR v s) i).2) (v 14 0) = nsn v (CR v s i) (0, (yr v (CR v s) i).1, (yr v (CR v s) i).2) (v 14 0) := nsn_cong _ (fun t ht => msk_bit v _ ht)
      refine c_letAll hv hN hm q2 q3 (fun tak too t1 t2 x hx => ?_)
      rw [ec] at t1 t2 hx
      rw [nI_add, ← yr_sum h13] at hx
      rw [hx, nI_1]
      exact ih (i + 1) _ _ (by omega) t1 t2
  exact ⟨v 1 0 + 1, L (v 1 0) 0 _ _ (by omega) b1 b2⟩
/-! the reference -/
/-- row 21 holds what was taken, and by whom -/
def YRm (ma : A2) (T K : Nat → Nat) : Prop := (∀ b, b < 10 → ma 21 b = nI (T b)) ∧ ∀ t, t < 6 → ma 21 (10 + t) = nI (K t)
theorem m_newYear {v : Rl} (hv : okR v) (hM : RM v 0 ms ma) {post : A1 → A2 → Prop} (h : ∀ mb, LR v 0 (v 13 0) (va_up ms 12 (nI (v 13 0))) mb → (∀ j, j ≠ 18 → j ≠ 19 → j ≠ 21 → mb j = ma j) → YRm mb (fun _ => 0) (fun _ => 0) → post (va_up ms 12 (nI (v 13 0))) mb) : P_X12_newYear ms ma post := by
  refine m_lays hv.1 hM none (by decide) (fun mb hL hmb => ?_)
  have L : ∀ (k i : Nat) (mc : A2), i + k = 16 → (∀ j, j ≠ 21 → mc j = mb j) → (∀ x, x < i → mc 21 x = 0) → P_X12_newYear_7 post (va_up ms 12 (nI (v 13 0))) (k + 1) (nI i) mc := by
    intro k
    induction k with
    | zero =>
      intro i mc hi q1 q2
      obtain rfl : i = 16 := by omega
      refine ⟨fun _ => h mc ?_ (fun j a b c => by rw [q1 j c]; exact hmb j a b) ⟨fun b hb => q2 b (by omega), fun t ht => q2 _ (by omega)⟩, fun c => absurd (nI_le (a := 16) (b := 16) (by decide) (by decide)) c⟩
      unfold LR at hL ⊢
      rw [q1 18 (by decide), q1 19 (by decide)]
      exact hL
    | succ k ih =>
      intro i mc hi q1 q2
      refine ⟨fun c => absurd ((nI_leI (a := 16) (by decide) (by omega)).mp c) (by omega), fun _ => ⟨vp_in_nI (by omega) (by decide), ?_⟩⟩
      rw [nI_1, nI_clamp (by omega)]
      refine ih (i + 1) _ (by omega) (fun j hj => by rw [up_ne hj]; exact q1 j hj) (fun x hx => ?_)
      rw [up_at]
      by_cases c : x = i
      · rw [c, u_at]
      · rw [u_ne c]; exact q2 x (by omega)
  exact ⟨17, L 16 0 mb (by omega) (fun _ _ => rfl) (fun x hx => by omega)⟩
theorem m_comes {v : Rl} (hv : okR v) (hT : RelT v 0 ma) (hL : LR v 0 (v 13 0) ms ma) {t : Nat} (ht : t < v 14 0) {S : NS} (hS : S.1 < 1024) (hY : YRm ma S.2.1 S.2.2) {C : Nat → Bool} (hC : C t = true) {post : Int32 → A2 → Prop} (h : ∀ mb, (∀ j, j ≠ 21 → mb j = ma j) → YRm mb (ns1 v C t S).2.1 (ns1 v C t S).2.2 → post (nI (ns1 v C t S).1) mb) : P_X12_comes ms ma (nI t) (nI S.1) post := by
  have h13 := ok13 hv.1
  have h14 := ok14 hv.1
  refine m_takesOf (s := 0) hv.1 hv.2.1 (by decide) hT hL ht (by omega) ?_
  unfold ns1 at h
  rw [if_pos hC] at h
  cases hk : tk v 0 t S.1 with
  | none =>
    rw [hk] at h
    exact ⟨fun c => absurd rfl c, fun _ => h ma (fun _ _ => rfl) hY⟩
  | some b =>
    rw [hk] at h
    have hb := tk0_lt hk
    rw [show oI (some b) = nI b from rfl]
    refine ⟨fun _ => ?_, fun c => absurd c (nI_nm1 (by omega))⟩
    rw [show (10 : Int32) + nI t = nI (10 + t) by simp only [fa_lit, nI_add], sh1 (by omega), fa_or, nI_clamp (by omega), nI_clamp (by omega), u_ne (show 10 + t ≠ b by omega), hY.1 b (by omega), hY.2 t (by omega), nI_1, nI_1]
    refine ⟨vp_in_nI (by omega) (by decide), vp_in_nI (by omega) (by decide), vp_in_nI (by omega) (by decide), vp_in_nI (by omega) (by decide), h _ (fun j hj => up_ne hj) ⟨fun y hy => ?_, fun y hy => ?_⟩⟩
    · rw [up_at, u_ne (by omega)]
      show upd (ma 21) b (nI (S.2.1 b + 1)) y = nI (upN S.2.1 b y)
      unfold upN
      by_cases w : y = b
      · rw [w, u_at, if_pos rfl]
      · rw [u_ne w, if_neg w]; exact hY.1 y hy
    · rw [up_at]
      show upd _ (10 + t) (nI (S.2.2 t + 1)) (10 + y) = nI (upN S.2.2 t y)
      unfold upN
      by_cases w : y = t
      · rw [w, u_at, if_pos rfl]
      · rw [u_ne (by omega), u_ne (by omega), if_neg w]; exact hY.2 y hy
theorem m_draws {v : Rl} (hv : okR v) (hM : RM v 0 ms ma) (mw : Nat → Int64) {s : Nat} (hs : s < 2147483648) {post : A1 → (Nat → Int64) → A2 → Prop} (h : ∀ mt mw' mb, RM v 0 mt mb → MG ms ma ml mt mb ml → YRm mb (yr v (CR v s) (v 1 0)).1 (yr v (CR v s) (v 1 0)).2 → post mt mw' mb) : P_X12_draws ms mw ma (lN s) post := by
  have h13 := ok13 hv.1
  have h14 := ok14 hv.1
  have h1 := ok1 hv.1
  refine m_newYear hv hM (fun mb hL hmb hY0 => ?_)
  have RMx : ∀ mc : A2, (∀ j, j ≠ 21 → mc j = mb j) → RM v 0 (va_up ms 12 (nI (v 13 0))) mc := fun mc hc => hM.fr (fun i _ _ => by rw [hc i (by omega)]; exact hmb i (by omega) (by omega) (by omega)) (up_ne (by decide)) (up_ne (by decide))
  have LRx : ∀ mc : A2, (∀ j, j ≠ 21 → mc j = mb j) → LR v 0 (v 13 0) (va_up ms 12 (nI (v 13 0))) mc := fun mc hc => by
    unfold LR at hL ⊢
    rw [hc 18 (by decide), hc 19 (by decide)]
    exact hL
  have I : ∀ (i : Nat) (R11 : Int32 → (Nat → Int64) → A2 → Prop) (mc : A2) (mw' : Nat → Int64), (∀ j, j ≠ 21 → mc j = mb j) → mw' 4 = lN (xs v s i) → YRm mc (yr v (CR v s) i).1 (yr v (CR v s) i).2 → (∀ mw2 md, (∀ j, j ≠ 21 → md j = mb j) → mw2 4 = lN (xs v s (i + 1)) → YRm md (yr v (CR v s) (i + 1)).1 (yr v (CR v s) (i + 1)).2 → R11 (nI (i + 1)) mw2 md) → ∃ n, P_X12_draws_27 (lN s) (va_up ms 12 (nI (v 13 0))) post R11 (nI i) n 0 0 mw' mc := by
    intro i R11 mc mw' g1 g2 g3 kk
    have L : ∀ (k t : Nat) (w : Nat → Int64) (md : A2), t + k = v 14 0 → (∀ j, j ≠ 21 → md j = mb j) → w 4 = lN (dN (xs v s i) t) → YRm md (nsn v (CR v s i) (0, (yr v (CR v s) i).1, (yr v (CR v s) i).2) t).2.1 (nsn v (CR v s i) (0, (yr v (CR v s) i).1, (yr v (CR v s) i).2) t).2.2 → P_X12_draws_27 (lN s) (va_up ms 12 (nI (v 13 0))) post R11 (nI i) (k + 1) (nI (nsn v (CR v s i) (0, (yr v (CR v s) i).1, (yr v (CR v s) i).2) t).1) (nI t) w md := by
      intro k
      induction k with
      | zero =>
        intro t w md ht q1 q2 q3
        obtain rfl : t = v 14 0 := by omega
        refine ⟨fun _ => ?_, fun c => absurd ((cmp_le (RMx md q1).2.1.1 (by omega) (by omega)).mpr (Nat.le_refl _)) c⟩
        rw [nI_1]
        exact kk w md q1 q2 q3
      | succ k ih =>
        intro t w md ht q1 q2 q3
        have hx := xs_lt (v := v) hs i
        have hlt := dN_lt hx (t + 1)
        have b26 := (hv.1.2.2.2.2.2.1 t (by omega)).2.1
        have e26 := ((RMx md q1).2.1.2 t (by omega)).2.1
        refine ⟨fun c => absurd ((cmp_le (RMx md q1).2.1.1 (by omega) (by omega)).mp c) (by omega), fun _ y hy => ?_⟩
        rw [q2, dr_m (dN_lt hx t), show dr (dN (xs v s i) t) = dN (xs v s i) (t + 1) from rfl] at hy
        rw [hy, dr_p hlt, lN_i, show (5 : Int32) * nI t + 1 = nI (5 * (6 * 0 + t) + 1) by rw [show 6 * 0 + t = t by omega]; simp only [fa_lit, pk_mul, nI_add], nI_clamp (by omega), e26, nI_leI (by omega) (by omega), nI_1]
        have hlt2 := nsn_lt h13 (CR v s i) (S := (0, (yr v (CR v s) i).1, (yr v (CR v s) i).2)) (show (0 : Nat) < 1024 by decide) t
        refine ⟨vp_in_nI (by omega) (by decide), fun c => ?_, fun c => ?_⟩
        · have cf : ¬ CR v s i t = true := by unfold CR cmb; simp; omega
          have go := ih (t + 1) (va_up w 4 (lN (dN (xs v s i) (t + 1)))) md (by omega) q1 up_at
          rw [nsn] at go
          unfold ns1 at go
          rw [if_neg cf] at go
          exact go q3
        · have cf : CR v s i t = true := by unfold CR cmb; simp; omega
          refine m_comes hv (RMx md q1).2.1 (LRx md q1) (by omega) hlt2 q3 cf (fun me e1 e2 => ?_)
          have go := ih (t + 1) (va_up w 4 (lN (dN (xs v s i) (t + 1)))) me (by omega) (fun j hj => (e1 j hj).trans (q1 j hj)) up_at
          rw [nsn] at go
          exact go e2
    exact ⟨v 14 0 + 1, L (v 14 0) 0 mw' mc (by omega) g1 g2 g3⟩
  have L : ∀ (k i : Nat) (w : Nat → Int64) (mc : A2), i + k = v 1 0 → (∀ j, j ≠ 21 → mc j = mb j) → w 4 = lN (xs v s i) → YRm mc (yr v (CR v s) i).1 (yr v (CR v s) i).2 → P_X12_draws_11 (lN s) post (va_up ms 12 (nI (v 13 0))) (k + 1) (nI i) w mc := by
    intro k
    induction k with
    | zero =>
      intro i w mc hi q1 q2 q3
      obtain rfl : i = v 1 0 := by omega
      have e5 : mc 5 0 = nI (v 1 0) := (RMx mc q1).1.1.2.2.1
      have q : ∀ j, j ≠ 18 → j ≠ 19 → j ≠ 21 → mc j = ma j := fun j a b c => (q1 j c).trans (hmb j a b c)
      exact ⟨fun _ => h _ _ _ (RMx mc q1) ⟨fun j _ b _ => up_ne b, fun j hj _ _ _ => q j (by omega) (by omega) (by omega), fun x _ => by rw [q 11 (by decide) (by decide) (by decide)], fun x _ => by rw [q 14 (by decide) (by decide) (by decide)], rfl⟩ q3, fun c => absurd ((cmp_le e5 (by omega) (by omega)).mpr (Nat.le_refl _)) c⟩
    | succ k ih =>
      intro i w mc hi q1 q2 q3
      have e5 : mc 5 0 = nI (v 1 0) := (RMx mc q1).1.1.2.2.1
      refine ⟨fun c => absurd ((cmp_le e5 (by omega) (by omega)).mp c) (by omega), fun _ => ?_⟩
      exact I i _ mc w q1 q2 q3 (fun w2 md d1 d2 d3 => ih (i + 1) w2 md (by omega) d1 d2 d3)
  exact ⟨v 1 0 + 1, L (v 1 0) 0 _ mb (by omega) (fun _ _ => rfl) up_at hY0⟩
theorem m_drawnAll {T K : Nat → Nat} (hY : YRm ma T K) {post : Int32 → Prop} (h : post (nI (sumN T 10))) : P_X12_drawnAll ma post := by
  have L : ∀ (k i : Nat), i + k = 10 → P_X12_drawnAll_4 ma post (k + 1) (nI (sumN T i)) (nI i) := by
    intro k
    induction k with
    | zero =>
      intro i hi
      obtain rfl : i = 10 := by omega
      exact ⟨fun _ => h, fun c => absurd (nI_le (a := 10) (b := 10) (by decide) (by decide)) c⟩
    | succ k ih =>
      intro i hi
      refine ⟨fun c => absurd ((nI_leI (a := 10) (by decide) (by omega)).mp c) (by omega), fun _ => ⟨vp_in_nI (by omega) (by decide), fun x hx => ?_⟩⟩
      rw [nI_clamp (by omega), hY.1 i (by omega), nI_add] at hx
      rw [hx, nI_1]
      exact ih (i + 1) (by omega)
  exact ⟨11, L 10 0 (by omega)⟩
theorem m_tellsYear {T K : Nat → Nat} (hY : YRm ma T K) {post : Int32 → A2 → Prop} (h : ∀ r : Nat → Int32, r 0 = 1 → (∀ b, b < 10 → r (1 + b) = nI (T b)) → (∀ t, t < 6 → r (11 + t) = nI (K t)) → (∀ x, 17 ≤ x → r x = ma 16 x) → post (nI (sumN T 10)) (va_up ma 16 r)) : P_X12_tellsYear ma post := by
  have L : ∀ (k i : Nat) (r : Nat → Int32), i + k = 16 → r 0 = 1 → (∀ x, x < i → r (1 + x) = ma 21 x) → (∀ x, 17 ≤ x → r x = ma 16 x) → P_X12_tellsYear_9 post (fun (ma : Nat → Nat → Int32) => P_X12_tellsYear_35 post ma) (k + 1) (nI i) (va_up ma 16 r) := by
    intro k
    induction k with
    | zero =>
      intro i r hi q0 q1 q2
      obtain rfl : i = 16 := by omega
      refine ⟨fun _ => m_drawnAll (T := T) (K := K) (ma := va_up ma 16 r) ⟨fun b hb => by rw [up_ne (by decide)]; exact hY.1 b hb, fun t ht => by rw [up_ne (by decide)]; exact hY.2 t ht⟩ (h r q0 (fun b hb => (q1 b (by omega)).trans (hY.1 b hb)) (fun t ht => ?_) q2), fun c => absurd (nI_le (a := 16) (b := 16) (by decide) (by decide)) c⟩
      have := q1 (10 + t) (by omega)
      rw [show 1 + (10 + t) = 11 + t by omega] at this
      exact this.trans (hY.2 t ht)
    | succ k ih =>
      intro i r hi q0 q1 q2
      refine ⟨fun c => absurd ((nI_leI (a := 16) (by decide) (by omega)).mp c) (by omega), fun _ => ?_⟩
      rw [show (1 : Int32) + nI i = nI (1 + i) by simp only [fa_lit, nI_add], nI_clamp (by omega), nI_clamp (by omega), up_at, up_ne (show (21 : Nat) ≠ 16 by decide), nI_1]
      refine ⟨vp_in_nI (by omega) (by decide), vp_in_nI (by omega) (by decide), ?_⟩
      have e : va_up (va_up ma 16 r) 16 (upd r (1 + i) (ma 21 i)) = va_up ma 16 (upd r (1 + i) (ma 21 i)) := by
        funext j
        by_cases c : j = 16
        · rw [c, up_at, up_at]
        · rw [up_ne c, up_ne c, up_ne c]
      rw [e]
      refine ih (i + 1) _ (by omega) (by rw [u_ne (by omega)]; exact q0) (fun x hx => ?_) (fun x hx => by rw [u_ne (by omega)]; exact q2 x hx)
      by_cases c : x = i
      · rw [c, u_at]
      · rw [u_ne (by omega)]; exact q1 x (by omega)
  exact ⟨17, L 16 0 _ (by omega) u_at (fun x hx => by omega) (fun x hx => u_ne (by omega))⟩
theorem seed_cases (p : Int32) : ((∀ post : Int32 → Prop, post 0 → P_X11_isSeed p post) ∧ ∀ post : Int32 → Prop, post 0 → P_X12_isSeed p post) ∨ ∃ s, s ≤ 2000000000 ∧ p = nI s ∧ (∀ post : Int32 → Prop, post 1 → P_X11_isSeed p post) ∧ ∀ post : Int32 → Prop, post 1 → P_X12_isSeed p post := by
  by_cases c : p < 0
  · refine Or.inl ⟨fun post h => ⟨fun _ => h, fun z => absurd c z⟩, fun post h => ⟨fun _ => ⟨Or.inl rfl, h⟩, fun z => absurd (wide0.mpr c) z⟩⟩
  · rw [Int32.lt_iff_toInt_lt, show (0 : Int32).toInt = 0 from rfl] at c
    have hr := fb_rng p
    have e : p = nI p.toInt.toNat := by
      apply Int32.toInt_inj.mp
      rw [nI_toInt (by omega)]
      omega
    generalize p.toInt.toNat = s at e
    have hs : s < 2 ^ 31 ∨ 2 ^ 31 ≤ s := by omega
    by_cases d : (2000000000 : Int32) < p
    · refine Or.inl ⟨fun post h => ⟨fun _ => h, fun _ => ⟨fun _ => h, fun z => absurd d z⟩⟩, fun post h => ⟨fun _ => ⟨Or.inl rfl, h⟩, fun _ => ⟨fun _ => ⟨Or.inl rfl, h⟩, fun z => absurd ?_ z⟩⟩⟩
      rw [show (2000000000 : Int64) = (2000000000 : Int32).toInt64 from rfl, fa_wide_lt]
      exact d
    · refine Or.inr ⟨p.toInt.toNat, ?_, ?_, fun post h => ⟨fun z => absurd z (by rw [Int32.lt_iff_toInt_lt, show (0 : Int32).toInt = 0 from rfl]; exact c), fun _ => ⟨fun z => absurd z d, fun _ => h⟩⟩, fun post h => ⟨fun z => absurd (wide0.mp z) (by rw [Int32.lt_iff_toInt_lt, show (0 : Int32).toInt = 0 from rfl]; exact c), fun _ => ⟨fun z => absurd ?_ d, fun _ => ⟨Or.inr rfl, h⟩⟩⟩⟩
      · rw [Int32.lt_iff_toInt_lt, show (2000000000 : Int32).toInt = 2000000000 from rfl] at d
        omega
      · apply Int32.toInt_inj.mp
        rw [nI_toInt (by omega)]
        omega
      · rw [show (2000000000 : Int64) = (2000000000 : Int32).toInt64 from rfl, fa_wide_lt] at z
        exact z
theorem q_run (hI : Inv us ua rs ra ra2 sa sl ns na nl yt im ms ma ml) (mw : Nat → Int64) (p : Int32) : P_X11_run rs ra ns na p (fun r rs' ra' ns' na' => P_X12_run ms mw ma p (fun r' mt _ mb => r = r' ∧ Inv us ua rs' ra' ra2 sa sl ns' na' nl yt im mt mb ml)) := by
  obtain ⟨v, hv, hC, hM, hP, hY, hK, hB, F⟩ := hI.get
  have fin := F ra2 ns na nl _ _ _ (MG.refl _ _ _) hM.1 hB hK
  rcases seed_cases p with ⟨h1, h2⟩ | ⟨s, hs, rfl, h1, h2⟩
  · have M : P_X12_run ms mw ma p (fun r' mt _ mb => -2 = r' ∧ Inv us ua rs ra ra2 sa sl ns na nl yt im mt mb ml) := h2 _ (b0f ⟨rfl, fin⟩)
    rcases Nat.eq_zero_or_pos (v 2 0) with z | z
    · exact c_told0 hC z (b0f M)
    · exact c_told hC hv.1 z (b1f (h1 _ (b0t M)))
  · rcases Nat.eq_zero_or_pos (v 2 0) with z | z
    · exact c_told0 hC z (b0f (h2 _ (b1f (m_rail0 hM.1 hv.1 z (b0t ⟨rfl, fin⟩)))))
    · refine c_told hC hv.1 z (b1f (h1 _ (b1t (c_lookAt hC hv.1 (fun nb hN hb => c_drawAl hv hC hN (by omega) (fun rs' ra' hC' => ?_))))))
      refine h2 _ (b1f (m_rail hM.1 hv.1 z (b1t ?_)))
      rw [nI_l (by omega)]
      refine m_draws (ml := ml) hv hM mw (by omega) (fun mt mw' mb hM' hG hYr => m_tellsYear hYr (fun r r0 r1 r2 r3 => ⟨rfl, ?_⟩))
      have I1 := F ra2 ns na nl mt mb ml hG hM'.1 hB hK
      exact I1.year hv hC' hM'.1 hM'.2.1 (hP.eq (hG.2.1 6 (by decide) (by decide) (by decide) (by decide)) (hG.2.1 7 (by decide) (by decide) (by decide) (by decide))) r0 r1 r2 r3 (hK.look hb _)
end RN
