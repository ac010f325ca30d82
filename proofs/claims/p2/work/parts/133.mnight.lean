/-! the reference: a night -/
theorem m_night {v : Rl} (hv : okV v) (hJ : okJ v) {ms : Nat → Int32} {ma : Nat → Nat → Int32} {ml : Nat → Nat → Int64} (hM : RM v 0 ms ma) {post : (Nat → Int32) → (Nat → Nat → Int32) → (Nat → Nat → Int64) → Prop}
    (h : ∀ (mb : Nat → Nat → Int32) (mk : Nat → Nat → Int64), (∀ j, j ≠ 18 → j ≠ 19 → mb j = ma j) → (∀ j, j ≠ 2 → j ≠ 3 → j ≠ 4 → mk j = ml j) → (∀ x, x < 2 ^ v 13 0 → mk 2 x = nD v 0 0 D1 (v 14 0) x) → (∀ t b, t < 6 → b < 10 → mk 4 (10 * t + b) = hadN v t b) → post (va_up ms 12 (nI (v 13 0))) mb mk) : P_X12_night ms ma ml post := by
  have h13 := ok13 hv
  have h14 := ok14 hv
  have hn := pow13 h13
  have hn0 : 0 < 2 ^ v 13 0 := Nat.two_pow_pos _
  refine m_lays hv hM none (by decide) (fun mb hL hb => ?_)
  have hM2 : RM v 0 (va_up ms 12 (nI (v 13 0))) mb := hM.fr (fun i h3 h4 => hb i (by omega) (by omega)) (up_ne (by decide)) (up_ne (by decide))
  have e13 : mb 10 0 = nI (v 13 0) := hM2.1.1.2.2.2.2
  have e14 : mb 12 0 = nI (v 14 0) := hM2.2.1.1
  intro x12 hx12
  rw [e13, sh1 (by omega)] at hx12
  subst hx12
  -- a thief: who comes, state by state
  have S : ∀ (t : Nat), t < v 14 0 → ∀ (R67 : Int32 → (Nat → Nat → Int64) → Prop) (lc : Nat → Nat → Int64), (∀ x, x < 2 ^ v 13 0 → lc 2 x = nD v 0 0 D1 t x) → (∀ x, x < 2 ^ v 13 0 → lc 3 x = cmP v t (nD v 0 0 D1 t x)) →
      (∀ ld : Nat → Nat → Int64, (∀ x, x < 2 ^ v 13 0 → ld 2 x = nD v 0 0 D1 (t + 1) x) → (∀ b, b < v 13 0 → ld 4 (10 * t + b) = lc 4 (10 * t + b) + hst v 0 t (nD v 0 0 D1 t) b) → (∀ x, (x < 10 * t ∨ 10 * t + v 13 0 ≤ x) → ld 4 x = lc 4 x) → (∀ j, j ≠ 2 → j ≠ 4 → ld j = lc j) → R67 (nI (t + 1)) ld) →
      ∃ n, P_X12_night_120 (nI (2 ^ v 13 0)) (va_up ms 12 (nI (v 13 0))) mb post R67 (nI t) n 0 lc := by
    intro t ht R67 lc hc2 hc3 kk
    have L : ∀ (k i : Nat) (ld : Nat → Nat → Int64), i + k = 2 ^ v 13 0 → (∀ x, x < 2 ^ v 13 0 → ld 2 x = nD v 0 0 D1 t x + sumL (fun q => evl (chg v 0 0 t q (nD v 0 0 D1 t q)) x) i) → (∀ b, b < v 13 0 → ld 4 (10 * t + b) = lc 4 (10 * t + b) + sumL (fun q => if who v 0 t q = some b then cmP v t (nD v 0 0 D1 t q) else 0) i) → (∀ x, (x < 10 * t ∨ 10 * t + v 13 0 ≤ x) → ld 4 x = lc 4 x) → (∀ j, j ≠ 2 → j ≠ 4 → ld j = lc j) →
        P_X12_night_120 (nI (2 ^ v 13 0)) (va_up ms 12 (nI (v 13 0))) mb post R67 (nI t) (k + 1) (nI i) ld := by
      intro k
      induction k with
      | zero =>
        intro i ld hi q1 q2 q3 q4
        obtain rfl : i = 2 ^ v 13 0 := by omega
        refine ⟨fun _ => ?_, fun c => absurd (nI_le (Nat.le_refl _) (by omega)) c⟩
        rw [nI_1]
        have hN : 2 ^ v 13 0 ≤ N17 := by unfold N17; omega
        refine kk ld (fun x hx => ?_) (fun b hb => ?_) q3 q4
        · rw [q1 x hx, nD]
          unfold stp
          rw [sumL_ext hN (fun q h1 _ => by rw [nD_out h13 h1 t, chg_0])]
        · rw [q2 b hb]
          unfold hst
          rw [sumL_ext hN (fun q h1 _ => by rw [nD_out h13 h1 t, cmP_0]; simp)]
      | succ k ih =>
        intro i ld hi q1 q2 q3 q4
        have hin : i < 2 ^ v 13 0 := by omega
        have e3 : ld 3 i = cmP v t (nD v 0 0 D1 t i) := by rw [q4 3 (by decide) (by decide)]; exact hc3 i hin
        refine ⟨fun c => absurd ((nI_leI (by omega) (by omega)).mp c) (by omega), fun _ => ⟨vp_in_nI (by omega) (by decide), ?_⟩⟩
        rw [nI_clamp (by omega), e3, nI_1]
        have skip : (∀ x, evl (chg v 0 0 t i (nD v 0 0 D1 t i)) x = 0) → (∀ b, b < v 13 0 → (if who v 0 t i = some b then cmP v t (nD v 0 0 D1 t i) else 0) = 0) → P_X12_night_120 (nI (2 ^ v 13 0)) (va_up ms 12 (nI (v 13 0))) mb post R67 (nI t) (k + 1) (nI (i + 1)) ld := by
          intro z1 z2
          refine ih (i + 1) ld (by omega) (fun x hx => ?_) (fun b hb => ?_) q3 q4
          · rw [q1 x hx, sumL, z1 x, Int64.add_zero]
          · rw [q2 b hb, sumL, z2 b hb, Int64.add_zero]
        refine ⟨fun c => ?_, fun c => skip (chg_c0 c) (fun b hb => by rw [c]; simp)⟩
        refine m_takesOf (s := 0) hv hJ (by decide) hM2.2.1 hL ht (by omega) ?_
        rw [← who_small (s := 0) (v := v) (t := t) (q := i) (by omega)]
        cases hw : who v 0 t i with
        | none =>
          refine ⟨fun z => absurd rfl z, fun _ => skip (fun x => ?_) (fun b hb => by rw [hw]; simp)⟩
          unfold chg
          rw [hw]
          rfl
        | some b =>
          have hlt := who0_lt hw
          obtain ⟨-, -, -, w4⟩ := who_some hw
          rw [tb_mod (by omega)] at w4
          have hor := or_ltN hin hlt
          have hne : i ||| 2 ^ b ≠ i := by
            intro e
            have : (i ||| 2 ^ b).testBit b = i.testBit b := by rw [e]
            rw [tb_or, w4] at this
            simp at this
          refine ⟨fun _ => ?_, fun z => absurd z (nI_nm1 (by omega))⟩
          rw [show oI (some b) = nI b from rfl, sh1 (by omega), fa_or, show (10 : Int32) * nI t + nI b = nI (10 * t + b) by simp only [fa_lit, pk_mul, nI_add], nI_clamp (by omega), nI_clamp (by omega)]
          refine ⟨vp_in_nI (by omega) (by decide), vp_in_nI (by omega) (by decide), vp_in_nI (by omega) (by decide), vp_in_nI (by omega) (by decide), vp_in_nI (by omega) (by decide), vp_in_nI (by omega) (by decide), vp_in_nI (by omega) (by decide), vp_in_nI (by omega) (by decide), vp_in_nI (by omega) (by decide), ?_⟩
          refine ih (i + 1) _ (by omega) (fun x hx => ?_) (fun b' hb' => ?_) (fun x hx => ?_) (fun j j2 j4 => by rw [up_ne j4, up_ne j2]; exact q4 j j2 j4)
          · have ev : evl (chg v 0 0 t i (nD v 0 0 D1 t i)) x = (if x = i then -(cmP v t (nD v 0 0 D1 t i)) else 0) + (if x = i ||| 2 ^ b then cmP v t (nD v 0 0 D1 t i) else 0) := by
              unfold chg
              rw [hw]
              simp only
              rw [if_neg (by omega)]
              simp [evl]
            rw [up_ne (by decide), up_at, sumL, ev]
            have q1x := q1 x hx
            by_cases c1 : x = i ||| 2 ^ b
            · rw [c1, uL_at, uL_ne hne, if_neg hne, if_pos rfl]
              rw [c1] at q1x
              rw [q1x]
              grind
            · rw [uL_ne c1, if_neg c1]
              by_cases c2 : x = i
              · rw [c2, uL_at, if_pos rfl]
                rw [c2] at q1x
                rw [q1x]
                grind
              · rw [uL_ne c2, if_neg c2, q1x]
                grind
          · rw [up_at, sumL, hw]
            by_cases e : b' = b
            · subst e
              rw [uL_at, if_pos rfl, q2 b' hb', Int64.add_assoc]
            · rw [uL_ne (by omega), if_neg (by simp; omega), q2 b' hb', Int64.add_zero]
          · rw [up_at, uL_ne (by omega), q3 x hx]
    exact ⟨2 ^ v 13 0 + 1, L (2 ^ v 13 0) 0 lc (by omega) (fun x hx => by rw [hc2 x hx]; simp [sumL]) (fun b hb => by simp [sumL]) (fun _ _ => rfl) (fun _ _ _ => rfl)⟩
  -- a thief: the parts with him come
  have C : ∀ (t : Nat), t < v 14 0 → ∀ (K120 : Int32 → Int32 → (Nat → Nat → Int64) → Prop) (lc : Nat → Nat → Int64), (∀ x, x < 2 ^ v 13 0 → lc 2 x = nD v 0 0 D1 t x) →
      (∀ ld : Nat → Nat → Int64, (∀ x, x < 2 ^ v 13 0 → ld 3 x = cmP v t (nD v 0 0 D1 t x)) → (∀ j, j ≠ 3 → ld j = lc j) → K120 (nI t) 0 ld) →
      ∃ n, P_X12_night_79 (nI (2 ^ v 13 0)) (va_up ms 12 (nI (v 13 0))) mb post K120 (nI t) n 0 lc := by
    intro t ht K120 lc hc2 kk
    have hcm : v 26 t ≤ 100 := (hv.2.2.2.2.2.1 t ht).2.1
    have eT := hM2.2.1.2 t ht
    simp only [Nat.mul_zero, Nat.zero_add] at eT
    have L : ∀ (k i : Nat) (ld : Nat → Nat → Int64), i + k = 2 ^ v 13 0 → (∀ x, x < i → ld 3 x = cmP v t (nD v 0 0 D1 t x)) → (∀ j, j ≠ 3 → ld j = lc j) → P_X12_night_79 (nI (2 ^ v 13 0)) (va_up ms 12 (nI (v 13 0))) mb post K120 (nI t) (k + 1) (nI i) ld := by
      intro k
      induction k with
      | zero =>
        intro i ld hi q1 q2
        obtain rfl : i = 2 ^ v 13 0 := by omega
        exact ⟨fun _ => kk ld q1 q2, fun c => absurd (nI_le (Nat.le_refl _) (by omega)) c⟩
      | succ k ih =>
        intro i ld hi q1 q2
        refine ⟨fun c => absurd ((nI_leI (by omega) (by omega)).mp c) (by omega), fun _ => ⟨vp_in_nI (by omega) (by decide), ?_⟩⟩
        rw [show (5 : Int32) * nI t + 1 = nI (5 * t + 1) by simp only [fa_lit, pk_mul, nI_add], nI_clamp (by omega), nI_clamp (by omega), eT.2.1, nI_l (by omega), nI_1, q2 2 (by decide), hc2 i (by omega)]
        refine ⟨vp_in_nI (by omega) (by decide), vp_in_nI (by omega) (by decide), ?_⟩
        refine ih (i + 1) _ (by omega) (fun x hx => ?_) (fun j hj => by rw [up_ne hj, q2 j hj])
        rw [up_at]
        by_cases e : x = i
        · rw [e, uL_at]; rfl
        · rw [uL_ne e, q1 x (by omega)]
    exact ⟨2 ^ v 13 0 + 1, L (2 ^ v 13 0) 0 lc (by omega) (fun x hx => by omega) (fun _ _ => rfl)⟩
  have T : ∀ (k i : Nat) (ld : Nat → Nat → Int64), i + k = v 14 0 → (∀ x, x < 2 ^ v 13 0 → ld 2 x = nD v 0 0 D1 i x) → (∀ t b, t < 6 → b < 10 → ld 4 (10 * t + b) = if t < i then hadN v t b else 0) → (∀ j, j ≠ 2 → j ≠ 3 → j ≠ 4 → ld j = ml j) → P_X12_night_67 post (nI (2 ^ v 13 0)) (va_up ms 12 (nI (v 13 0))) mb (k + 1) (nI i) ld := by
    intro k
    induction k with
    | zero =>
      intro i ld hi q1 q2 q3
      obtain rfl : i = v 14 0 := by omega
      refine ⟨fun _ => h mb ld hb q3 q1 (fun t b ht hb => ?_), fun c => absurd ((cmp_le e14 (by omega) (by omega)).mpr (Nat.le_refl _)) c⟩
      rw [q2 t b ht hb]
      split
      · rfl
      · unfold hadN; rw [if_neg (by omega)]
    | succ k ih =>
      intro i ld hi q1 q2 q3
      refine ⟨fun c => absurd ((cmp_le e14 (by omega) (by omega)).mp c) (by omega), fun _ => ?_⟩
      refine C i (by omega) _ ld q1 (fun le r1 r2 => ?_)
      refine S i (by omega) _ le (fun x hx => by rw [r2 2 (by decide)]; exact q1 x hx) r1 (fun lf p1 p2 p3 p4 => ?_)
      refine ih (i + 1) lf (by omega) p1 (fun t b ht hb => ?_) (fun j j2 j3 j4 => by rw [p4 j j2 j4, r2 j j3, q3 j j2 j3 j4])
      rw [r2 4 (by decide)] at p2 p3
      by_cases e : t = i
      · subst e
        rw [if_pos (by omega)]
        by_cases hbb : b < v 13 0
        · rw [p2 b hbb, q2 t b ht hb, if_neg (by omega), Int64.zero_add]
          unfold hadN
          rw [if_pos ⟨by omega, hbb⟩]
        · rw [p3 _ (by omega), q2 t b ht hb, if_neg (by omega)]
          unfold hadN
          rw [if_neg (by omega)]
      · rw [p3 _ (by omega), q2 t b ht hb]
        by_cases c : t < i
        · rw [if_pos c, if_pos (by omega)]
        · rw [if_neg c, if_neg (by omega)]
  have Z : ∀ (k i : Nat) (ld : Nat → Nat → Int64), i + k = 60 → (∀ x, x < 2 ^ v 13 0 → ld 2 x = D1 x) → (∀ x, x < i → ld 4 x = 0) → (∀ j, j ≠ 2 → j ≠ 3 → j ≠ 4 → ld j = ml j) → P_X12_night_46 post (fun (x1_ : Int32) (ms : Nat → Int32) (ma : Nat → Nat → Int32) (x2_ : Int32) (ml : Nat → Nat → Int64) => (∃ n : Nat, P_X12_night_67 post x1_ ms ma n x2_ ml)) (nI (2 ^ v 13 0)) (va_up ms 12 (nI (v 13 0))) mb (k + 1) (nI i) ld := by
    intro k
    induction k with
    | zero =>
      intro i ld hi q1 q2 q3
      obtain rfl : i = 60 := by omega
      refine ⟨fun _ => ⟨v 14 0 + 1, T (v 14 0) 0 ld (by omega) q1 (fun t b ht hb => by rw [q2 _ (by omega)]; simp) q3⟩, fun c => absurd (by decide) c⟩
    | succ k ih =>
      intro i ld hi q1 q2 q3
      refine ⟨fun c => absurd ((nI_leI (a := 60) (by omega) (by omega)).mp c) (by omega), fun _ => ⟨vp_in_nI (by omega) (by decide), ?_⟩⟩
      rw [nI_1, nI_clamp (by omega)]
      refine ih (i + 1) _ (by omega) (fun x hx => by rw [up_ne (by decide)]; exact q1 x hx) (fun x hx => ?_) (fun j j2 j3 j4 => by rw [up_ne j4, q3 j j2 j3 j4])
      rw [up_at]
      by_cases e : x = i
      · rw [e, uL_at]
      · rw [uL_ne e, q2 x (by omega)]
  have F : ∀ (k i : Nat) (ld : Nat → Nat → Int64), i + k = 2 ^ v 13 0 → (∀ x, x < i → ld 2 x = D1 x) → (∀ j, j ≠ 2 → j ≠ 3 → j ≠ 4 → ld j = ml j) → P_X12_night_16 post (fun (x1_ : Int32) (ms : Nat → Int32) (ma : Nat → Nat → Int32) (x2_ : Int32) (ml : Nat → Nat → Int64) => (∃ n : Nat, P_X12_night_46 post (fun (x1_ : Int32) (ms : Nat → Int32) (ma : Nat → Nat → Int32) (x2_ : Int32) (ml : Nat → Nat → Int64) => (∃ n : Nat, P_X12_night_67 post x1_ ms ma n x2_ ml)) x1_ ms ma n x2_ ml)) (nI (2 ^ v 13 0)) (va_up ms 12 (nI (v 13 0))) mb (k + 1) (nI i) ld := by
    intro k
    induction k with
    | zero =>
      intro i ld hi q1 q2
      obtain rfl : i = 2 ^ v 13 0 := by omega
      exact ⟨fun _ => ⟨61, Z 60 0 ld (by omega) q1 (fun x hx => by omega) q2⟩, fun c => absurd (nI_le (Nat.le_refl _) (by omega)) c⟩
    | succ k ih =>
      intro i ld hi q1 q2
      refine ⟨fun c => absurd ((nI_leI (by omega) (by omega)).mp c) (by omega), fun _ => ?_⟩
      rw [nI_1, nI_clamp (by omega), show (0 : Int32) = nI 0 from rfl, nI_eq (by omega) (by decide)]
      have st : ∀ y : Int64, y = D1 i → P_X12_night_16 post (fun (x1_ : Int32) (ms : Nat → Int32) (ma : Nat → Nat → Int32) (x2_ : Int32) (ml : Nat → Nat → Int64) => (∃ n : Nat, P_X12_night_46 post (fun (x1_ : Int32) (ms : Nat → Int32) (ma : Nat → Nat → Int32) (x2_ : Int32) (ml : Nat → Nat → Int64) => (∃ n : Nat, P_X12_night_67 post x1_ ms ma n x2_ ml)) x1_ ms ma n x2_ ml)) (nI (2 ^ v 13 0)) (va_up ms 12 (nI (v 13 0))) mb (k + 1) (nI (i + 1)) (va_up ld 2 (vp_updL (ld 2) i y)) := by
        intro y hy
        refine ih (i + 1) _ (by omega) (fun x hx => ?_) (fun j j2 j3 j4 => by rw [up_ne j2, q2 j j2 j3 j4])
        rw [up_at]
        by_cases e : x = i
        · rw [e, uL_at, hy]
        · rw [uL_ne e, q1 x (by omega)]
      refine ⟨fun c => ⟨vp_in_nI (by omega) (by decide), st 0 ?_⟩, fun c => ⟨vp_in_nI (by omega) (by decide), st _ ?_⟩⟩
      · unfold D1; rw [if_neg c]
      · unfold D1; rw [if_pos c]
  exact ⟨2 ^ v 13 0 + 1, F (2 ^ v 13 0) 0 ml (by omega) (fun x hx => by omega) (fun _ _ _ _ => rfl)⟩
/-- the reference's parts behind a night -/
def MP (v : Rl) (ml : Nat → Nat → Int64) : Prop := (∀ x, x < 2 ^ v 13 0 → ml 2 x = nD v 0 0 D1 (v 14 0) x) ∧ (∀ t b, t < 6 → b < 10 → ml 4 (10 * t + b) = hadN v t b)
theorem m_riskOf {v : Rl} (hv : okV v) {ma : Nat → Nat → Int32} {ml : Nat → Nat → Int64} (hN : RelN v 0 ma) (hP : MP v ml) {b : Nat} (hb : b < v 13 0) {post : Int64 → Prop} (h : post (risk v b)) : P_X12_riskOf ma ml (nI b) post := by
  have h13 := ok13 hv
  have hn := pow13 h13
  have e13 : ma 10 0 = nI (v 13 0) := hN.1.2.2.2.2
  have L : ∀ k i, i + k = 2 ^ v 13 0 → P_X12_riskOf_5 ma ml (nI b) post (k + 1) (sumL (fun x => bitW b x * nD v 0 0 D1 (v 14 0) x) i) (nI i) := by
    intro k
    induction k with
    | zero =>
      intro i hi
      obtain rfl : i = 2 ^ v 13 0 := by omega
      have hN : 2 ^ v 13 0 ≤ N17 := by unfold N17; omega
      have := risk_eq h13 (ok14 hv) hb
      rw [sumL_ext hN (fun q h1 _ => by rw [nD_out h13 h1, Int64.mul_zero])] at this
      unfold P_X12_riskOf_5 P_X12_riskOf_5_b
      rw [this, e13, sh1 (by omega)]
      exact ⟨fun _ => h, fun c => absurd (nI_le (Nat.le_refl _) (by omega)) c⟩
    | succ k ih =>
      intro i hi
      have := ih (i + 1) (by omega)
      rw [sumL] at this
      unfold P_X12_riskOf_5 P_X12_riskOf_5_b
      rw [e13, sh1 (by omega), bit_o (by omega) (by omega), nI_clamp (by omega), hP.1 i (by omega), nI_1]
      refine ⟨fun c => absurd ((nI_leI (by omega) (by omega)).mp c) (by omega), fun _ => ⟨fun c x hx => ?_, fun c => ⟨vp_in_nI (by omega) (by decide), fun x hx => ?_⟩⟩⟩
      · have z : bitW b i = 0 := by unfold bitW; rw [if_neg c]
        rw [z, Int64.zero_mul] at this
        rw [hx]; exact this
      · have z : bitW b i = 1 := by unfold bitW; rw [if_pos c]
        rw [z, Int64.one_mul] at this
        rw [hx]; exact this
  exact ⟨2 ^ v 13 0 + 1, L (2 ^ v 13 0) 0 (by omega)⟩
theorem m_paidOf {v : Rl} (hv : okV v) {ma : Nat → Nat → Int32} (hN : RelN v 0 ma) {b : Nat} (hb : b < v 13 0) {post : Int64 → Prop} (h : post (lN (paidZ v b))) : P_X12_paidOf ma (nI b) post := by
  have h13 := ok13 hv
  have h12 := ok12 hv
  have h4 := ok4 hv
  obtain ⟨-, -, -, e23, e24⟩ := hN.2.2.2.1 b hb
  obtain ⟨-, -, -, b23, b24⟩ := hv.2.2.2.2.1 b hb
  have e4 : ma 14 0 = nI (v 4 0) := hN.2.2.2.2.1
  have fin : ∀ pr : Nat, pr ≤ 999 → pr = (if v 23 b = 0 then 0 else v 18 (v 23 b - 1)) → P_X12_paidOf_40 ma (nI b) post (nI (5 * (10 * 0 + b))) (nI pr) 1000 := by
    intro pr hpr he
    unfold P_X12_paidOf_40
    rw [show nI (5 * (10 * 0 + b)) + 4 = nI (5 * (10 * 0 + b) + 4) from nI_add _ 4, nI_clamp (by omega), e24, e4]
    unfold paidZ at h
    rw [← he] at h
    refine ⟨vp_in_nI (by omega) (by decide), fun c => ?_, fun c => ?_⟩
    · have z : v 24 b ≠ 1 := fun q => c (by rw [q]; rfl)
      rw [if_neg z] at h
      rw [show nI pr + 0 = nI (pr + 0) from nI_add pr 0, nI_l (by omega), show (1000 : Int64) = lN 1000 from rfl, lN_mul]
      exact h
    · have z : v 24 b = 1 := (nI_eq (b := 1) (by omega) (by decide)).mp c
      rw [if_pos z] at h
      rw [nI_add, nI_l (by omega), show (1000 : Int64) = lN 1000 from rfl, lN_mul]
      exact h
  show vp_in ((5 : Int32) * ((10 : Int32) * nI 0 + nI b) + 3) 250 ∧ ((¬ (ma 11 (((5 : Int32) * ((10 : Int32) * nI 0 + nI b) + 3).toNatClampNeg)) = (-1)) → vp_in ((5 : Int32) * ((10 : Int32) * nI 0 + nI b) + 3) 250 ∧ (vp_in (4 * (ma 11 (((5 : Int32) * ((10 : Int32) * nI 0 + nI b) + 3).toNatClampNeg))) 100 ∧ (P_X12_paidOf_40 ma (nI b) post ((5 : Int32) * ((10 : Int32) * nI 0 + nI b)) (ma 9 ((4 * (ma 11 (((5 : Int32) * ((10 : Int32) * nI 0 + nI b) + 3).toNatClampNeg))).toNatClampNeg)) 1000))) ∧ (((ma 11 (((5 : Int32) * ((10 : Int32) * nI 0 + nI b) + 3).toNatClampNeg)) = (-1)) → P_X12_paidOf_40 ma (nI b) post ((5 : Int32) * ((10 : Int32) * nI 0 + nI b)) 0 1000)
  rw [show (5 : Int32) * ((10 : Int32) * nI 0 + nI b) + 3 = nI (5 * (10 * 0 + b) + 3) from ix5 0 b 3, ix50, nI_clamp (by omega), e23]
  refine ⟨vp_in_nI (by omega) (by decide), fun c => ⟨vp_in_nI (by omega) (by decide), ?_⟩, fun c => ?_⟩
  · have hp : 0 < v 23 b := Nat.pos_of_ne_zero fun q => c ((nI_m1 (by omega)).mpr q)
    rw [nI_pre hp, show (4 : Int32) * nI (v 23 b - 1) = nI (4 * (5 * 0 + (v 23 b - 1))) by rw [show (4 : Int32) = nI 4 from rfl, pk_mul]; congr 1; omega, nI_clamp (by omega), hN.2.1 _ (by omega)]
    exact ⟨vp_in_nI (by omega) (by decide), fin _ (hv.2.2.1 _ (by omega)) (by rw [if_neg (by omega)])⟩
  · have hz : v 23 b = 0 := (nI_m1 (by omega)).mp c
    exact fin 0 (by decide) (by rw [if_pos hz])
theorem m_lossOf {v : Rl} (hv : okV v) {ma : Nat → Nat → Int32} {ml : Nat → Nat → Int64} (hN : RelN v 0 ma) (hP : MP v ml) {b : Nat} (hb : b < v 13 0) {post : Int64 → Prop} (h : post (lossL v b)) : P_X12_lossOf ma ml (nI b) post := by
  have h13 := ok13 hv
  have h1 := ok1 hv
  obtain ⟨e20, -⟩ := hN.2.2.2.1 b hb
  obtain ⟨b20, -⟩ := hv.2.2.2.2.1 b hb
  have e5 : ma 5 0 = nI (v 1 0) := hN.1.2.2.1
  have hm : v 1 0 * v 20 b ≤ 60 * 9999 := Nat.mul_le_mul h1 b20
  show vp_in ((5 : Int32) * ((10 : Int32) * nI 0 + nI b)) 250 ∧ P_X12_riskOf ma ml (nI b) (fun r2 => post ((((ma 5 0) * (ma 11 ((5 : Int32) * ((10 : Int32) * nI 0 + nI b)).toNatClampNeg)).toInt64 * r2) / 1000000000))
  rw [ix50, nI_clamp (by omega), e20, e5, pk_mul, nI_l (by omega)]
  exact ⟨vp_in_nI (by omega) (by decide), m_riskOf hv hN hP hb h⟩
theorem m_wages {v : Rl} (hv : okV v) {ma : Nat → Nat → Int32} (hN : RelN v 0 ma) {post : Int64 → Prop} (h : post (lN (wagesZ v))) : P_X12_wages ma post := by
  have h8 := ok8 hv
  have h1 := ok1 hv
  unfold P_X12_wages
  rw [show ma 14 4 = nI (v 8 0) from hN.2.2.2.2.2.2.2.2.1, show ma 5 0 = nI (v 1 0) from hN.1.2.2.1, nI_l (by omega), nI_l (by omega), show (1000 : Int64) = lN 1000 from rfl, lN_mul, lN_mul]
  exact h
theorem m_costOf {v : Rl} (hv : okV v) {ma : Nat → Nat → Int32} {ml : Nat → Nat → Int64} (hN : RelN v 0 ma) (hP : MP v ml) {b : Nat} (hb : b < v 13 0) {post : Int64 → Prop} (h : post (costL v b)) : P_X12_costOf ma ml (nI b) post := by
  have h10 := ok10 hv
  have h13 := ok13 hv
  have hw := wages_le hv
  refine m_paidOf hv hN hb (m_lossOf hv hN hP hb ?_)
  unfold costL wshZ at h
  rw [show ma 14 6 = nI (v 10 0) from hN.2.2.2.2.2.2.2.2.2.2]
  refine ⟨fun c => ?_, fun c => m_wages hv hN ?_⟩
  · have z : v 10 0 ≠ 1 := fun q => c (by rw [q]; rfl)
    rw [if_neg (by omega)] at h
    exact h
  · have z : v 10 0 = 1 := (nI_eq (b := 1) (by omega) (by decide)).mp c
    rw [if_pos ⟨z, by omega⟩] at h
    rw [show ma 10 0 = nI (v 13 0) from hN.1.2.2.2.2, nI_l (by omega), show (0 : Int64) = lN 0 from rfl, lN_eq (by omega) (by decide), pk_lDiv (by omega) (by omega) (by omega)]
    exact ⟨by omega, h⟩
theorem m_whatOf {v : Rl} (hv : okV v) {ma : Nat → Nat → Int32} {ml : Nat → Nat → Int64} (hN : RelN v 0 ma) (hP : MP v ml) {b w : Nat} (hb : b < v 13 0) (hw : w < 3) {post : Int64 → Prop} (h : post (whatL v b w)) : P_X12_whatOf ma ml (nI b) (nI w) post := by
  unfold whatL at h
  unfold P_X12_whatOf
  rw [show (0 : Int32) = nI 0 from rfl, show (1 : Int32) = nI 1 from rfl, nI_eq (by omega) (by decide), nI_eq (by omega) (by decide)]
  refine ⟨fun c => ⟨fun c2 => m_costOf hv hN hP hb ?_, fun c2 => m_lossOf hv hN hP hb ?_⟩, fun c => m_paidOf hv hN hb ?_⟩
  · rw [if_neg c, if_neg c2] at h; exact h
  · rw [if_neg c, if_pos c2] at h; exact h
  · rw [if_pos c] at h; exact h
/-- what of the reference's state a look at a rail leaves -/
def MF (ms : Nat → Int32) (ma : Nat → Nat → Int32) (ml : Nat → Nat → Int64) (mt : Nat → Int32) (mb : Nat → Nat → Int32) (mk : Nat → Nat → Int64) : Prop := (∀ j, j ≠ 12 → mt j = ms j) ∧ (∀ j, j ≠ 18 → j ≠ 19 → mb j = ma j) ∧ ∀ j, j ≠ 2 → j ≠ 3 → j ≠ 4 → mk j = ml j
theorem MF.refl (ms : Nat → Int32) (ma : Nat → Nat → Int32) (ml : Nat → Nat → Int64) : MF ms ma ml ms ma ml := ⟨fun _ _ => rfl, fun _ _ _ => rfl, fun _ _ _ _ => rfl⟩
theorem MF.trans {ms ms1 ms2 : Nat → Int32} {ma ma1 ma2 : Nat → Nat → Int32} {ml ml1 ml2 : Nat → Nat → Int64} (h : MF ms ma ml ms1 ma1 ml1) (g : MF ms1 ma1 ml1 ms2 ma2 ml2) : MF ms ma ml ms2 ma2 ml2 := ⟨fun j a => (g.1 j a).trans (h.1 j a), fun j a b => (g.2.1 j a b).trans (h.2.1 j a b), fun j a b c => (g.2.2 j a b c).trans (h.2.2 j a b c)⟩
theorem MF.rm {v : Rl} {j : Nat} {ms ms1 : Nat → Int32} {ma ma1 : Nat → Nat → Int32} {ml ml1 : Nat → Nat → Int64} (h : MF ms ma ml ms1 ma1 ml1) (hM : RM v j ms ma) : RM v j ms1 ma1 := hM.fr (fun i h3 h4 => h.2.1 i (by omega) (by omega)) (h.1 10 (by decide)) (h.1 11 (by decide))
theorem m_nightF {v : Rl} (hv : okV v) (hJ : okJ v) {ms : Nat → Int32} {ma : Nat → Nat → Int32} {ml : Nat → Nat → Int64} (hM : RM v 0 ms ma) {post : (Nat → Int32) → (Nat → Nat → Int32) → (Nat → Nat → Int64) → Prop}
    (h : ∀ (mt : Nat → Int32) (mb : Nat → Nat → Int32) (mk : Nat → Nat → Int64), MF ms ma ml mt mb mk → MP v mk → post mt mb mk) : P_X12_night ms ma ml post := m_night hv hJ hM (fun mb mk h1 h2 h3 h4 => h _ mb mk ⟨fun j hj => up_ne hj, h1, h2⟩ ⟨h3, h4⟩)
theorem m_allNow {v : Rl} (hv : okV v) (hJ : okJ v) {ms : Nat → Int32} {ma : Nat → Nat → Int32} {ml : Nat → Nat → Int64} (hM : RM v 0 ms ma) {w : Nat} (hw : w < 3) {post : Int64 → (Nat → Int32) → (Nat → Nat → Int32) → (Nat → Nat → Int64) → Prop}
    (h : ∀ (mt : Nat → Int32) (mb : Nat → Nat → Int32) (mk : Nat → Nat → Int64), MF ms ma ml mt mb mk → post (allL v w) mt mb mk) : P_X12_allNow ms ma ml (nI w) post := by
  have h13 := ok13 hv
  refine m_nightF hv hJ hM (fun mt mb mk hF hP => ?_)
  have hM2 := hF.rm hM
  have e13 : mb 10 0 = nI (v 13 0) := hM2.1.1.2.2.2.2
  have L : ∀ k i, i + k = v 13 0 → P_X12_allNow_9 (nI w) post mt mb mk (k + 1) (sumL (fun b => whatL v b w) i) (nI i) := by
    intro k
    induction k with
    | zero =>
      intro i hi
      obtain rfl : i = v 13 0 := by omega
      exact ⟨fun _ => h mt mb mk hF, fun c => absurd ((cmp_le e13 (by omega) (by omega)).mpr (Nat.le_refl _)) c⟩
    | succ k ih =>
      intro i hi
      refine ⟨fun c => absurd ((cmp_le e13 (by omega) (by omega)).mp c) (by omega), fun _ => ?_⟩
      refine m_whatOf hv hM2.1 hP (by omega) hw (fun x hx => ?_)
      rw [hx, nI_1]
      exact ih (i + 1) (by omega)
  exact ⟨v 13 0 + 1, L (v 13 0) 0 (by omega)⟩
theorem m_costNow {v : Rl} (hv : okV v) (hJ : okJ v) {ms : Nat → Int32} {ma : Nat → Nat → Int32} {ml : Nat → Nat → Int64} (hM : RM v 0 ms ma) {b : Nat} (hb : b < v 13 0) {post : Int64 → (Nat → Int32) → (Nat → Nat → Int32) → (Nat → Nat → Int64) → Prop}
    (h : ∀ (mt : Nat → Int32) (mb : Nat → Nat → Int32) (mk : Nat → Nat → Int64), MF ms ma ml mt mb mk → post (costL v b) mt mb mk) : P_X12_costNow ms ma ml (nI b) post := m_nightF hv hJ hM (fun mt mb mk hF hP => m_costOf hv (hF.rm hM).1 hP hb (h mt mb mk hF))
