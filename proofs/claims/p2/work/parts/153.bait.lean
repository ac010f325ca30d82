/-! promises 42, 43: both with a bait -/
def wth (v : Rl) (g : Nat) : Nat → Nat := sumN (fun b => if g.testBit b then v 20 b else 0)
theorem wth_le {v : Rl} (hv : okV v) (g : Nat) {k : Nat} (hk : k ≤ v 13 0) : wth v g k ≤ k * 9999 := sumN_le (fun b hb => by
  have := (hv.2.2.2.2.1 b (by omega)).1
  split <;> omega)
theorem wth_L (v : Rl) (g : Nat) : ∀ k, lN (wth v g k) = sumL (fun b => bitW b g * lN (v 20 b)) k
  | 0 => rfl
  | k + 1 => by
    have e : wth v g (k + 1) = wth v g k + if g.testBit k then v 20 k else 0 := rfl
    rw [e, ← lN_add, wth_L v g k, sumL]
    congr 1
    unfold bitW
    split
    · rw [Int64.one_mul]
    · rw [Int64.zero_mul]
      rfl
theorem bitW_mod {b q : Nat} (hb : b < 11) : bitW b (q % 2048) = bitW b q := by
  unfold bitW
  rw [tb_mod hb]
theorem bLoss_step {v : Rl} (hv : okV v) {s ct : Nat} (i : Nat) : bLoss v s ct (i + 1) = bLoss v s ct i + sumL (fun g => sumL (fun c => nD v s ct (Dn v s ct i) (v 14 0) (g + 2048 * c) * lN (wth v g (v 13 0))) (2 ^ v 14 0)) (2 ^ (v 13 0 + 1)) := by
  have h13 := ok13 hv
  have h14 := ok14 hv
  have hS := nD_sup (s := s) (ct := ct) h13 (Dn_sup (s := s) (ct := ct) h13 i) (v 14 0) (Nat.le_refl _)
  have e1 := sum_gc h13 h14 (fun q => nD v s ct (Dn v s ct i) (v 14 0) q * lN (wth v (q % 2048) (v 13 0))) (fun q hq => by rw [hS q hq, Int64.zero_mul])
  have e2 : sumL (fun g => sumL (fun c => nD v s ct (Dn v s ct i) (v 14 0) (g + 2048 * c) * lN (wth v g (v 13 0))) (2 ^ v 14 0)) (2 ^ (v 13 0 + 1)) = sumL (fun q => nD v s ct (Dn v s ct i) (v 14 0) q * lN (wth v (q % 2048) (v 13 0))) N17 := by
    rw [e1]
    refine sumL_cong (fun g hg => sumL_cong (fun c _ => ?_))
    have := G_le h13
    rw [show (g + 2048 * c) % 2048 = g by omega]
  have e3 : sumL (fun q => nD v s ct (Dn v s ct i) (v 14 0) q * lN (wth v (q % 2048) (v 13 0))) N17 = sumL (fun b => lN (v 20 b) * sumL (fun q => bitW b q * nD v s ct (Dn v s ct i) (v 14 0) q) N17) (v 13 0) := by
    have a : ∀ q, nD v s ct (Dn v s ct i) (v 14 0) q * lN (wth v (q % 2048) (v 13 0)) = sumL (fun b => lN (v 20 b) * (bitW b q * nD v s ct (Dn v s ct i) (v 14 0) q)) (v 13 0) := by
      intro q
      rw [wth_L, ← sumL_mul]
      refine sumL_cong (fun b hb => ?_)
      rw [bitW_mod (by omega)]
      grind
    rw [sumL_cong (g := fun q => sumL (fun b => lN (v 20 b) * (bitW b q * nD v s ct (Dn v s ct i) (v 14 0) q)) (v 13 0)) (fun q _ => a q), sumL_swap (fun b q => lN (v 20 b) * (bitW b q * nD v s ct (Dn v s ct i) (v 14 0) q))]
    exact sumL_cong (fun b _ => sumL_mul _ _ _)
  rw [e2, e3]
  unfold bLoss
  rw [← sumL_add]
  refine sumL_cong (fun b hb => ?_)
  rw [nD_bit h13 h14 _ hb _ h14, Dn_bit v s ct (by omega) i, Int64.zero_add]
  have e4 : sumL (fun t => hadB v s ct (i + 1) t b) 6 = sumL (fun t => hadB v s ct i t b) 6 + sumL (fun t => hst v s t (nD v s ct (Dn v s ct i) t) b) (v 14 0) := by
    rw [sumL_ext (n := v 14 0) (m := 6) (f := fun t => hadB v s ct (i + 1) t b) h14 (fun k h1 _ => by unfold hadB; rw [if_neg (by omega)]), sumL_ext (n := v 14 0) (m := 6) (f := fun t => hadB v s ct i t b) h14 (fun k h1 _ => by unfold hadB; rw [if_neg (by omega)]), ← sumL_add]
    exact sumL_cong (fun t ht => by unfold hadB; rw [if_pos ⟨ht, hb⟩, if_pos ⟨ht, hb⟩, sumL])
  rw [e4]
  grind
section BB
variable {us : A1} {ua : A2} {rs : A1} {ra ra2 sa : A2} {sl : L2} {ns : A1} {na : A2} {nl : L2} {yt : Int32} {im : Img} {ms : A1} {ma : A2} {ml : L2}
theorem m_baits {v : Rl} (hv : okR v) (hM : RM v 0 ms ma) {mw : Nat → Int64} {s ct : Nat} (p1 : Int32) (hs : s ≤ 9999) (hct : ct ≤ 100) {post : A1 → (Nat → Int64) → A2 → L2 → Prop} (h : ∀ mt mw' mb mk, RM v 0 mt mb → MG ms ma ml mt mb mk → mw' 2 = bLoss v s ct (v 1 0) → (∀ c, c < 2 ^ v 14 0 → mk 9 c = Dn v s ct (v 1 0) (2048 * c)) → post mt mw' mb mk) : P_X12_baits ms mw ma ml p1 (nI s) (nI ct) post := by
  have h13 := ok13 hv.1
  have h14 := ok14 hv.1
  have h1 := ok1 hv.1
  have hG := G_le h13
  have hC := C_le h14
  have hG0 : 0 < 2 ^ (v 13 0 + 1) := Nat.two_pow_pos _
  have hC0 : 0 < 2 ^ v 14 0 := Nat.two_pow_pos _
  refine m_lays hv.1 hM (some s) hs (fun mb hL hmb => ?_)
  have hF : ∀ ml : L2, MF ms ma ml (va_up ms 12 (nI (thO v (some s)))) mb ml := fun ml => ⟨fun j hj => up_ne hj, hmb, fun _ _ _ _ => rfl⟩
  have hM2 := (hF ml).rm hM
  have e13 : mb 10 0 = nI (v 13 0) := hM2.1.1.2.2.2.2
  have e14 : mb 12 0 = nI (v 14 0) := hM2.2.1.1
  have e5 : mb 5 0 = nI (v 1 0) := hM2.1.1.2.2.1
  generalize va_up ms 12 (nI (thO v (some s))) = mt at hL hF hM2
  intro x23 h23 x24 h24
  rw [e13, sh2 (by omega)] at h23
  rw [e14, sh1 (by omega)] at h24
  subst h23 h24
  have hD9 : ∀ lx : L2, (∀ j, j ≠ 7 → j ≠ 8 → j ≠ 9 → lx j = ml j) → MG ms ma ml mt mb lx := fun lx q => (hF ml).g.trans ⟨fun _ _ _ _ => rfl, fun _ _ _ _ _ => rfl, fun _ _ => rfl, fun _ _ => rfl, q 0 (by decide) (by decide) (by decide)⟩
  -- a night's end: one state's sums
  have S3 : ∀ (i : Nat) (D : Nat → Int64), ∀ (x6 : Int32) (R193 : Int32 → (Nat → Int64) → L2 → Prop) (g : Nat), g < 2 ^ (v 13 0 + 1) → ∀ (bw : Int64) (mw1 : Nat → Int64) (lx : L2), BR v D (lx 7) → mw1 2 = bw + sumL (fun g => sumL (fun c => D (g + 2048 * c) * lN (wth v g (v 13 0))) (2 ^ v 14 0)) g → (∀ c, c < 2 ^ v 14 0 → lx 9 c = sumL (fun g => D (g + 2048 * c)) g) → (∀ j, j ≠ 7 → j ≠ 8 → j ≠ 9 → lx j = ml j) → (∀ mw2 ly, BR v D (ly 7) → mw2 2 = bw + sumL (fun g => sumL (fun c => D (g + 2048 * c) * lN (wth v g (v 13 0))) (2 ^ v 14 0)) (g + 1) → (∀ c, c < 2 ^ v 14 0 → ly 9 c = sumL (fun g => D (g + 2048 * c)) (g + 1)) → (∀ j, j ≠ 7 → j ≠ 8 → j ≠ 9 → ly j = ml j) → R193 (nI (g + 1)) mw2 ly) → ∃ n, P_X12_baits_257 p1 (nI s) (nI ct) (nI (2 ^ (v 13 0 + 1))) (nI (2 ^ v 14 0)) mt mb x6 post R193 (nI g) (nI (wth v g (v 13 0))) n 0 mw1 lx := by
    intro i D x6 R193 g hg bw mw1 lx q7 q2 q9 qj kk
    have hwl := wth_le hv.1 g (Nat.le_refl (v 13 0))
    have hw2 : v 13 0 * 9999 ≤ 10 * 9999 := Nat.mul_le_mul_right _ h13
    have L : ∀ (d c : Nat) (mw2 : Nat → Int64) (ly : L2), c + d = 2 ^ v 14 0 → BR v D (ly 7) → mw2 2 = bw + sumL (fun g => sumL (fun c => D (g + 2048 * c) * lN (wth v g (v 13 0))) (2 ^ v 14 0)) g + sumL (fun c => D (g + 2048 * c) * lN (wth v g (v 13 0))) c → (∀ c', c' < c → ly 9 c' = sumL (fun g => D (g + 2048 * c')) (g + 1)) → (∀ c', c ≤ c' → c' < 2 ^ v 14 0 → ly 9 c' = sumL (fun g => D (g + 2048 * c')) g) → (∀ j, j ≠ 7 → j ≠ 8 → j ≠ 9 → ly j = ml j) → P_X12_baits_257 p1 (nI s) (nI ct) (nI (2 ^ (v 13 0 + 1))) (nI (2 ^ v 14 0)) mt mb x6 post R193 (nI g) (nI (wth v g (v 13 0))) (d + 1) (nI c) mw2 ly := by
      intro d
      induction d with
      | zero =>
        intro c mw2 ly hc r7 r2 r9 r9' rj
        obtain rfl : c = 2 ^ v 14 0 := by omega
        refine ⟨fun _ => ?_, fun z => absurd (nI_le (Nat.le_refl _) (by omega)) z⟩
        rw [nI_1]
        exact kk mw2 ly r7 (by rw [r2, sumL, Int64.add_assoc]) r9 rj
      | succ d ih =>
        intro c mw2 ly hc r7 r2 r9 r9' rj
        refine ⟨fun z => absurd ((nI_leI (by omega) (by omega)).mp z) (by omega), fun _ => ⟨vp_in_nI (by omega) (by decide), ?_⟩⟩
        simp only [P_X12_state, st64]
        rw [nI_clamp (by omega), nI_clamp (by omega), r7 g c hg (by omega), nI_l (by omega), nI_1, r9' c (Nat.le_refl _) (by omega)]
        refine ⟨vp_in_nI (by omega) (by decide), vp_in_nI (by omega) (by decide), vp_in_nI (by omega) (by decide), fun x hx => ?_⟩
        refine ih (c + 1) _ _ (by omega) (by rw [up_ne (by decide)]; exact r7) (by rw [up_at, hx, r2, sumL, Int64.add_assoc]) (fun c' hc' => ?_) (fun c' h1 h2 => by rw [up_at, uL_ne (by omega)]; exact r9' c' (by omega) h2) (fun j j7 j8 j9 => by rw [up_ne j9]; exact rj j j7 j8 j9)
        rw [up_at]
        by_cases e : c' = c
        · rw [e, uL_at, sumL]
        · rw [uL_ne e]; exact r9 c' (by omega)
    exact ⟨2 ^ v 14 0 + 1, L (2 ^ v 14 0) 0 mw1 lx (by omega) q7 (by rw [q2]; simp [sumL]) (fun c' hc' => by omega) (fun c' _ hc' => q9 c' hc') qj⟩
  -- a night's end: worth of a state
  have S2 : ∀ (x6 : Int32) (K257 : Int32 → Int32 → Int32 → (Nat → Int64) → L2 → Prop) (g : Nat), g < 2 ^ (v 13 0 + 1) → ∀ (mw1 : Nat → Int64) (lx : L2), K257 (nI g) (nI (wth v g (v 13 0))) 0 mw1 lx → ∃ n, P_X12_baits_206 p1 (nI s) (nI ct) (nI (2 ^ (v 13 0 + 1))) (nI (2 ^ v 14 0)) mt mb x6 post K257 (nI g) mw1 lx n 0 0 := by
    intro x6 K257 g hg mw1 lx kk
    have L : ∀ (d k : Nat), k + d = v 13 0 → P_X12_baits_206 p1 (nI s) (nI ct) (nI (2 ^ (v 13 0 + 1))) (nI (2 ^ v 14 0)) mt mb x6 post K257 (nI g) mw1 lx (d + 1) (nI (wth v g k)) (nI k) := by
      intro d
      induction d with
      | zero =>
        intro k hk
        obtain rfl : k = v 13 0 := by omega
        exact ⟨fun _ => kk, fun c => absurd ((cmp_le e13 (by omega) (by omega)).mpr (Nat.le_refl _)) c⟩
      | succ d ih =>
        intro k hk
        have go := ih (k + 1) (by omega)
        have e : wth v g (k + 1) = wth v g k + if g.testBit k then v 20 k else 0 := rfl
        rw [e] at go
        refine ⟨fun c => absurd ((cmp_le e13 (by omega) (by omega)).mp c) (by omega), fun _ => ?_⟩
        rw [bit_o (by omega) (by omega), nI_1]
        refine ⟨fun c x hx => ?_, fun c => ?_⟩
        · rw [if_neg c] at go
          rw [show (0 : Int32) = nI 0 from rfl, nI_add] at hx
          rw [hx]; exact go
        · rw [if_pos c] at go
          show vp_in ((5 : Int32) * ((10 : Int32) * nI 0 + nI k)) 250 ∧ (∀ x9 : Int32, x9 = (nI (wth v g k) + (mb 11 ((5 : Int32) * ((10 : Int32) * nI 0 + nI k)).toNatClampNeg)) → _)
          rw [ix50, nI_clamp (by omega), (hM2.1.2.2.2.1 k (by omega)).1]
          refine ⟨vp_in_nI (by omega) (by decide), fun x hx => ?_⟩
          rw [nI_add] at hx
          rw [hx]; exact go
    exact ⟨v 13 0 + 1, L (v 13 0) 0 (by omega)⟩
  -- a night's end
  have S1 : ∀ (i : Nat) (D : Nat → Int64) (x6 : Int32) (R68 : Int32 → (Nat → Int64) → L2 → Prop) (bw : Int64) (mw0 : Nat → Int64) (l0 : L2), BR v D (l0 7) → mw0 2 = bw → (∀ c, c < 2 ^ v 14 0 → l0 9 c = 0) → (∀ j, j ≠ 7 → j ≠ 8 → j ≠ 9 → l0 j = ml j) → (∀ mw2 ly, mw2 2 = bw + sumL (fun g => sumL (fun c => D (g + 2048 * c) * lN (wth v g (v 13 0))) (2 ^ v 14 0)) (2 ^ (v 13 0 + 1)) → (∀ c, c < 2 ^ v 14 0 → ly 9 c = sumL (fun g => D (g + 2048 * c)) (2 ^ (v 13 0 + 1))) → (∀ j, j ≠ 7 → j ≠ 8 → j ≠ 9 → ly j = ml j) → R68 (x6 + 1) mw2 ly) → ∃ n, P_X12_baits_193 p1 (nI s) (nI ct) (nI (2 ^ (v 13 0 + 1))) (nI (2 ^ v 14 0)) mt mb post R68 x6 n 0 mw0 l0 := by
    intro i D x6 R68 bw mw0 l0 q7 q2 q9 qj kk
    have L : ∀ (d g : Nat) (mw1 : Nat → Int64) (lx : L2), g + d = 2 ^ (v 13 0 + 1) → BR v D (lx 7) → mw1 2 = bw + sumL (fun g => sumL (fun c => D (g + 2048 * c) * lN (wth v g (v 13 0))) (2 ^ v 14 0)) g → (∀ c, c < 2 ^ v 14 0 → lx 9 c = sumL (fun g => D (g + 2048 * c)) g) → (∀ j, j ≠ 7 → j ≠ 8 → j ≠ 9 → lx j = ml j) → P_X12_baits_193 p1 (nI s) (nI ct) (nI (2 ^ (v 13 0 + 1))) (nI (2 ^ v 14 0)) mt mb post R68 x6 (d + 1) (nI g) mw1 lx := by
      intro d
      induction d with
      | zero =>
        intro g mw1 lx hg r7 r2 r9 rj
        obtain rfl : g = 2 ^ (v 13 0 + 1) := by omega
        exact ⟨fun _ => kk mw1 lx r2 r9 rj, fun z => absurd (nI_le (Nat.le_refl _) (by omega)) z⟩
      | succ d ih =>
        intro g mw1 lx hg r7 r2 r9 rj
        refine ⟨fun z => absurd ((nI_leI (by omega) (by omega)).mp z) (by omega), fun _ => ?_⟩
        exact S2 x6 _ g (by omega) mw1 lx (S3 i D x6 _ g (by omega) bw mw1 lx r7 r2 r9 rj (fun mw2 ly t7 t2 t9 tj => ih (g + 1) mw2 ly (by omega) t7 t2 t9 tj))
    exact ⟨2 ^ (v 13 0 + 1) + 1, L _ 0 mw0 l0 (by omega) q7 (by rw [q2]; simp [sumL]) (fun c hc => by rw [q9 c hc]; rfl) qj⟩
  have N : ∀ (k i : Nat) (mw0 : Nat → Int64) (l0 : L2), i + k = v 1 0 → mw0 2 = bLoss v s ct i → (∀ c, c < 2 ^ v 14 0 → l0 9 c = Dn v s ct i (2048 * c)) → (∀ j, j ≠ 7 → j ≠ 8 → j ≠ 9 → l0 j = ml j) → P_X12_baits_68 p1 (nI s) (nI ct) post (nI (2 ^ (v 13 0 + 1))) (nI (2 ^ v 14 0)) mt mb (k + 1) (nI i) mw0 l0 := by
    intro k
    induction k with
    | zero =>
      intro i mw0 l0 hi q2 q9 qj
      obtain rfl : i = v 1 0 := by omega
      exact ⟨fun _ => h mt mw0 mb l0 hM2 (hD9 l0 qj) q2 q9, fun c => absurd ((cmp_le e5 (by omega) (by omega)).mpr (Nat.le_refl _)) c⟩
    | succ k ih =>
      intro i mw0 l0 hi q2 q9 qj
      refine ⟨fun c => absurd ((cmp_le e5 (by omega) (by omega)).mp c) (by omega), fun _ => ?_⟩
      -- the sums are made empty
      have E9 : ∀ (lx : L2), BR v (nD v s ct (Dn v s ct i) (v 14 0)) (lx 7) → (∀ j, j ≠ 7 → j ≠ 8 → j ≠ 9 → lx j = ml j) → ∃ n, P_X12_baits_169 p1 (nI s) (nI ct) (nI (2 ^ (v 13 0 + 1))) (nI (2 ^ v 14 0)) mt mb post (fun (x6_ : Int32) (x7_ : Int32) (mw : Nat → Int64) (ml : Nat → Nat → Int64) => (∃ n : Nat, P_X12_baits_193 p1 (nI s) (nI ct) (nI (2 ^ (v 13 0 + 1))) (nI (2 ^ v 14 0)) mt mb post (P_X12_baits_68 p1 (nI s) (nI ct) post (nI (2 ^ (v 13 0 + 1))) (nI (2 ^ v 14 0)) mt mb (k + 1)) x6_ n x7_ mw ml)) (nI i) mw0 n 0 lx := by
        intro lx r7 rj
        have L : ∀ (d c : Nat) (ly : L2), c + d = 2 ^ v 14 0 → ly 7 = lx 7 → (∀ c', c' < c → ly 9 c' = 0) → (∀ j, j ≠ 7 → j ≠ 8 → j ≠ 9 → ly j = ml j) → P_X12_baits_169 p1 (nI s) (nI ct) (nI (2 ^ (v 13 0 + 1))) (nI (2 ^ v 14 0)) mt mb post (fun (x6_ : Int32) (x7_ : Int32) (mw : Nat → Int64) (ml : Nat → Nat → Int64) => (∃ n : Nat, P_X12_baits_193 p1 (nI s) (nI ct) (nI (2 ^ (v 13 0 + 1))) (nI (2 ^ v 14 0)) mt mb post (P_X12_baits_68 p1 (nI s) (nI ct) post (nI (2 ^ (v 13 0 + 1))) (nI (2 ^ v 14 0)) mt mb (k + 1)) x6_ n x7_ mw ml)) (nI i) mw0 (d + 1) (nI c) ly := by
          intro d
          induction d with
          | zero =>
            intro c ly hc t7 t9 tj
            obtain rfl : c = 2 ^ v 14 0 := by omega
            refine ⟨fun _ => ?_, fun z => absurd (nI_le (Nat.le_refl _) (by omega)) z⟩
            refine S1 i _ (nI i) _ (bLoss v s ct i) mw0 ly (by rw [t7]; exact r7) q2 t9 tj (fun mw2 lz w2 w9 wj => ?_)
            rw [nI_1]
            refine ih (i + 1) mw2 lz (by omega) (by rw [w2, bLoss_step hv.1]) (fun c hc => ?_) wj
            have hS := nD_sup (s := s) (ct := ct) h13 (Dn_sup (s := s) (ct := ct) h13 i) (v 14 0) (Nat.le_refl _)
            rw [w9 c hc, Dn, brg_at _ (by omega)]
            exact (sumL_ext hG (fun g g1 g2 => hS _ (Or.inl (by omega)))).symm
          | succ d ihd =>
            intro c ly hc t7 t9 tj
            refine ⟨fun z => absurd ((nI_leI (by omega) (by omega)).mp z) (by omega), fun _ => ⟨vp_in_nI (by omega) (by decide), ?_⟩⟩
            rw [nI_1, nI_clamp (by omega)]
            refine ihd (c + 1) _ (by omega) (by rw [up_ne (by decide)]; exact t7) (fun c' hc' => ?_) (fun j j7 j8 j9 => by rw [up_ne j9]; exact tj j j7 j8 j9)
            rw [up_at]
            by_cases e : c' = c
            · rw [e, uL_at]
            · rw [uL_ne e]; exact t9 c' (by omega)
        exact ⟨2 ^ v 14 0 + 1, L (2 ^ v 14 0) 0 lx (by omega) rfl (fun c' hc' => by omega) rj⟩
      -- the thieves
      have ET : ∀ (lx : L2), BR v (Dn v s ct i) (lx 7) → (∀ j, j ≠ 7 → j ≠ 8 → j ≠ 9 → lx j = ml j) → ∃ n, P_X12_baits_142 p1 (nI s) (nI ct) (nI (2 ^ (v 13 0 + 1))) (nI (2 ^ v 14 0)) mt mb post (fun (x6_ : Int32) (mw : Nat → Int64) (x7_ : Int32) (ml : Nat → Nat → Int64) => (∃ n : Nat, P_X12_baits_169 p1 (nI s) (nI ct) (nI (2 ^ (v 13 0 + 1))) (nI (2 ^ v 14 0)) mt mb post (fun (x6_ : Int32) (x7_ : Int32) (mw : Nat → Int64) (ml : Nat → Nat → Int64) => (∃ n : Nat, P_X12_baits_193 p1 (nI s) (nI ct) (nI (2 ^ (v 13 0 + 1))) (nI (2 ^ v 14 0)) mt mb post (P_X12_baits_68 p1 (nI s) (nI ct) post (nI (2 ^ (v 13 0 + 1))) (nI (2 ^ v 14 0)) mt mb (k + 1)) x6_ n x7_ mw ml)) x6_ mw n x7_ ml)) (nI i) mw0 n 0 lx := by
        intro lx r7 rj
        have L : ∀ (d t : Nat) (ly : L2), t + d = v 14 0 → BR v (nD v s ct (Dn v s ct i) t) (ly 7) → (∀ j, j ≠ 7 → j ≠ 8 → j ≠ 9 → ly j = ml j) → P_X12_baits_142 p1 (nI s) (nI ct) (nI (2 ^ (v 13 0 + 1))) (nI (2 ^ v 14 0)) mt mb post (fun (x6_ : Int32) (mw : Nat → Int64) (x7_ : Int32) (ml : Nat → Nat → Int64) => (∃ n : Nat, P_X12_baits_169 p1 (nI s) (nI ct) (nI (2 ^ (v 13 0 + 1))) (nI (2 ^ v 14 0)) mt mb post (fun (x6_ : Int32) (x7_ : Int32) (mw : Nat → Int64) (ml : Nat → Nat → Int64) => (∃ n : Nat, P_X12_baits_193 p1 (nI s) (nI ct) (nI (2 ^ (v 13 0 + 1))) (nI (2 ^ v 14 0)) mt mb post (P_X12_baits_68 p1 (nI s) (nI ct) post (nI (2 ^ (v 13 0 + 1))) (nI (2 ^ v 14 0)) mt mb (k + 1)) x6_ n x7_ mw ml)) x6_ mw n x7_ ml)) (nI i) mw0 (d + 1) (nI t) ly := by
          intro d
          induction d with
          | zero =>
            intro t ly ht t7 tj
            obtain rfl : t = v 14 0 := by omega
            exact ⟨fun _ => E9 ly t7 tj, fun c => absurd ((cmp_le e14 (by omega) (by omega)).mpr (Nat.le_refl _)) c⟩
          | succ d ihd =>
            intro t ly ht t7 tj
            refine ⟨fun c => absurd ((cmp_le e14 (by omega) (by omega)).mp c) (by omega), fun _ => ?_⟩
            refine m_thiefGoes (j := 0) hv.1 hv.2.1 hs hct (by omega) hM2 hL (nD_sup h13 (Dn_sup h13 i) t (by omega)) t7 (fun mk w7 wj => ?_)
            rw [nI_1]
            exact ihd (t + 1) mk (by omega) w7 (fun j j7 j8 j9 => by rw [wj j j7 j8]; exact tj j j7 j8 j9)
        exact ⟨v 14 0 + 1, L (v 14 0) 0 lx (by omega) r7 rj⟩
      -- all are there again
      have EI : ∀ (g : Nat), g < 2 ^ (v 13 0 + 1) → ∀ (R82 : Int32 → L2 → Prop) (lx : L2), lx 9 = l0 9 → (∀ j, j ≠ 7 → j ≠ 8 → j ≠ 9 → lx j = ml j) → (∀ g' c, g' < g → c < 2 ^ v 14 0 → lx 7 (64 * g' + c) = Dn v s ct i (g' + 2048 * c)) → (∀ ly : L2, ly 9 = l0 9 → (∀ j, j ≠ 7 → j ≠ 8 → j ≠ 9 → ly j = ml j) → (∀ g' c, g' < g + 1 → c < 2 ^ v 14 0 → ly 7 (64 * g' + c) = Dn v s ct i (g' + 2048 * c)) → R82 (nI (g + 1)) ly) → ∃ n, P_X12_baits_92 p1 (nI s) (nI ct) (nI (2 ^ (v 13 0 + 1))) (nI (2 ^ v 14 0)) mt mb (nI i) mw0 post R82 (nI g) n 0 lx := by
        intro g hg R82 lx r9 rj r7 kk
        have L : ∀ (d c : Nat) (ly : L2), c + d = 2 ^ v 14 0 → ly 9 = l0 9 → (∀ j, j ≠ 7 → j ≠ 8 → j ≠ 9 → ly j = ml j) → (∀ g' c, g' < g → c < 2 ^ v 14 0 → ly 7 (64 * g' + c) = Dn v s ct i (g' + 2048 * c)) → (∀ c', c' < c → ly 7 (64 * g + c') = Dn v s ct i (g + 2048 * c')) → P_X12_baits_92 p1 (nI s) (nI ct) (nI (2 ^ (v 13 0 + 1))) (nI (2 ^ v 14 0)) mt mb (nI i) mw0 post R82 (nI g) (d + 1) (nI c) ly := by
          intro d
          induction d with
          | zero =>
            intro c ly hc t9 tj t7 t7'
            obtain rfl : c = 2 ^ v 14 0 := by omega
            refine ⟨fun _ => ?_, fun z => absurd (nI_le (Nat.le_refl _) (by omega)) z⟩
            rw [nI_1]
            refine kk ly t9 tj (fun g' c hg' hc => ?_)
            by_cases e : g' = g
            · rw [e]; exact t7' c hc
            · exact t7 g' c (by omega) hc
          | succ d ihd =>
            intro c ly hc t9 tj t7 t7'
            refine ⟨fun z => absurd ((nI_leI (by omega) (by omega)).mp z) (by omega), fun _ => ?_⟩
            simp only [P_X12_state, st64]
            rw [nI_1, nI_clamp (by omega), nI_clamp (by omega), show (nI g = (0 : Int32)) = (nI g = nI 0) from rfl, nI_eq (by omega) (by decide)]
            have st : ∀ y : Int64, y = Dn v s ct i (g + 2048 * c) → P_X12_baits_92 p1 (nI s) (nI ct) (nI (2 ^ (v 13 0 + 1))) (nI (2 ^ v 14 0)) mt mb (nI i) mw0 post R82 (nI g) (d + 1) (nI (c + 1)) (va_up ly 7 (vp_updL (ly 7) (64 * g + c) y)) := by
              intro y hy
              refine ihd (c + 1) _ (by omega) (by rw [up_ne (by decide)]; exact t9) (fun j j7 j8 j9 => by rw [up_ne j7]; exact tj j j7 j8 j9) (fun g' c' hg' hc' => by rw [up_at, uL_ne (by omega)]; exact t7 g' c' hg' hc') (fun c' hc' => ?_)
              rw [up_at]
              by_cases e : c' = c
              · rw [e, uL_at, hy]
              · rw [uL_ne (by omega)]; exact t7' c' (by omega)
            refine ⟨fun z => ⟨vp_in_nI (by omega) (by decide), st 0 (Dn_g (by omega) (by omega)).symm⟩, fun z => ⟨vp_in_nI (by omega) (by decide), vp_in_nI (by omega) (by decide), st _ ?_⟩⟩
            rw [t9, q9 c (by omega), z, Nat.zero_add]
        exact ⟨2 ^ v 14 0 + 1, L (2 ^ v 14 0) 0 lx (by omega) r9 rj r7 (fun c' hc' => by omega)⟩
      have L : ∀ (d g : Nat) (lx : L2), g + d = 2 ^ (v 13 0 + 1) → lx 9 = l0 9 → (∀ j, j ≠ 7 → j ≠ 8 → j ≠ 9 → lx j = ml j) → (∀ g' c, g' < g → c < 2 ^ v 14 0 → lx 7 (64 * g' + c) = Dn v s ct i (g' + 2048 * c)) → P_X12_baits_82 p1 (nI s) (nI ct) (nI (2 ^ (v 13 0 + 1))) (nI (2 ^ v 14 0)) mt mb post (fun (x6_ : Int32) (mw : Nat → Int64) (x7_ : Int32) (ml : Nat → Nat → Int64) => (∃ n : Nat, P_X12_baits_142 p1 (nI s) (nI ct) (nI (2 ^ (v 13 0 + 1))) (nI (2 ^ v 14 0)) mt mb post (fun (x6_ : Int32) (mw : Nat → Int64) (x7_ : Int32) (ml : Nat → Nat → Int64) => (∃ n : Nat, P_X12_baits_169 p1 (nI s) (nI ct) (nI (2 ^ (v 13 0 + 1))) (nI (2 ^ v 14 0)) mt mb post (fun (x6_ : Int32) (x7_ : Int32) (mw : Nat → Int64) (ml : Nat → Nat → Int64) => (∃ n : Nat, P_X12_baits_193 p1 (nI s) (nI ct) (nI (2 ^ (v 13 0 + 1))) (nI (2 ^ v 14 0)) mt mb post (P_X12_baits_68 p1 (nI s) (nI ct) post (nI (2 ^ (v 13 0 + 1))) (nI (2 ^ v 14 0)) mt mb (k + 1)) x6_ n x7_ mw ml)) x6_ mw n x7_ ml)) x6_ mw n x7_ ml)) (nI i) mw0 (d + 1) (nI g) lx := by
        intro d
        induction d with
        | zero =>
          intro g lx hg r9 rj r7
          obtain rfl : g = 2 ^ (v 13 0 + 1) := by omega
          exact ⟨fun _ => ET lx (fun g' c h1 h2 => r7 g' c h1 h2) rj, fun z => absurd (nI_le (Nat.le_refl _) (by omega)) z⟩
        | succ d ihd =>
          intro g lx hg r9 rj r7
          refine ⟨fun z => absurd ((nI_leI (by omega) (by omega)).mp z) (by omega), fun _ => ?_⟩
          exact EI g (by omega) _ lx r9 rj r7 (fun ly t9 tj t7 => ihd (g + 1) ly (by omega) t9 tj t7)
      exact ⟨2 ^ (v 13 0 + 1) + 1, L _ 0 l0 (by omega) rfl qj (fun g' c hg' => by omega)⟩
  have L : ∀ (d c : Nat) (lx : L2), c + d = 2 ^ v 14 0 → (∀ c', c' < c → lx 9 c' = D1 (2048 * c')) → (∀ j, j ≠ 7 → j ≠ 8 → j ≠ 9 → lx j = ml j) → P_X12_baits_33 p1 (nI s) (nI ct) post (fun (x4_ : Int32) (x5_ : Int32) (ms : Nat → Int32) (ma : Nat → Nat → Int32) (x6_ : Int32) (mw : Nat → Int64) (ml : Nat → Nat → Int64) => (∃ n : Nat, P_X12_baits_68 p1 (nI s) (nI ct) post x4_ x5_ ms ma n x6_ mw ml)) (nI (2 ^ (v 13 0 + 1))) (nI (2 ^ v 14 0)) mt (va_up mw 2 0) mb (d + 1) (nI c) lx := by
    intro d
    induction d with
    | zero =>
      intro c lx hc r9 rj
      obtain rfl : c = 2 ^ v 14 0 := by omega
      refine ⟨fun _ => ⟨v 1 0 + 1, N (v 1 0) 0 _ lx (by omega) ?_ r9 rj⟩, fun z => absurd (nI_le (Nat.le_refl _) (by omega)) z⟩
      rw [up_at]
      unfold bLoss
      rw [sumL_zero (fun b _ => ?_)]
      rw [sumL_zero (fun t _ => ?_), Int64.mul_zero]
      unfold hadB
      split <;> rfl
    | succ d ih =>
      intro c lx hc r9 rj
      refine ⟨fun z => absurd ((nI_leI (by omega) (by omega)).mp z) (by omega), fun _ => ?_⟩
      rw [nI_1, nI_clamp (by omega), show (nI c = (0 : Int32)) = (nI c = nI 0) from rfl, nI_eq (by omega) (by decide)]
      have st : ∀ y : Int64, y = D1 (2048 * c) → P_X12_baits_33 p1 (nI s) (nI ct) post (fun (x4_ : Int32) (x5_ : Int32) (ms : Nat → Int32) (ma : Nat → Nat → Int32) (x6_ : Int32) (mw : Nat → Int64) (ml : Nat → Nat → Int64) => (∃ n : Nat, P_X12_baits_68 p1 (nI s) (nI ct) post x4_ x5_ ms ma n x6_ mw ml)) (nI (2 ^ (v 13 0 + 1))) (nI (2 ^ v 14 0)) mt (va_up mw 2 0) mb (d + 1) (nI (c + 1)) (va_up lx 9 (vp_updL (lx 9) c y)) := by
        intro y hy
        refine ih (c + 1) _ (by omega) (fun c' hc' => ?_) (fun j j7 j8 j9 => by rw [up_ne j9]; exact rj j j7 j8 j9)
        rw [up_at]
        by_cases e : c' = c
        · rw [e, uL_at, hy]
        · rw [uL_ne e]; exact r9 c' (by omega)
      refine ⟨fun z => ⟨vp_in_nI (by omega) (by decide), st 0 ?_⟩, fun z => ⟨vp_in_nI (by omega) (by decide), st _ ?_⟩⟩
      · unfold D1; rw [if_neg (by omega)]
      · unfold D1; rw [if_pos (by omega)]
  exact ⟨2 ^ v 14 0 + 1, L (2 ^ v 14 0) 0 ml (by omega) (fun c' hc' => by omega) (fun _ _ _ _ => rfl)⟩
/-- a bait that may stand there, or why not: both say the same -/
theorem bait_cases {v : Rl} (hC : RelC v rs ra) (hN : RelN v 0 ma) (hv : okV v) (p s ct : Int32) : (∃ r : Int32, r ≠ 0 ∧ (∀ post : Int32 → Prop, post r → P_X11_refusedBait rs ra p s ct post) ∧ ∀ post : Int32 → Prop, post r → P_X12_whyNot ma p s ct post) ∨ ∃ a b, a ≤ 9999 ∧ b ≤ 100 ∧ s = nI a ∧ ct = nI b ∧ (∀ post : Int32 → Prop, post 0 → P_X11_refusedBait rs ra p s ct post) ∧ ∀ post : Int32 → Prop, post 0 → P_X12_whyNot ma p s ct post := by
  have h0 := ok0 hv
  have h13 := ok13 hv
  rcases ixs p (n := v 0 0) (by omega) with h | ⟨q, hq, rfl⟩
  · exact Or.inl ⟨-2, by decide, fun post hp => c_hasP0 hC h (b0f hp), fun post hp => m_isP0 hN hv h (b0f hp)⟩
  · rcases ixs s (n := 10000) (by decide) with h | ⟨a, ha, rfl⟩
    · refine Or.inl ⟨-2, by decide, fun post hp => c_hasP hC hv hq (b1f ⟨fun _ => hp, fun c => ⟨fun _ => hp, fun c2 => absurd ?_ c2⟩⟩), fun post hp => m_isP hN hv hq (b1f (m_inL_bad (m := 9999) h (by decide) (b0f hp)))⟩
      have h2 := h.resolve_left c
      rw [Int32.le_iff_toInt_le, nI_toInt (by decide)] at h2
      rw [Int32.lt_iff_toInt_lt, show (9999 : Int32).toInt = 9999 from rfl]
      omega
    · have n9 : ¬ (9999 : Int32) < nI a := fun c => absurd ((nI_ltI (a := 9999) (by decide) (by omega)).mp c) (by omega)
      rcases ixs ct (n := 101) (by decide) with h | ⟨b, hb, rfl⟩
      · refine Or.inl ⟨-2, by decide, fun post hp => c_hasP hC hv hq (b1f ⟨fun c => absurd c (nI_pos (by omega)), fun _ => ⟨fun c => absurd c n9, fun _ => ⟨fun _ => hp, fun c => ⟨fun c2 => absurd c2 ?_, fun _ => hp⟩⟩⟩⟩), fun post hp => m_isP hN hv hq (b1f (m_inL_ok (m := 9999) (by omega) (by decide) (b1f (m_inL_bad (m := 100) h (by decide) (b0t hp)))))⟩
        have h2 := h.resolve_left c
        rw [Int32.le_iff_toInt_le, nI_toInt (by decide)] at h2
        rw [Int32.le_iff_toInt_le, show (100 : Int32).toInt = 100 from rfl]
        omega
      · have A : ∀ post : Int32 → Prop, ((stI v q = -1) → post 0) ∧ ((¬ stI v q = -1) → post (-5)) → P_X11_refusedBait rs ra (nI q) (nI a) (nI b) post := fun post hp => c_hasP hC hv hq (b1f ⟨fun c => absurd c (nI_pos (by omega)), fun _ => ⟨fun c => absurd c n9, fun _ => ⟨fun c => absurd c (nI_pos (by omega)), fun _ => ⟨fun _ => c_stands hC hv (by omega) ⟨fun c => hp.2 c, fun c => hp.1 c⟩, fun c => absurd (nI_le (b := 100) (by omega) (by decide)) c⟩⟩⟩⟩)
        have B : ∀ post : Int32 → Prop, ((stI v q = -1) → post 0) ∧ ((¬ stI v q = -1) → post (-5)) → P_X12_whyNot ma (nI q) (nI a) (nI b) post := fun post hp => m_isP hN hv hq (b1f (m_inL_ok (m := 9999) (by omega) (by decide) (b1f (m_inL_ok (m := 100) (by omega) (by decide) (b1t (m_stands hN hv (by omega) hp))))))
        by_cases c : stI v q = -1
        · exact Or.inr ⟨a, b, by omega, by omega, rfl, rfl, fun post hp => A post ⟨fun _ => hp, fun z => absurd c z⟩, fun post hp => B post ⟨fun _ => hp, fun z => absurd c z⟩⟩
        · exact Or.inl ⟨-5, by decide, fun post hp => A post ⟨fun z => absurd z c, fun _ => hp⟩, fun post hp => B post ⟨fun z => absurd z c, fun _ => hp⟩⟩
theorem q_bait (hI : Inv us ua rs ra ra2 sa sl ns na nl yt im ms ma ml) (mw : Nat → Int64) (p s ct : Int32) : P_X11_bait rs ra ns na nl p s ct (fun r ns' na' nl' => P_X12_bait ms mw ma ml p s ct (fun r' mt _ mb mk => r = r' ∧ Inv us ua rs ra ra2 sa sl ns' na' nl' yt im mt mb mk)) := by
  obtain ⟨v, hv, hC, hM, hP, hY, hK, hB, F⟩ := hI.get
  have fin := F ra2 ns na nl _ _ _ (MG.refl _ _ _) hM.1 hB hK
  rcases bait_cases hC hM.1 hv.1 p s ct with ⟨r, hr, h1, h2⟩ | ⟨a, b, ha, hb, rfl, rfl, h1, h2⟩
  · exact h1 _ ⟨fun c => absurd c hr, fun _ => h2 _ ⟨fun c => absurd c hr, fun _ => ⟨rfl, fin⟩⟩⟩
  · refine h1 _ ⟨fun _ => c_playBaited hC hv.1 hK ha hb (fun ns' na' nl' hBt => c_baitedLoss hC hv.1 hBt.2.2.2.2 ?_), fun c => absurd rfl c⟩
    refine h2 _ ⟨fun _ => m_baits hv hM _ ha hb (fun mt mw' mb mk hM' hG h2 _ => ?_), fun c => absurd rfl c⟩
    rw [h2]
    exact ⟨rfl, F _ _ _ _ _ _ _ hG hM'.1 hB hBt.2.1⟩
theorem q_caught (hI : Inv us ua rs ra ra2 sa sl ns na nl yt im ms ma ml) (mw : Nat → Int64) (t p s ct : Int32) : P_X11_caught rs ra ns na nl t p s ct (fun r ns' na' nl' => P_X12_caught ms mw ma ml t p s ct (fun r' mt _ mb mk => r = r' ∧ Inv us ua rs ra ra2 sa sl ns' na' nl' yt im mt mb mk)) := by
  obtain ⟨v, hv, hC, hM, hP, hY, hK, hB, F⟩ := hI.get
  have h13 := ok13 hv.1
  have h14 := ok14 hv.1
  have hCl := C_le h14
  have fin := F ra2 ns na nl _ _ _ (MG.refl _ _ _) hM.1 hB hK
  rcases ixs t (n := v 14 0) (by omega) with h | ⟨k, hk, rfl⟩
  · exact c_hasT0 hC h (b0f ⟨fun c => absurd c (by decide), fun _ => m_isT0 hM.2.1 hv.1 h (b0t ⟨rfl, fin⟩)⟩)
  · rcases bait_cases hC hM.1 hv.1 p s ct with ⟨r, hr, h1, h2⟩ | ⟨a, b, ha, hb, rfl, rfl, h1, h2⟩
    · exact c_hasT hC hv.1 hk (b1f (h1 _ ⟨fun c => absurd c hr, fun _ => m_isT hM.2.1 hv.1 hk (b1t (h2 _ ⟨fun c => absurd c hr, fun _ => ⟨rfl, fin⟩⟩))⟩))
    · refine c_hasT hC hv.1 hk (b1f (h1 _ ⟨fun _ => c_playBaited hC hv.1 hK ha hb (fun ns' na' nl' hBt => ?_), fun c => absurd rfl c⟩))
      obtain ⟨⟨E, hE, -⟩, hK', -, -, -⟩ := hBt
      refine c_partsCaught hE (by omega) ?_
      refine m_isT hM.2.1 hv.1 hk (b1t (h2 _ ⟨fun _ => m_baits hv hM _ ha hb (fun mt mw' mb mk hM' hG _ h9 => ?_), fun c => absurd rfl c⟩))
      have e14 : mb 12 0 = nI (v 14 0) := hM'.2.1.1
      have fin2 := F ra2 ns' na' nl' mt mb mk hG hM'.1 hB hK'
      have hsum : sumL (fun q => if q.testBit (11 + k) then Dn v a b (v 1 0) q else 0) N17 = sumL (fun c => if c.testBit k then Dn v a b (v 1 0) (2048 * c) else 0) (2 ^ v 14 0) := by
        rw [sumL_17, sumL_ext hCl (fun c h1 h2 => sumL_zero (fun g hg => by rw [Dn_sup h13 _ _ (Or.inr (by omega))]; simp))]
        refine sumL_cong (fun c _ => ?_)
        rw [sumL_one (i := 0) (by decide) (fun g hg hne => by rw [Dn_g (by omega) hg]; simp), en_tb (by decide)]
        simp
      have L : ∀ d i, i + d = 2 ^ v 14 0 → P_X12_caught_50 (nI k) p (nI a) (nI b) (fun r' mt _ mb mk => sumL (fun q => if q.testBit (11 + k) then Dn v a b (v 1 0) q else 0) N17 = r' ∧ Inv us ua rs ra ra2 sa sl ns' na' nl' yt im mt mb mk) mt mw' mb mk (d + 1) (sumL (fun c => if c.testBit k then Dn v a b (v 1 0) (2048 * c) else 0) i) (nI i) := by
        intro d
        induction d with
        | zero =>
          intro i hi
          obtain rfl : i = 2 ^ v 14 0 := by omega
          unfold P_X12_caught_50 P_X12_caught_50_b
          rw [e14, sh1 (by omega)]
          exact ⟨fun _ => ⟨hsum, fin2⟩, fun z => absurd (nI_le (Nat.le_refl _) (by omega)) z⟩
        | succ d ih =>
          intro i hi
          have go := ih (i + 1) (by omega)
          rw [sumL] at go
          unfold P_X12_caught_50 P_X12_caught_50_b
          rw [e14, sh1 (by omega), bit_o (by omega) (by omega), nI_clamp (by omega), nI_1, h9 i (by omega)]
          refine ⟨fun z => absurd ((nI_leI (by omega) (by omega)).mp z) (by omega), fun _ => ⟨fun c x hx => ?_, fun c => ⟨vp_in_nI (by omega) (by decide), fun x hx => ?_⟩⟩⟩
          · rw [if_neg c] at go
            rw [hx]; exact go
          · rw [if_pos c] at go
            rw [hx]; exact go
      exact ⟨2 ^ v 14 0 + 1, L (2 ^ v 14 0) 0 (by omega)⟩
end BB
