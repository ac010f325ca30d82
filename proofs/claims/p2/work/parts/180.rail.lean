/-! rail: the tape is read, line by line -/
def go (f : Nat → Int32) (n : Nat) : Nat → Rl × PS → Rl × PS
  | 0, s => s
  | d + 1, s => if s.2.1 = 0 ∧ kd f n s.2.2.2 ≠ 0 then go f n d (aLine (lLine f n s.1 s.2).1, rS f n (lLine f n s.1 s.2).2) else s
section RLG
variable {f : Nat → Int32} {n : Nat} {p : PS} {v : Rl}
theorem go_stop {d : Nat} {s : Rl × PS} (h : ¬ (s.2.1 = 0 ∧ kd f n s.2.2.2 ≠ 0)) : go f n d s = s := by
  cases d with
  | zero => rfl
  | succ d => rw [go, if_neg h]
theorem go_run {d : Nat} {s : Rl × PS} (h : s.2.1 = 0 ∧ kd f n s.2.2.2 ≠ 0) : go f n (d + 1) s = go f n d (aLine (lLine f n s.1 s.2).1, rS f n (lLine f n s.1 s.2).2) := by
  rw [go, if_pos h]
theorem lLine_2 : (lLine f n v p).1 2 0 = v 2 0 := by
  unfold lLine
  split
  · rfl
  split
  · rfl
  split
  · rfl
  split
  · rfl
  split
  · rfl
  split
  · rfl
  split
  · rfl
  rfl
theorem Mo.rS : Mo n p (rS f n p) := fun h => by
  unfold Jvm.Pilot.@@N@@.rS
  split
  · split
    · exact Mo.adv h
    · exact ⟨Nat.le_refl _, h⟩
  · exact ⟨Nat.le_refl _, h⟩
theorem line_2 {x : Int32} (hx : x = nI (v 2 0)) : x + 1 = nI (aLine (lLine f n v p).1 2 0) := by
  show x + 1 = nI ((lLine f n v p).1 2 0 + 1)
  rw [hx, nI_1, lLine_2]
theorem line_le (hp : p.2.2 ≤ n) (h2 : v 2 0 ≤ p.2.2) (h : (rS f n (lLine f n v p).2).1 = 0) : aLine (lLine f n v p).1 2 0 ≤ (rS f n (lLine f n v p).2).2.2 := by
  have := (line_go hp h).1
  show (lLine f n v p).1 2 0 + 1 ≤ _
  rw [lLine_2]
  omega
theorem go_ok (hn : n ≤ 1600) : ∀ (d : Nat) (v : Rl) (p : PS), p.2.2 ≤ n → (p.1 = 0 → okL v ∧ v 2 0 ≤ p.2.2) → (go f n d (v, p)).2.1 = 0 → okL (go f n d (v, p)).1 := by
  intro d
  induction d with
  | zero => intro v p hp hv h; exact (hv h).1
  | succ d ih =>
    intro v p hp hv h
    by_cases c : p.1 = 0 ∧ kd f n p.2.2 ≠ 0
    · rw [go_run (s := (v, p)) c] at h ⊢
      obtain ⟨h1, h2⟩ := hv c.1
      have hlt := kd_lt c.2
      exact ih _ _ (Mo.lLine.trans Mo.rS hp).2 (fun q => ⟨lLine_ok (v := v) (p := p) h1 (by omega) (rS_0 q), line_le (v := v) (p := p) hp h2 q⟩) h
    · rw [go_stop (s := (v, p)) c] at h ⊢
      exact (hv h).1
theorem c_loop {ua : A2} (hn : n ≤ 1600) (ha : ∀ i, i < n → ua 0 i = f i) {post : Int32 → A1 → A1 → A2 → Prop} {K : A1 → A1 → A2 → Prop} : ∀ (d : Nat) (v : Rl) (p : PS) (us rs : A1) (ra : A2) (x : Int32), CS f n p us → BOK ra → (p.1 = 0 → RelC v rs ra ∧ okL v ∧ v 2 0 ≤ p.2.2 ∧ x = nI (v 2 0) ∧ n ≤ p.2.2 + d) → (∀ us' rs' ra', CS f n (go f n d (v, p)).2 us' → BOK ra' → ((go f n d (v, p)).2.1 = 0 → RelC (go f n d (v, p)).1 rs' ra') → K us' rs' ra') → P_X5_readInto_23 ua post K (d + 1) x us rs ra := by
  intro d
  induction d with
  | zero =>
    intro v p us rs ra x hC hB hi hK
    by_cases z : p.1 = 0
    · obtain ⟨hR, hv, h2, hx, hd⟩ := hi z
      have e := hC.1
      have k0 : kd f n p.2.2 = 0 := kd_end (by omega)
      have fin : K us rs ra := hK us rs ra hC hB (fun _ => hR)
      refine ⟨fun _ => fin, fun _ => ⟨fun c => absurd (hC.f0 z) c, fun _ => ⟨fun _ => fin, fun c => absurd ?_ c⟩⟩⟩
      rw [(hC.2.2.2.2.2.1 z).2.2.2.1, k0]
      rfl
    · have fin : K us rs ra := hK us rs ra hC hB (fun q => absurd q z)
      exact ⟨fun _ => fin, fun _ => ⟨fun _ => fin, fun c => absurd c (hC.f1 z)⟩⟩
  | succ d ih =>
    intro v p us rs ra x hC hB hi hK
    by_cases z : p.1 = 0
    · obtain ⟨hR, hv, h2, hx, hd⟩ := hi z
      have e5 := (hC.2.2.2.2.2.1 z).2.2.2.1
      by_cases k0 : kd f n p.2.2 = 0
      · rw [go_stop (s := (v, p)) (fun q => q.2 k0)] at hK
        have fin : K us rs ra := hK us rs ra hC hB (fun _ => hR)
        refine ⟨fun _ => fin, fun _ => ⟨fun c => absurd (hC.f0 z) c, fun _ => ⟨fun _ => fin, fun c => absurd ?_ c⟩⟩⟩
        rw [e5, k0]
        rfl
      · rw [go_run (s := (v, p)) ⟨z, k0⟩] at hK
        have hlt := kd_lt k0
        have hk5 := kd_le f n p.2.2
        refine ⟨fun c => absurd c ?_, fun _ => ⟨fun c => absurd (hC.f0 z) c, fun _ => ⟨fun c => absurd c ?_, fun _ => ?_⟩⟩⟩
        · rw [hx]
          exact fun c => absurd ((nI_leI (a := 1600) (by decide) (by omega)).mp c) (by omega)
        · rw [e5]
          exact fun c => k0 ((nI_eq (b := 0) (by omega) (by decide)).mp c)
        · exact c_readLine hn ha hv.1.1 hC z hR (fun us' rs' ra' a b c => ih _ _ us' rs' ra' _ a b (fun q => ⟨c q, lLine_ok hv (by omega) (rS_0 q), line_le hC.1 h2 q, line_2 hx, by have := (line_go hC.1 q).1; omega⟩) hK)
    · rw [go_stop (s := (v, p)) (fun q => z q.1)] at hK
      have fin : K us rs ra := hK us rs ra hC hB (fun q => absurd q z)
      exact ⟨fun _ => fin, fun _ => ⟨fun _ => fin, fun c => absurd c (hC.f1 z)⟩⟩
theorem m_loop {m0 : A1} {ma0 : A2} (hn : n ≤ 1600) (ha : ∀ i, i < n → ma0 2 i = f i) {post : Int32 → A1 → (Nat → Int64) → A2 → Prop} {K : A1 → (Nat → Int64) → A2 → Prop} : ∀ (d : Nat) (v : Rl) (p : PS) (ms : A1) (mw : Nat → Int64) (ma : A2), MS f n p m0 ms mw → F4 ma0 ma → (p.1 = 0 → R4 v ma ∧ okL v ∧ v 2 0 ≤ p.2.2 ∧ n ≤ p.2.2 + d) → (∀ mt mw' mb, MS f n (go f n d (v, p)).2 m0 mt mw' → F4 ma0 mb → ((go f n d (v, p)).2.1 = 0 → R4 (go f n d (v, p)).1 mb) → K mt mw' mb) → P_X12_rail_13 post K (d + 1) ms mw ma := by
  intro d
  induction d with
  | zero =>
    intro v p ms mw ma hC hF hi hK
    by_cases z : p.1 = 0
    · obtain ⟨hR, hv, h2, hd⟩ := hi z
      have e := hC.1
      have k0 : kd f n p.2.2 = 0 := kd_end (by omega)
      have fin : K ms mw ma := hK ms mw ma hC hF (fun _ => hR)
      refine ⟨fun c => absurd (hC.f0 z) c, fun _ => b1f ⟨fun _ => fin, fun c => absurd ?_ c⟩⟩
      rw [(hC.2.2.2.2.2.1 z).2.1, k0]
      rfl
    · have fin : K ms mw ma := hK ms mw ma hC hF (fun q => absurd q z)
      exact ⟨fun _ => b0f fin, fun c => absurd c (hC.f1 z)⟩
  | succ d ih =>
    intro v p ms mw ma hC hF hi hK
    by_cases z : p.1 = 0
    · obtain ⟨hR, hv, h2, hd⟩ := hi z
      have e3 := (hC.2.2.2.2.2.1 z).2.1
      have hk5 := kd_le f n p.2.2
      by_cases k0 : kd f n p.2.2 = 0
      · rw [go_stop (s := (v, p)) (fun q => q.2 k0)] at hK
        have fin : K ms mw ma := hK ms mw ma hC hF (fun _ => hR)
        refine ⟨fun c => absurd (hC.f0 z) c, fun _ => b1f ⟨fun _ => fin, fun c => absurd ?_ c⟩⟩
        rw [e3, k0]
        rfl
      · rw [go_run (s := (v, p)) ⟨z, k0⟩] at hK
        have hlt := kd_lt k0
        refine ⟨fun c => absurd (hC.f0 z) c, fun _ => b1f ⟨fun c => absurd c ?_, fun _ => ?_⟩⟩
        · rw [e3]
          exact fun c => k0 ((kM_1 hk5 (c := 0) (by decide)).mp c)
        · exact m_turn hn (fun i hi => by rw [hF.two]; exact ha i hi) hv.1.1 hC z hR (fun mt mw' mc a b c => ih _ _ mt mw' mc a (hF.trans b) (fun q => ⟨c q, lLine_ok hv (by omega) (rS_0 q), line_le hC.1 h2 q, by have := (line_go hC.1 q).1; omega⟩) hK)
    · rw [go_stop (s := (v, p)) (fun q => z q.1)] at hK
      have fin : K ms mw ma := hK ms mw ma hC hF (fun q => absurd q z)
      exact ⟨fun _ => b0f fin, fun c => absurd c (hC.f1 z)⟩
end RLG
/-! the reference clears its row -/
def vz : Rl := fun _ _ => 0
theorem okL_z : okL vz := by
  refine ⟨⟨⟨by unfold vz; decide, fun k hk => absurd hk (Nat.not_lt_zero _), fun k hk => absurd hk (Nat.not_lt_zero _), fun k hk => absurd hk (Nat.not_lt_zero _), fun k hk => absurd hk (Nat.not_lt_zero _), fun k hk => absurd hk (Nat.not_lt_zero _), trivial⟩, fun k hk => absurd hk (Nat.not_lt_zero _), fun _ => rfl⟩, Nat.zero_le _⟩
def C7 (g : A2) : Prop := g 3 4 = 0 ∧ g 4 4 = 0 ∧ g 5 4 = 0 ∧ g 6 4 = 0 ∧ g 8 4 = 0 ∧ g 10 4 = 0 ∧ g 12 4 = 0
section CLR
variable {ma : A2} {post : A2 → Prop}
theorem m_clr98 (hp : ∀ g, F4 ma g → C7 g → (∀ y, y < 7 → g 14 (28 + y) = 0) → (∀ y, y < 2 → g 15 (8 + y) = 0) → (∀ y, y < 17 → g 16 (68 + y) = 0) → post g) : ∀ (d i : Nat) (g : A2), i + d = 17 → F4 ma g → C7 g → (∀ y, y < 7 → g 14 (28 + y) = 0) → (∀ y, y < 2 → g 15 (8 + y) = 0) → (∀ y, y < i → g 16 (68 + y) = 0) → P_X12_clears_98 post (d + 1) (nI i) g := by
  intro d
  induction d with
  | zero =>
    intro i g hi a b c e q
    obtain rfl : i = 17 := by omega
    exact ⟨fun _ => hp g a b c e q, fun z => absurd (nI_le (Nat.le_refl _) (by decide)) z⟩
  | succ d ih =>
    intro i g hi a b c e q
    refine ⟨fun z => absurd ((nI_leI (a := 17) (by decide) (by omega)).mp z) (by omega), fun _ => ?_⟩
    rw [show (68 : Int32) + nI i = nI (68 + i) from nI_add 68 i, nI_clamp (by omega), nI_1]
    refine ⟨vp_in_nI (by omega) (by decide), ih (i + 1) _ (by omega) (a.row (by decide) (by decide) rfl (Or.inr (show 4 * 17 ≤ 68 + i by omega)) _) b c e (fun y hy => ?_)⟩
    show upd (g 16) (68 + i) 0 (68 + y) = 0
    by_cases h : y = i
    · rw [h, u_at]
    · rw [u_ne (by omega)]
      exact q y (by omega)
theorem m_clr75 {K : Int32 → A2 → Prop} (hp : ∀ g, F4 ma g → C7 g → (∀ y, y < 7 → g 14 (28 + y) = 0) → (∀ y, y < 2 → g 15 (8 + y) = 0) → K 0 g) : ∀ (d i : Nat) (g : A2), i + d = 2 → F4 ma g → C7 g → (∀ y, y < 7 → g 14 (28 + y) = 0) → (∀ y, y < i → g 15 (8 + y) = 0) → P_X12_clears_75 post K (d + 1) (nI i) g := by
  intro d
  induction d with
  | zero =>
    intro i g hi a b c q
    obtain rfl : i = 2 := by omega
    exact ⟨fun _ => hp g a b c q, fun z => absurd (nI_le (Nat.le_refl _) (by decide)) z⟩
  | succ d ih =>
    intro i g hi a b c q
    refine ⟨fun z => absurd ((nI_leI (a := 2) (by decide) (by omega)).mp z) (by omega), fun _ => ?_⟩
    rw [show (8 : Int32) + nI i = nI (8 + i) from nI_add 8 i, nI_clamp (by omega), nI_1]
    refine ⟨vp_in_nI (by omega) (by decide), ih (i + 1) _ (by omega) (a.row (by decide) (by decide) rfl (Or.inl rfl) _) b c (fun y hy => ?_)⟩
    show upd (g 15) (8 + i) 0 (8 + y) = 0
    by_cases h : y = i
    · rw [h, u_at]
    · rw [u_ne (by omega)]
      exact q y (by omega)
theorem m_clr51 {K : Int32 → A2 → Prop} (hp : ∀ g, F4 ma g → C7 g → (∀ y, y < 7 → g 14 (28 + y) = 0) → K 0 g) : ∀ (d i : Nat) (g : A2), i + d = 7 → F4 ma g → C7 g → (∀ y, y < i → g 14 (28 + y) = 0) → P_X12_clears_51 post K (d + 1) (nI i) g := by
  intro d
  induction d with
  | zero =>
    intro i g hi a b q
    obtain rfl : i = 7 := by omega
    exact ⟨fun _ => hp g a b q, fun z => absurd (nI_le (Nat.le_refl _) (by decide)) z⟩
  | succ d ih =>
    intro i g hi a b q
    refine ⟨fun z => absurd ((nI_leI (a := 7) (by decide) (by omega)).mp z) (by omega), fun _ => ?_⟩
    rw [show (28 : Int32) + nI i = nI (28 + i) from nI_add 28 i, nI_clamp (by omega), nI_1]
    refine ⟨vp_in_nI (by omega) (by decide), ih (i + 1) _ (by omega) (a.row (by decide) (by decide) rfl (Or.inr (show 4 * 7 ≤ 28 + i by omega)) _) b (fun y hy => ?_)⟩
    show upd (g 14) (28 + i) 0 (28 + y) = 0
    by_cases h : y = i
    · rw [h, u_at]
    · rw [u_ne (by omega)]
      exact q y (by omega)
theorem m_clears (hp : ∀ g, F4 ma g → R4 vz g → post g) : P_X12_clears ma post := by
  have fin : ∀ g, F4 ma g → C7 g → (∀ y, y < 7 → g 14 (28 + y) = 0) → (∀ y, y < 2 → g 15 (8 + y) = 0) → (∀ y, y < 17 → g 16 (68 + y) = 0) → post g := by
    intro g hf hc7 h14 h15 h16
    refine hp g hf ?_
    obtain ⟨c3, c4, c5, c6, c8, c10, c12⟩ := hc7
    exact ⟨⟨⟨c3, c4, c5, c8, c10⟩, fun k hk => absurd hk (Nat.not_lt_zero _), fun k i hk => absurd hk (Nat.not_lt_zero _), fun k hk => absurd hk (Nat.not_lt_zero _), h14 0 (by decide), h14 1 (by decide), h14 2 (by decide), h14 3 (by decide), h14 4 (by decide), h14 5 (by decide), h14 6 (by decide)⟩, ⟨c12, fun k hk => absurd hk (Nat.not_lt_zero _)⟩, ⟨c6, Nat.zero_le _, fun k hk => absurd hk (Nat.not_lt_zero _)⟩, ⟨h16 0 (by decide), fun z => absurd (show (0 : Nat) = 1 from z) (by decide)⟩, h15 0 (by decide), h15 1 (by decide)⟩
  have hf0 := ((((((((F4.refl ma).row (r := 3) (i := 4) (by decide) (by decide) rfl (Or.inr (by decide)) 0).row (r := 4) (i := 4) (by decide) (by decide) rfl (Or.inr (by decide)) 0).row (r := 5) (i := 4) (by decide) (by decide) rfl (Or.inr (by decide)) 0).row (r := 6) (i := 4) (by decide) (by decide) rfl (Or.inr (by decide)) 0).row (r := 8) (i := 4) (by decide) (by decide) rfl (Or.inr (by decide)) 0).row (r := 10) (i := 4) (by decide) (by decide) rfl (Or.inr (by decide)) 0).row (r := 12) (i := 4) (by decide) (by decide) rfl (Or.inr (by decide)) 0)
  exact ⟨8, m_clr51 (fun g hf hc7 h14 => ⟨3, m_clr75 (fun g hf hc7 h14 h15 => ⟨18, m_clr98 fin 17 0 g (by decide) hf hc7 h14 h15 (fun y hy => absurd hy (Nat.not_lt_zero _))⟩) 2 0 g (by decide) hf hc7 h14 (fun y hy => absurd hy (Nat.not_lt_zero _))⟩) 7 0 _ (by decide) hf0 ⟨rfl, rfl, rfl, rfl, rfl, rfl, rfl⟩ (fun y hy => absurd hy (Nat.not_lt_zero _))⟩
end CLR
