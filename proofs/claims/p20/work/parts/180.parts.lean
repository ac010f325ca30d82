section
/-! rail: the tape is read, line by line -/
def go (f : Nat → Int32) (n : Nat) : Nat → Rl × PS → Rl × PS
  | 0, s => s
  | d + 1, s => if s.2.1 = 0 ∧ kd f n s.2.2.2 ≠ 0 then go f n d (aLine (lLine f n s.1 s.2).1, rS f n (lLine f n s.1 s.2).2) else s
section RLG
variable {f : Nat → Int32} {n : Nat} {p : PS} {v : Rl}
theorem go_stop {d : Nat} {s : Rl × PS} (h : ¬ (s.2.1 = 0 ∧ kd f n s.2.2.2 ≠ 0)) : go f n d s = s := by
  cases d with
  | zero => rfl
  | succ d => rw [go, if_neg h]
theorem go_run {d : Nat} {s : Rl × PS} (h : s.2.1 = 0 ∧ kd f n s.2.2.2 ≠ 0) : go f n (d + 1) s = go f n d (aLine (lLine f n s.1 s.2).1, rS f n (lLine f n s.1 s.2).2) := by
  rw [go, if_pos h]
theorem lLine_2 : (lLine f n v p).1 2 0 = v 2 0 := by
  unfold lLine
  split
  · rfl
  split
  · rfl
  split
  · rfl
  split
  · rfl
  split
  · rfl
  split
  · rfl
  split
  · rfl
  rfl
theorem Mo.rS : Mo n p (rS f n p) := fun h => by
  unfold Jvm.Pilot.@@N@@.rS
  split
  · split
    · exact Mo.adv h
    · exact ⟨Nat.le_refl _, h⟩
  · exact ⟨Nat.le_refl _, h⟩
theorem line_2 {x : Int32} (hx : x = nI (v 2 0)) : x + 1 = nI (aLine (lLine f n v p).1 2 0) := by
  show x + 1 = nI ((lLine f n v p).1 2 0 + 1)
  rw [hx, nI_1, lLine_2]
theorem line_le (hp : p.2.2 ≤ n) (h2 : v 2 0 ≤ p.2.2) (h : (rS f n (lLine f n v p).2).1 = 0) : aLine (lLine f n v p).1 2 0 ≤ (rS f n (lLine f n v p).2).2.2 := by
  have := (line_go hp h).1
  show (lLine f n v p).1 2 0 + 1 ≤ _
  rw [lLine_2]
  omega
theorem go_ok (hn : n ≤ 1600) : ∀ (d : Nat) (v : Rl) (p : PS), p.2.2 ≤ n → (p.1 = 0 → okL v ∧ v 2 0 ≤ p.2.2) → (go f n d (v, p)).2.1 = 0 → okL (go f n d (v, p)).1 := by
  intro d
  induction d with
  | zero => intro v p hp hv h; exact (hv h).1
  | succ d ih =>
    intro v p hp hv h
    by_cases c : p.1 = 0 ∧ kd f n p.2.2 ≠ 0
    · rw [go_run (s := (v, p)) c] at h ⊢
      obtain ⟨h1, h2⟩ := hv c.1
      have hlt := kd_lt c.2
      exact ih _ _ (Mo.lLine.trans Mo.rS hp).2 (fun q => ⟨lLine_ok (v := v) (p := p) h1 (by omega) (rS_0 q), line_le (v := v) (p := p) hp h2 q⟩) h
    · rw [go_stop (s := (v, p)) c] at h ⊢
      exact (hv h).1
theorem c_loop {ua : A2} (hn : n ≤ 1600) (ha : ∀ i, i < n → ua 0 i = f i) {post : Int32 → A1 → A1 → A2 → Prop} {K : A1 → A1 → A2 → Prop} : ∀ (d : Nat) (v : Rl) (p : PS) (us rs : A1) (ra : A2) (x : Int32), CS f n p us → BOK ra → (p.1 = 0 → RelC v rs ra ∧ okL v ∧ v 2 0 ≤ p.2.2 ∧ x = nI (v 2 0) ∧ n ≤ p.2.2 + d) → (∀ us' rs' ra', CS f n (go f n d (v, p)).2 us' → BOK ra' → ((go f n d (v, p)).2.1 = 0 → RelC (go f n d (v, p)).1 rs' ra') → K us' rs' ra') → P_X5_readInto_23 ua post K (d + 1) x us rs ra := by
  intro d
  induction d with
  | zero =>
    intro v p us rs ra x hC hB hi hK
    by_cases z : p.1 = 0
    · obtain ⟨hR, hv, h2, hx, hd⟩ := hi z
      have e := hC.1
      have k0 : kd f n p.2.2 = 0 := kd_end (by omega)
      have fin : K us rs ra := hK us rs ra hC hB (fun _ => hR)
      refine ⟨fun _ => fin, fun _ => ⟨fun c => absurd (hC.f0 z) c, fun _ => ⟨fun _ => fin, fun c => absurd ?_ c⟩⟩⟩
      rw [(hC.2.2.2.2.2.1 z).2.2.2.1, k0]
      rfl
    · have fin : K us rs ra := hK us rs ra hC hB (fun q => absurd q z)
      exact ⟨fun _ => fin, fun _ => ⟨fun _ => fin, fun c => absurd c (hC.f1 z)⟩⟩
  | succ d ih =>
    intro v p us rs ra x hC hB hi hK
    by_cases z : p.1 = 0
    · obtain ⟨hR, hv, h2, hx, hd⟩ := hi z
      have e5 := (hC.2.2.2.2.2.1 z).2.2.2.1
      by_cases k0 : kd f n p.2.2 = 0
      · rw [go_stop (s := (v, p)) (fun q => q.2 k0)] at hK
        have fin : K us rs ra := hK us rs ra hC hB (fun _ => hR)
        refine ⟨fun _ => fin, fun _ => ⟨fun c => absurd (hC.f0 z) c, fun _ => ⟨fun _ => fin, fun c => absurd ?_ c⟩⟩⟩
        rw [e5, k0]
        rfl
      · rw [go_run (s := (v, p)) ⟨z, k0⟩] at hK
        have hlt := kd_lt k0
        have hk5 := kd_le f n p.2.2
        refine ⟨fun c => absurd c ?_, fun _ => ⟨fun c => absurd (hC.f0 z) c, fun _ => ⟨fun c => absurd c ?_, fun _ => ?_⟩⟩⟩
        · rw [hx]
          exact fun c => absurd ((nI_leI (a := 1600) (by decide) (by omega)).mp c) (by omega)
        · rw [e5]
          exact fun c => k0 ((nI_eq (b := 0) (by omega) (by decide)).mp c)
        · exact c_readLine hn ha hv.1.1 hC z hR (fun us' rs' ra' a b c => ih _ _ us' rs' ra' _ a b (fun q => ⟨c q, lLine_ok hv (by omega) (rS_0 q), line_le hC.1 h2 q, line_2 hx, by have := (line_go hC.1 q).1; omega⟩) hK)
    · rw [go_stop (s := (v, p)) (fun q => z q.1)] at hK
      have fin : K us rs ra := hK us rs ra hC hB (fun q => absurd q z)
      exact ⟨fun _ => fin, fun _ => ⟨fun _ => fin, fun c => absurd c (hC.f1 z)⟩⟩
theorem m_loop {m0 : A1} {ma0 : A2} (hn : n ≤ 1600) (ha : ∀ i, i < n → ma0 2 i = f i) {post : Int32 → A1 → (Nat → Int64) → A2 → Prop} {K : A1 → (Nat → Int64) → A2 → Prop} : ∀ (d : Nat) (v : Rl) (p : PS) (ms : A1) (mw : Nat → Int64) (ma : A2), MS f n p m0 ms mw → F4 ma0 ma → (p.1 = 0 → R4 v ma ∧ okL v ∧ v 2 0 ≤ p.2.2 ∧ n ≤ p.2.2 + d) → (∀ mt mw' mb, MS f n (go f n d (v, p)).2 m0 mt mw' → F4 ma0 mb → ((go f n d (v, p)).2.1 = 0 → R4 (go f n d (v, p)).1 mb) → K mt mw' mb) → P_X12_rail_13 post K (d + 1) ms mw ma := by
  intro d
  induction d with
  | zero =>
    intro v p ms mw ma hC hF hi hK
    by_cases z : p.1 = 0
    · obtain ⟨hR, hv, h2, hd⟩ := hi z
      have e := hC.1
      have k0 : kd f n p.2.2 = 0 := kd_end (by omega)
      have fin : K ms mw ma := hK ms mw ma hC hF (fun _ => hR)
      refine ⟨fun c => absurd (hC.f0 z) c, fun _ => b1f ⟨fun _ => fin, fun c => absurd ?_ c⟩⟩
      rw [(hC.2.2.2.2.2.1 z).2.1, k0]
      rfl
    · have fin : K ms mw ma := hK ms mw ma hC hF (fun q => absurd q z)
      exact ⟨fun _ => b0f fin, fun c => absurd c (hC.f1 z)⟩
  | succ d ih =>
    intro v p ms mw ma hC hF hi hK
    by_cases z : p.1 = 0
    · obtain ⟨hR, hv, h2, hd⟩ := hi z
      have e3 := (hC.2.2.2.2.2.1 z).2.1
      have hk5 := kd_le f n p.2.2
      by_cases k0 : kd f n p.2.2 = 0
      · rw [go_stop (s := (v, p)) (fun q => q.2 k0)] at hK
        have fin : K ms mw ma := hK ms mw ma hC hF (fun _ => hR)
        refine ⟨fun c => absurd (hC.f0 z) c, fun _ => b1f ⟨fun _ => fin, fun c => absurd ?_ c⟩⟩
        rw [e3, k0]
        rfl
      · rw [go_run (s := (v, p)) ⟨z, k0⟩] at hK
        have hlt := kd_lt k0
        refine ⟨fun c => absurd (hC.f0 z) c, fun _ => b1f ⟨fun c => absurd c ?_, fun _ => ?_⟩⟩
        · rw [e3]
          exact fun c => k0 ((kM_1 hk5 (c := 0) (by decide)).mp c)
        · exact m_turn hn (fun i hi => by rw [hF.two]; exact ha i hi) hv.1.1 hC z hR (fun mt mw' mc a b c => ih _ _ mt mw' mc a (hF.trans b) (fun q => ⟨c q, lLine_ok hv (by omega) (rS_0 q), line_le hC.1 h2 q, by have := (line_go hC.1 q).1; omega⟩) hK)
    · rw [go_stop (s := (v, p)) (fun q => z q.1)] at hK
      have fin : K ms mw ma := hK ms mw ma hC hF (fun q => absurd q z)
      exact ⟨fun _ => b0f fin, fun c => absurd c (hC.f1 z)⟩
end RLG
/-! the reference clears its row -/
def vz : Rl := fun _ _ => 0
theorem okL_z : okL vz := by
  refine ⟨⟨⟨by unfold vz; decide, fun k hk => absurd hk (Nat.not_lt_zero _), fun k hk => absurd hk (Nat.not_lt_zero _), fun k hk => absurd hk (Nat.not_lt_zero _), fun k hk => absurd hk (Nat.not_lt_zero _), fun k hk => absurd hk (Nat.not_lt_zero _), trivial⟩, fun k hk => absurd hk (Nat.not_lt_zero _), fun _ => rfl⟩, Nat.zero_le _⟩
def C7 (g : A2) : Prop := g 3 4 = 0 ∧ g 4 4 = 0 ∧ g 5 4 = 0 ∧ g 6 4 = 0 ∧ g 8 4 = 0 ∧ g 10 4 = 0 ∧ g 12 4 = 0
section CLR
variable {ma : A2} {post : A2 → Prop}
theorem m_clr98 (hp : ∀ g, F4 ma g → C7 g → (∀ y, y < 7 → g 14 (28 + y) = 0) → (∀ y, y < 2 → g 15 (8 + y) = 0) → (∀ y, y < 17 → g 16 (68 + y) = 0) → post g) : ∀ (d i : Nat) (g : A2), i + d = 17 → F4 ma g → C7 g → (∀ y, y < 7 → g 14 (28 + y) = 0) → (∀ y, y < 2 → g 15 (8 + y) = 0) → (∀ y, y < i → g 16 (68 + y) = 0) → P_X12_clears_98 post (d + 1) (nI i) g := by
  intro d
  induction d with
  | zero =>
    intro i g hi a b c e q
    obtain rfl : i = 17 := by omega
    exact ⟨fun _ => hp g a b c e q, fun z => absurd (nI_le (Nat.le_refl _) (by decide)) z⟩
  | succ d ih =>
    intro i g hi a b c e q
    refine ⟨fun z => absurd ((nI_leI (a := 17) (by decide) (by omega)).mp z) (by omega), fun _ => ?_⟩
    rw [show (68 : Int32) + nI i = nI (68 + i) from nI_add 68 i, nI_clamp (by omega), nI_1]
    refine ⟨vp_in_nI (by omega) (by decide), ih (i + 1) _ (by omega) (a.row (by decide) (by decide) rfl (Or.inr (show 4 * 17 ≤ 68 + i by omega)) _) b c e (fun y hy => ?_)⟩
    show upd (g 16) (68 + i) 0 (68 + y) = 0
    by_cases h : y = i
    · rw [h, u_at]
    · rw [u_ne (by omega)]
      exact q y (by omega)
theorem m_clr75 {K : Int32 → A2 → Prop} (hp : ∀ g, F4 ma g → C7 g → (∀ y, y < 7 → g 14 (28 + y) = 0) → (∀ y, y < 2 → g 15 (8 + y) = 0) → K 0 g) : ∀ (d i : Nat) (g : A2), i + d = 2 → F4 ma g → C7 g → (∀ y, y < 7 → g 14 (28 + y) = 0) → (∀ y, y < i → g 15 (8 + y) = 0) → P_X12_clears_75 post K (d + 1) (nI i) g := by
  intro d
  induction d with
  | zero =>
    intro i g hi a b c q
    obtain rfl : i = 2 := by omega
    exact ⟨fun _ => hp g a b c q, fun z => absurd (nI_le (Nat.le_refl _) (by decide)) z⟩
  | succ d ih =>
    intro i g hi a b c q
    refine ⟨fun z => absurd ((nI_leI (a := 2) (by decide) (by omega)).mp z) (by omega), fun _ => ?_⟩
    rw [show (8 : Int32) + nI i = nI (8 + i) from nI_add 8 i, nI_clamp (by omega), nI_1]
    refine ⟨vp_in_nI (by omega) (by decide), ih (i + 1) _ (by omega) (a.row (by decide) (by decide) rfl (Or.inl rfl) _) b c (fun y hy => ?_)⟩
    show upd (g 15) (8 + i) 0 (8 + y) = 0
    by_cases h : y = i
    · rw [h, u_at]
    · rw [u_ne (by omega)]
      exact q y (by omega)
theorem m_clr51 {K : Int32 → A2 → Prop} (hp : ∀ g, F4 ma g → C7 g → (∀ y, y < 7 → g 14 (28 + y) = 0) → K 0 g) : ∀ (d i : Nat) (g : A2), i + d = 7 → F4 ma g → C7 g → (∀ y, y < i → g 14 (28 + y) = 0) → P_X12_clears_51 post K (d + 1) (nI i) g := by
  intro d
  induction d with
  | zero =>
    intro i g hi a b q
    obtain rfl : i = 7 := by omega
    exact ⟨fun _ => hp g a b q, fun z => absurd (nI_le (Nat.le_refl _) (by decide)) z⟩
  | succ d ih =>
    intro i g hi a b q
    refine ⟨fun z => absurd ((nI_leI (a := 7) (by decide) (by omega)).mp z) (by omega), fun _ => ?_⟩
    rw [show (28 : Int32) + nI i = nI (28 + i) from nI_add 28 i, nI_clamp (by omega), nI_1]
    refine ⟨vp_in_nI (by omega) (by decide), ih (i + 1) _ (by omega) (a.row (by decide) (by decide) rfl (Or.inr (show 4 * 7 ≤ 28 + i by omega)) _) b (fun y hy => ?_)⟩
    show upd (g 14) (28 + i) 0 (28 + y) = 0
    by_cases h : y = i
    · rw [h, u_at]
    · rw [u_ne (by omega)]
      exact q y (by omega)
theorem m_clears (hp : ∀ g, F4 ma g → R4 vz g → post g) : P_X12_clears ma post := by
  have fin : ∀ g, F4 ma g → C7 g → (∀ y, y < 7 → g 14 (28 + y) = 0) → (∀ y, y < 2 → g 15 (8 + y) = 0) → (∀ y, y < 17 → g 16 (68 + y) = 0) → post g := by
    intro g hf hc7 h14 h15 h16
    refine hp g hf ?_
    obtain ⟨c3, c4, c5, c6, c8, c10, c12⟩ := hc7
    exact ⟨⟨⟨c3, c4, c5, c8, c10⟩, fun k hk => absurd hk (Nat.not_lt_zero _), fun k i hk => absurd hk (Nat.not_lt_zero _), fun k hk => absurd hk (Nat.not_lt_zero _), h14 0 (by decide), h14 1 (by decide), h14 2 (by decide), h14 3 (by decide), h14 4 (by decide), h14 5 (by decide), h14 6 (by decide)⟩, ⟨c12, fun k hk => absurd hk (Nat.not_lt_zero _)⟩, ⟨c6, Nat.zero_le _, fun k hk => absurd hk (Nat.not_lt_zero _)⟩, ⟨h16 0 (by decide), fun z => absurd (show (0 : Nat) = 1 from z) (by decide)⟩, h15 0 (by decide), h15 1 (by decide)⟩
  have hf0 := ((((((((F4.refl ma).row (r := 3) (i := 4) (by decide) (by decide) rfl (Or.inr (by decide)) 0).row (r := 4) (i := 4) (by decide) (by decide) rfl (Or.inr (by decide)) 0).row (r := 5) (i := 4) (by decide) (by decide) rfl (Or.inr (by decide)) 0).row (r := 6) (i := 4) (by decide) (by decide) rfl (Or.inr (by decide)) 0).row (r := 8) (i := 4) (by decide) (by decide) rfl (Or.inr (by decide)) 0).row (r := 10) (i := 4) (by decide) (by decide) rfl (Or.inr (by decide)) 0).row (r := 12) (i := 4) (by decide) (by decide) rfl (Or.inr (by decide)) 0)
  exact ⟨8, m_clr51 (fun g hf hc7 h14 => ⟨3, m_clr75 (fun g hf hc7 h14 h15 => ⟨18, m_clr98 fin 17 0 g (by decide) hf hc7 h14 h15 (fun y hy => absurd hy (Nat.not_lt_zero _))⟩) 2 0 g (by decide) hf hc7 h14 (fun y hy => absurd hy (Nat.not_lt_zero _))⟩) 7 0 _ (by decide) hf0 ⟨rfl, rfl, rfl, rfl, rfl, rfl, rfl⟩ (fun y hy => absurd hy (Nat.not_lt_zero _))⟩
end CLR
end
section
/-! rail, whole -/
theorem F4.at {ma mb : A2} (h : F4 ma mb) (r : Nat) {x : Nat} (h15 : r ≠ 15) (w : Nat) (hw : wd r = w) (hx : x < 4 * w) : mb r x = ma r x := h r x (Or.inr (Or.inr ⟨h15, by rw [hw]; exact hx⟩))
theorem RelN.f4 {v : Rl} (hv : okV v) {j : Nat} (hj : j < 4) {ma mb : A2} (hF : F4 ma mb) (h : RelN v j ma) : RelN v j mb := by
  have h12 := ok12 hv
  have h13 := ok13 hv
  obtain ⟨⟨a1, a2, a3, a4, a5⟩, b1, c1, d1, e1, e2, e3, e4, e5, e6, e7⟩ := h
  refine ⟨⟨?_, ?_, ?_, ?_, ?_⟩, fun k hk => ?_, fun k i hk hi => ?_, fun c hc => ?_, ?_, ?_, ?_, ?_, ?_, ?_, ?_⟩
  · rw [hF.at 3 (by decide) 1 rfl (by omega)]; exact a1
  · rw [hF.at 4 (by decide) 1 rfl (by omega)]; exact a2
  · rw [hF.at 5 (by decide) 1 rfl (by omega)]; exact a3
  · rw [hF.at 8 (by decide) 1 rfl (by omega)]; exact a4
  · rw [hF.at 10 (by decide) 1 rfl (by omega)]; exact a5
  · rw [hF.at 9 (by decide) 20 rfl (by omega)]; exact b1 k hk
  · rw [hF.at 9 (by decide) 20 rfl (by omega)]; exact c1 k i hk hi
  · rw [hF.at 11 (by decide) 50 rfl (by omega), hF.at 11 (by decide) 50 rfl (by omega), hF.at 11 (by decide) 50 rfl (by omega), hF.at 11 (by decide) 50 rfl (by omega), hF.at 11 (by decide) 50 rfl (by omega)]; exact d1 c hc
  · rw [hF.at 14 (by decide) 7 rfl (by omega)]; exact e1
  · rw [hF.at 14 (by decide) 7 rfl (by omega)]; exact e2
  · rw [hF.at 14 (by decide) 7 rfl (by omega)]; exact e3
  · rw [hF.at 14 (by decide) 7 rfl (by omega)]; exact e4
  · rw [hF.at 14 (by decide) 7 rfl (by omega)]; exact e5
  · rw [hF.at 14 (by decide) 7 rfl (by omega)]; exact e6
  · rw [hF.at 14 (by decide) 7 rfl (by omega)]; exact e7
theorem RelT.f4 {v : Rl} (hv : okV v) {j : Nat} (hj : j < 4) {ma mb : A2} (hF : F4 ma mb) (h : RelT v j ma) : RelT v j mb := by
  have h14 := ok14 hv
  refine ⟨by rw [hF.at 12 (by decide) 1 rfl (by omega)]; exact h.1, fun t ht => ?_⟩
  rw [hF.at 13 (by decide) 30 rfl (by omega), hF.at 13 (by decide) 30 rfl (by omega), hF.at 13 (by decide) 30 rfl (by omega), hF.at 13 (by decide) 30 rfl (by omega), hF.at 13 (by decide) 30 rfl (by omega)]
  exact h.2 t ht
theorem RelP.f4 {v : Rl} {j : Nat} (hj : j < 4) {ma mb : A2} (hF : F4 ma mb) (h : RelP v j ma) : RelP v j mb := by
  have h11 := h.2.1
  refine ⟨by rw [hF.at 6 (by decide) 1 rfl (by omega)]; exact h.1, h11, fun k hk => ?_⟩
  rw [hF.at 7 (by decide) 8 rfl (by omega), hF.at 7 (by decide) 8 rfl (by omega)]
  exact h.2.2 k hk
theorem RelY.f4 {v : Rl} {j : Nat} (hj : j < 4) {ma mb : A2} (hF : F4 ma mb) (h : RelY v j ma) : RelY v j mb := by
  refine ⟨by rw [hF.at 16 (by decide) 17 rfl (by omega)]; exact h.1, fun z => ⟨fun c hc => ?_, fun t ht => ?_⟩⟩
  · rw [hF.at 16 (by decide) 17 rfl (by omega)]; exact (h.2 z).1 c hc
  · rw [hF.at 16 (by decide) 17 rfl (by omega)]; exact (h.2 z).2 t ht
theorem ImR.f4 {im : Img} {ma mb : A2} (h : ImR im ma) (hF : F4 ma mb) : ImR im mb := by
  intro k hk
  have hh := h k hk
  have e17 : mb 17 k = ma 17 k := hF 17 k (Or.inr (Or.inl (by decide)))
  cases hm : im k with
  | none =>
    rw [hm] at hh
    simp only at hh ⊢
    rw [e17]
    exact hh
  | some q =>
    rw [hm] at hh
    simp only at hh ⊢
    rw [e17]
    obtain ⟨g0, w, g1, g2, g3, g4, g5, g6⟩ := hh
    exact ⟨g0, w, g1, g2, g3.f4 g1.1 (by omega) hF, g4.f4 g1.1 (by omega) hF, g5.f4 (by omega) hF, g6.f4 (by omega) hF⟩
theorem ImR.cp0 {im : Img} {ma : A2} {a : Nat} (h : ImR im ma) : ImR im (cpA ma a 0) := by
  intro k hk
  have hh := h k hk
  rw [cpA_ne (show 17 < 3 ∨ 17 = 15 ∨ 16 < 17 by decide)]
  cases hm : im k with
  | none =>
    rw [hm] at hh
    exact hh
  | some q =>
    rw [hm] at hh
    simp only at hh ⊢
    obtain ⟨g0, w, g1, g2, g3, g4, g5, g6⟩ := hh
    exact ⟨g0, w, g1, g2, g3.cpo g1.1 (by omega), g4.cpo g1.1 (by omega), g5.cpo (by omega), g6.cpo (by omega)⟩
section QRL
variable {us : A1} {ua : A2} {rs : A1} {ra ra2 sa : A2} {sl : L2} {ns : A1} {na : A2} {nl : L2} {yt : Int32} {im : Img} {ms : A1} {mw : Nat → Int64} {ma : A2} {ml : L2}
theorem m_beginR {f : Nat → Int32} {n : Nat} (hn : n ≤ 1600) {mb : A2} (hb : ∀ i, i < n → mb 2 i = f i) (h1 : ms 1 = nI n) {post : A1 → (Nat → Int64) → Prop} (hp : ∀ mt mw', MS f n (0, 0, sk f n 0) (va_up ms 0 0) mt mw' → post mt mw') : P_X12_begins (va_up ms 0 0) mw mb post := by
  refine m_next (n := n) (b := 0) (f := f) hn (Nat.zero_le _) ?_ ?_ hb mw (fun mt mw' r1 r2 r3 r4 r5 _ r7 => hp mt mw' ⟨(sk_le (Nat.zero_le n)).2, show (0 : Nat) < 4 by decide, Nat.zero_le _, ?_, ?_, fun _ => ⟨r2, r3, r4, r5, r7⟩, fun q => absurd rfl q, fun j hj => ?_⟩)
  · rw [up_ne (by decide), up_ne (by decide), up_ne (by decide), up_ne (by decide)]; exact h1
  · rw [up_ne (by decide), up_ne (by decide), up_at]; rfl
  · rw [r1 1 (by decide), up_ne (by decide), up_ne (by decide), up_ne (by decide), up_ne (by decide)]; exact h1
  · rw [r1 6 (by decide), up_ne (by decide), up_at]; rfl
  · rw [r1 j (by omega), up_ne (by omega), up_ne (by omega), up_ne (by omega)]
theorem c_beginR {f : Nat → Int32} {n : Nat} (hn : n ≤ 1600) (ha : ∀ i, i < n → ua 0 i = f i) (h2 : us 2 = nI n) {post : Int32 → Int32 → Int32 → Int32 → Prop} (hp : ∀ a b c d, CS f n (0, 0, sk f n 0) (va_up (va_up (va_up (va_up (va_up (va_up us 0 0) 1 (-1)) 3 a) 4 b) 5 c) 6 d) → post a b c d) : P_X8_rewind (ua 0) (us 2) (us 3) (us 4) (us 5) (us 6) post := by
  unfold P_X8_rewind
  rw [h2]
  refine c_step (b := 0) hn (Nat.zero_le _) ha _ _ _ (hp _ _ _ _ ⟨(sk_le (Nat.zero_le n)).2, show (0 : Nat) < 4 by decide, Nat.zero_le _, ?_, ?_, fun _ => ⟨?_, ?_, ?_, ?_, ?_⟩, fun q => absurd rfl q⟩)
  · rw [up_ne (by decide), up_ne (by decide), up_ne (by decide), up_ne (by decide), up_ne (by decide), up_ne (by decide)]; exact h2
  · rw [up_ne (by decide), up_ne (by decide), up_ne (by decide), up_ne (by decide), up_ne (by decide), up_at]; rfl
  · rw [up_ne (by decide), up_ne (by decide), up_ne (by decide), up_ne (by decide), up_at]
  · rw [up_ne (by decide), up_ne (by decide), up_ne (by decide), up_at]
  · rw [up_ne (by decide), up_ne (by decide), up_at]
  · rw [up_ne (by decide), up_at]
  · rw [up_at]; rfl
theorem c_wipeR {rs2 : A1} (hB : BOK ra2) {post : A1 → Prop} (hp : ∀ rs', RelC vz rs' ra2 → post rs') : P_X4_wipe rs2 post := by
  refine hp _ ⟨fun j hj => ?_, fun k hk => absurd hk (Nat.not_lt_zero _), fun k hk => absurd hk (Nat.not_lt_zero _), fun k hk => absurd hk (Nat.not_lt_zero _), fun k hk => absurd hk (Nat.not_lt_zero _), fun k hk => absurd hk (Nat.not_lt_zero _), fun z => absurd (show (0 : Nat) = 1 from z) (by decide), hB⟩
  have : j = 0 ∨ j = 1 ∨ j = 2 ∨ j = 3 ∨ j = 4 ∨ j = 5 ∨ j = 6 ∨ j = 7 ∨ j = 8 ∨ j = 9 ∨ j = 10 ∨ j = 11 ∨ j = 12 ∨ j = 13 ∨ j = 14 ∨ j = 15 := by omega
  rcases this with rfl | rfl | rfl | rfl | rfl | rfl | rfl | rfl | rfl | rfl | rfl | rfl | rfl | rfl | rfl | rfl <;> rfl
theorem q_rail {rs2 : A1} (hI : Inv us ua rs ra ra2 sa sl ns na nl yt im ms ma ml) : P_X11_rail us ua rs ra rs2 ra2 (fun r us' rs' ra' rs2' ra2' => P_X12_rail ms mw ma (fun r' mt mw' mb => r = r' ∧ Inv us' ua rs' ra' ra2' sa sl ns na nl yt im mt mb ml)) := by
  obtain ⟨⟨t1, t2, n, hn, u2, m1, tp⟩, ⟨v, hv, hC, hN, hT, hP, hY⟩, hB, hK, hS, hIm, h10, hy⟩ := hI
  have hsk := (sk_le (f := ua 0) (Nat.zero_le n)).2
  unfold P_X11_rail P_X5_readInto
  refine c_wipeR hB (fun rs1 hR1 => c_beginR (f := ua 0) hn (fun i _ => rfl) u2 (fun a b c d hCS => ⟨n + 1, c_loop (f := ua 0) hn (fun i _ => rfl) n vz (0, 0, sk (ua 0) n 0) _ rs1 ra2 0 hCS hB (fun _ => ⟨hR1, okL_z, Nat.zero_le _, rfl, by omega⟩) (fun us1 rsE raE hE hBE hRE => ?_)⟩))
  have hok := go_ok (f := ua 0) hn n vz (0, 0, sk (ua 0) n 0) hsk (fun _ => ⟨okL_z, Nat.zero_le _⟩)
  -- the reference, to its end
  have M : ∀ (post : Int32 → A1 → (Nat → Int64) → A2 → Prop), (∀ mt mw' mb, MS (ua 0) n (go (ua 0) n n (vz, (0, 0, sk (ua 0) n 0))).2 (va_up ms 0 0) mt mw' → F4 ma mb → ((go (ua 0) n n (vz, (0, 0, sk (ua 0) n 0))).2.1 = 0 → R4 (go (ua 0) n n (vz, (0, 0, sk (ua 0) n 0))).1 mb) → P_X12_rail_71 post mt mw' mb) → P_X12_rail ms mw ma post := by
    intro post h
    refine m_clears (fun g hF hR => m_beginR (f := ua 0) hn (fun i hi => by rw [hF.two]; exact (tp i hi).symm) m1 (fun mt mw' hM => ⟨n + 1, m_loop (f := ua 0) (ma0 := ma) hn (fun i hi => (tp i hi).symm) n vz (0, 0, sk (ua 0) n 0) mt mw' g hM hF (fun _ => ⟨hR, okL_z, Nat.zero_le _, by omega⟩) h⟩))
  generalize go (ua 0) n n (vz, (0, 0, sk (ua 0) n 0)) = E at hE hRE hok M
  obtain ⟨e1, e2, e3, e4, e5, e6, e7⟩ := hE
  -- what is the same at both ends
  have TR : ∀ (mt : A1) (mw' : Nat → Int64) (mb : A2), MS (ua 0) n E.2 (va_up ms 0 0) mt mw' → ∀ y : Int32, (E.2.1 = 0 → y = -1) → (E.2.1 ≠ 0 → y = mt 7) → TapeR (va_up us1 2 0) ua (va_up (va_up (va_up mt 1 0) 8 (mt 6)) 9 y) mb := by
    intro mt mw' mb g y y0 y1
    refine ⟨?_, ?_, 0, Nat.zero_le _, ?_, ?_, fun i hi => absurd hi (Nat.not_lt_zero _)⟩
    · rw [up_ne (by decide), up_ne (by decide), up_at, e5, g.2.2.2.2.1]
    · rw [up_ne (by decide), up_at]
      by_cases z : E.2.1 = 0
      · rw [y0 z]; exact (e6 z).1
      · rw [y1 z, e7 z, g.2.2.2.2.2.2.1 z]
    · rw [up_at]; rfl
    · rw [up_ne (by decide), up_ne (by decide), up_at]; rfl
  have SL : ∀ mb : A2, (∀ j x, j < 3 → mb j x = ma j x) → SlotR sa sl mb ml := by
    intro mb e k hk
    obtain ⟨w, i, q1, q2, q3, q4, q5, q6, q7⟩ := hS k hk
    exact ⟨w, i, q1, q2, q3, (e 0 k (by decide)).trans q4, q5, (e 1 k (by decide)).trans q6, q7⟩
  have T10 : ∀ (mt : A1) (mw' : Nat → Int64), MS (ua 0) n E.2 (va_up ms 0 0) mt mw' → ∀ y : Int32, (va_up (va_up (va_up mt 1 0) 8 (mt 6)) 9 y) 10 = 0 ∧ (va_up (va_up (va_up mt 1 0) 8 (mt 6)) 9 y) 11 = 0 := by
    intro mt mw' g y
    have fr := g.2.2.2.2.2.2.2
    constructor
    · rw [up_ne (by decide), up_ne (by decide), up_ne (by decide), fr 10 (by decide), up_ne (by decide)]; exact h10.1
    · rw [up_ne (by decide), up_ne (by decide), up_ne (by decide), fr 11 (by decide), up_ne (by decide)]; exact h10.2
  by_cases z : E.2.1 = 0
  · -- read
    have z0 : us1 0 = 0 := by rw [e5, z]; rfl
    refine ⟨fun c => absurd z0 c, fun _ => b1t (c_copyFrom (hRE z) (hok z).1.1 (fun rs' ra' hC' hB' ers => M _ (fun mt mw' mb g hF hR => ?_)))⟩
    intro x hx
    subst hx
    have g6 : mt 6 = 0 := by rw [g.2.2.2.2.1, z]; rfl
    refine ⟨fun c => absurd g6 c, fun _ => ⟨fun _ => m_copyRail (a := 4) (b := 0) (by decide) (by decide) (by decide) ⟨?_, ?_⟩, fun c => absurd ?_ c⟩⟩
    · have R := (hR z).1.cp (hok z).1.1 (b := 0)
      rw [ers 2 (by decide), (hRE z).1 2 (by decide)]
      exact R.1.1.symm
    · obtain ⟨r1, r2, r3, r4, -⟩ := hR z
      exact ⟨TR mt mw' _ g _ (fun _ => rfl) (fun c => absurd z c), ⟨E.1, (hok z).1, hC', r1.cp (hok z).1.1, r2.cp (hok z).1.1, r3.cp, r4.cp⟩, hBE, hK, SL _ (fun j x hj => by rw [cpA_ne (Or.inl hj)]; exact hF j x (Or.inl hj)), (hIm.f4 hF).cp0, T10 mt mw' g _, hy⟩
    · rw [up_ne (by decide), up_ne (by decide), up_ne (by decide)]; exact g6
  · -- a fault
    have z0 : ¬ us1 0 = 0 := fun q => z ((nI_eq (b := 0) (by omega) (by decide)).mp (e5.symm.trans q))
    refine ⟨fun _ => b0t (M _ (fun mt mw' mb g hF hR => ?_)), fun c => absurd c z0⟩
    intro x hx
    subst hx
    have g6 : ¬ mt 6 = 0 := g.f1 z
    refine ⟨fun _ x hx => ⟨fun c => absurd ?_ g6, fun _ => ⟨rfl, ?_⟩⟩, fun c => absurd c g6⟩
    · rw [up_ne (by decide), up_ne (by decide), up_ne (by decide)] at c; exact c
    · exact ⟨TR mt mw' _ g _ (fun c => absurd c z) (fun _ => hx), ⟨v, hv, hC, hN.f4 hv.1 (by decide) hF, hT.f4 hv.1 (by decide) hF, hP.f4 (by decide) hF, hY.f4 (by decide) hF⟩, hBE, hK, SL _ (fun j x hj => hF j x (Or.inl hj)), hIm.f4 hF, T10 mt mw' g _, hy⟩
end QRL
end
