/-! rail, whole -/
theorem F4.at {ma mb : A2} (h : F4 ma mb) (r : Nat) {x : Nat} (h15 : r ≠ 15) (w : Nat) (hw : wd r = w) (hx : x < 4 * w) : mb r x = ma r x := h r x (Or.inr (Or.inr ⟨h15, by rw [hw]; exact hx⟩))
theorem RelN.f4 {v : Rl} (hv : okV v) {j : Nat} (hj : j < 4) {ma mb : A2} (hF : F4 ma mb) (h : RelN v j ma) : RelN v j mb := by
  have h12 := ok12 hv
  have h13 := ok13 hv
  obtain ⟨⟨a1, a2, a3, a4, a5⟩, b1, c1, d1, e1, e2, e3, e4, e5, e6, e7⟩ := h
  refine ⟨⟨?_, ?_, ?_, ?_, ?_⟩, fun k hk => ?_, fun k i hk hi => ?_, fun c hc => ?_, ?_, ?_, ?_, ?_, ?_, ?_, ?_⟩
  · rw [hF.at 3 (by decide) 1 rfl (by omega)]; exact a1
  · rw [hF.at 4 (by decide) 1 rfl (by omega)]; exact a2
  · rw [hF.at 5 (by decide) 1 rfl (by omega)]; exact a3
  · rw [hF.at 8 (by decide) 1 rfl (by omega)]; exact a4
  · rw [hF.at 10 (by decide) 1 rfl (by omega)]; exact a5
  · rw [hF.at 9 (by decide) 20 rfl (by omega)]; exact b1 k hk
  · rw [hF.at 9 (by decide) 20 rfl (by omega)]; exact c1 k i hk hi
  · rw [hF.at 11 (by decide) 50 rfl (by omega), hF.at 11 (by decide) 50 rfl (by omega), hF.at 11 (by decide) 50 rfl (by omega), hF.at 11 (by decide) 50 rfl (by omega), hF.at 11 (by decide) 50 rfl (by omega)]; exact d1 c hc
  · rw [hF.at 14 (by decide) 7 rfl (by omega)]; exact e1
  · rw [hF.at 14 (by decide) 7 rfl (by omega)]; exact e2
  · rw [hF.at 14 (by decide) 7 rfl (by omega)]; exact e3
  · rw [hF.at 14 (by decide) 7 rfl (by omega)]; exact e4
  · rw [hF.at 14 (by decide) 7 rfl (by omega)]; exact e5
  · rw [hF.at 14 (by decide) 7 rfl (by omega)]; exact e6
  · rw [hF.at 14 (by decide) 7 rfl (by omega)]; exact e7
theorem RelT.f4 {v : Rl} (hv : okV v) {j : Nat} (hj : j < 4) {ma mb : A2} (hF : F4 ma mb) (h : RelT v j ma) : RelT v j mb := by
  have h14 := ok14 hv
  refine ⟨by rw [hF.at 12 (by decide) 1 rfl (by omega)]; exact h.1, fun t ht => ?_⟩
  rw [hF.at 13 (by decide) 30 rfl (by omega), hF.at 13 (by decide) 30 rfl (by omega), hF.at 13 (by decide) 30 rfl (by omega), hF.at 13 (by decide) 30 rfl (by omega), hF.at 13 (by decide) 30 rfl (by omega)]
  exact h.2 t ht
theorem RelP.f4 {v : Rl} {j : Nat} (hj : j < 4) {ma mb : A2} (hF : F4 ma mb) (h : RelP v j ma) : RelP v j mb := by
  have h11 := h.2.1
  refine ⟨by rw [hF.at 6 (by decide) 1 rfl (by omega)]; exact h.1, h11, fun k hk => ?_⟩
  rw [hF.at 7 (by decide) 8 rfl (by omega), hF.at 7 (by decide) 8 rfl (by omega)]
  exact h.2.2 k hk
theorem RelY.f4 {v : Rl} {j : Nat} (hj : j < 4) {ma mb : A2} (hF : F4 ma mb) (h : RelY v j ma) : RelY v j mb := by
  refine ⟨by rw [hF.at 16 (by decide) 17 rfl (by omega)]; exact h.1, fun z => ⟨fun c hc => ?_, fun t ht => ?_⟩⟩
  · rw [hF.at 16 (by decide) 17 rfl (by omega)]; exact (h.2 z).1 c hc
  · rw [hF.at 16 (by decide) 17 rfl (by omega)]; exact (h.2 z).2 t ht
theorem ImR.f4 {im : Img} {ma mb : A2} (h : ImR im ma) (hF : F4 ma mb) : ImR im mb := by
  intro k hk
  have hh := h k hk
  have e17 : mb 17 k = ma 17 k := hF 17 k (Or.inr (Or.inl (by decide)))
  cases hm : im k with
  | none =>
    rw [hm] at hh
    simp only at hh ⊢
    rw [e17]
    exact hh
  | some q =>
    rw [hm] at hh
    simp only at hh ⊢
    rw [e17]
    obtain ⟨g0, w, g1, g2, g3, g4, g5, g6⟩ := hh
    exact ⟨g0, w, g1, g2, g3.f4 g1.1 (by omega) hF, g4.f4 g1.1 (by omega) hF, g5.f4 (by omega) hF, g6.f4 (by omega) hF⟩
theorem ImR.cp0 {im : Img} {ma : A2} {a : Nat} (h : ImR im ma) : ImR im (cpA ma a 0) := by
  intro k hk
  have hh := h k hk
  rw [cpA_ne (show 17 < 3 ∨ 17 = 15 ∨ 16 < 17 by decide)]
  cases hm : im k with
  | none =>
    rw [hm] at hh
    exact hh
  | some q =>
    rw [hm] at hh
    simp only at hh ⊢
    obtain ⟨g0, w, g1, g2, g3, g4, g5, g6⟩ := hh
    exact ⟨g0, w, g1, g2, g3.cpo g1.1 (by omega), g4.cpo g1.1 (by omega), g5.cpo (by omega), g6.cpo (by omega)⟩
section QRL
variable {us : A1} {ua : A2} {rs : A1} {ra ra2 sa : A2} {sl : L2} {ns : A1} {na : A2} {nl : L2} {yt : Int32} {im : Img} {ms : A1} {mw : Nat → Int64} {ma : A2} {ml : L2}
theorem m_beginR {f : Nat → Int32} {n : Nat} (hn : n ≤ 1600) {mb : A2} (hb : ∀ i, i < n → mb 2 i = f i) (h1 : ms 1 = nI n) {post : A1 → (Nat → Int64) → Prop} (hp : ∀ mt mw', MS f n (0, 0, sk f n 0) (va_up ms 0 0) mt mw' → post mt mw') : P_X12_begins (va_up ms 0 0) mw mb post := by
  refine m_next (n := n) (b := 0) (f := f) hn (Nat.zero_le _) ?_ ?_ hb mw (fun mt mw' r1 r2 r3 r4 r5 _ r7 => hp mt mw' ⟨(sk_le (Nat.zero_le n)).2, show (0 : Nat) < 4 by decide, Nat.zero_le _, ?_, ?_, fun _ => ⟨r2, r3, r4, r5, r7⟩, fun q => absurd rfl q, fun j hj => ?_⟩)
  · rw [up_ne (by decide), up_ne (by decide), up_ne (by decide), up_ne (by decide)]; exact h1
  · rw [up_ne (by decide), up_ne (by decide), up_at]; rfl
  · rw [r1 1 (by decide), up_ne (by decide), up_ne (by decide), up_ne (by decide), up_ne (by decide)]; exact h1
  · rw [r1 6 (by decide), up_ne (by decide), up_at]; rfl
  · rw [r1 j (by omega), up_ne (by omega), up_ne (by omega), up_ne (by omega)]
theorem c_beginR {f : Nat → Int32} {n : Nat} (hn : n ≤ 1600) (ha : ∀ i, i < n → ua 0 i = f i) (h2 : us 2 = nI n) {post : Int32 → Int32 → Int32 → Int32 → Prop} (hp : ∀ a b c d, CS f n (0, 0, sk f n 0) (va_up (va_up (va_up (va_up (va_up (va_up us 0 0) 1 (-1)) 3 a) 4 b) 5 c) 6 d) → post a b c d) : P_X8_rewind (ua 0) (us 2) (us 3) (us 4) (us 5) (us 6) post := by
  unfold P_X8_rewind
  rw [h2]
  refine c_step (b := 0) hn (Nat.zero_le _) ha _ _ _ (hp _ _ _ _ ⟨(sk_le (Nat.zero_le n)).2, show (0 : Nat) < 4 by decide, Nat.zero_le _, ?_, ?_, fun _ => ⟨?_, ?_, ?_, ?_, ?_⟩, fun q => absurd rfl q⟩)
  · rw [up_ne (by decide), up_ne (by decide), up_ne (by decide), up_ne (by decide), up_ne (by decide), up_ne (by decide)]; exact h2
  · rw [up_ne (by decide), up_ne (by decide), up_ne (by decide), up_ne (by decide), up_ne (by decide), up_at]; rfl
  · rw [up_ne (by decide), up_ne (by decide), up_ne (by decide), up_ne (by decide), up_at]
  · rw [up_ne (by decide), up_ne (by decide), up_ne (by decide), up_at]
  · rw [up_ne (by decide), up_ne (by decide), up_at]
  · rw [up_ne (by decide), up_at]
  · rw [up_at]; rfl
theorem c_wipeR {rs2 : A1} (hB : BOK ra2) {post : A1 → Prop} (hp : ∀ rs', RelC vz rs' ra2 → post rs') : P_X4_wipe rs2 post := by
  refine hp _ ⟨fun j hj => ?_, fun k hk => absurd hk (Nat.not_lt_zero _), fun k hk => absurd hk (Nat.not_lt_zero _), fun k hk => absurd hk (Nat.not_lt_zero _), fun k hk => absurd hk (Nat.not_lt_zero _), fun k hk => absurd hk (Nat.not_lt_zero _), fun z => absurd (show (0 : Nat) = 1 from z) (by decide), hB⟩
  have : j = 0 ∨ j = 1 ∨ j = 2 ∨ j = 3 ∨ j = 4 ∨ j = 5 ∨ j = 6 ∨ j = 7 ∨ j = 8 ∨ j = 9 ∨ j = 10 ∨ j = 11 ∨ j = 12 ∨ j = 13 ∨ j = 14 ∨ j = 15 := by omega
  rcases this with rfl | rfl | rfl | rfl | rfl | rfl | rfl | rfl | rfl | rfl | rfl | rfl | rfl | rfl | rfl | rfl <;> rfl
theorem q_rail {rs2 : A1} (hI : Inv us ua rs ra ra2 sa sl ns na nl yt im ms ma ml) : P_X11_rail us ua rs ra rs2 ra2 (fun r us' rs' ra' rs2' ra2' => P_X12_rail ms mw ma (fun r' mt mw' mb => r = r' ∧ Inv us' ua rs' ra' ra2' sa sl ns na nl yt im mt mb ml)) := by
  obtain ⟨⟨t1, t2, n, hn, u2, m1, tp⟩, ⟨v, hv, hC, hN, hT, hP, hY⟩, hB, hK, hS, hIm, h10, hy⟩ := hI
  have hsk := (sk_le (f := ua 0) (Nat.zero_le n)).2
  unfold P_X11_rail P_X5_readInto
  refine c_wipeR hB (fun rs1 hR1 => c_beginR (f := ua 0) hn (fun i _ => rfl) u2 (fun a b c d hCS => ⟨n + 1, c_loop (f := ua 0) hn (fun i _ => rfl) n vz (0, 0, sk (ua 0) n 0) _ rs1 ra2 0 hCS hB (fun _ => ⟨hR1, okL_z, Nat.zero_le _, rfl, by omega⟩) (fun us1 rsE raE hE hBE hRE => ?_)⟩))
  have hok := go_ok (f := ua 0) hn n vz (0, 0, sk (ua 0) n 0) hsk (fun _ => ⟨okL_z, Nat.zero_le _⟩)
  -- the reference, to its end
  have M : ∀ (post : Int32 → A1 → (Nat → Int64) → A2 → Prop), (∀ mt mw' mb, MS (ua 0) n (go (ua 0) n n (vz, (0, 0, sk (ua 0) n 0))).2 (va_up ms 0 0) mt mw' → F4 ma mb → ((go (ua 0) n n (vz, (0, 0, sk (ua 0) n 0))).2.1 = 0 → R4 (go (ua 0) n n (vz, (0, 0, sk (ua 0) n 0))).1 mb) → P_X12_rail_71 post mt mw' mb) → P_X12_rail ms mw ma post := by
    intro post h
    refine m_clears (fun g hF hR => m_beginR (f := ua 0) hn (fun i hi => by rw [hF.two]; exact (tp i hi).symm) m1 (fun mt mw' hM => ⟨n + 1, m_loop (f := ua 0) (ma0 := ma) hn (fun i hi => (tp i hi).symm) n vz (0, 0, sk (ua 0) n 0) mt mw' g hM hF (fun _ => ⟨hR, okL_z, Nat.zero_le _, by omega⟩) h⟩))
  generalize go (ua 0) n n (vz, (0, 0, sk (ua 0) n 0)) = E at hE hRE hok M
  obtain ⟨e1, e2, e3, e4, e5, e6, e7⟩ := hE
  -- what is the same at both ends
  have TR : ∀ (mt : A1) (mw' : Nat → Int64) (mb : A2), MS (ua 0) n E.2 (va_up ms 0 0) mt mw' → ∀ y : Int32, (E.2.1 = 0 → y = -1) → (E.2.1 ≠ 0 → y = mt 7) → TapeR (va_up us1 2 0) ua (va_up (va_up (va_up mt 1 0) 8 (mt 6)) 9 y) mb := by
    intro mt mw' mb g y y0 y1
    refine ⟨?_, ?_, 0, Nat.zero_le _, ?_, ?_, fun i hi => absurd hi (Nat.not_lt_zero _)⟩
    · rw [up_ne (by decide), up_ne (by decide), up_at, e5, g.2.2.2.2.1]
    · rw [up_ne (by decide), up_at]
      by_cases z : E.2.1 = 0
      · rw [y0 z]; exact (e6 z).1
      · rw [y1 z, e7 z, g.2.2.2.2.2.2.1 z]
    · rw [up_at]; rfl
    · rw [up_ne (by decide), up_ne (by decide), up_at]; rfl
  have SL : ∀ mb : A2, (∀ j x, j < 3 → mb j x = ma j x) → SlotR sa sl mb ml := by
    intro mb e k hk
    obtain ⟨w, i, q1, q2, q3, q4, q5, q6, q7⟩ := hS k hk
    exact ⟨w, i, q1, q2, q3, (e 0 k (by decide)).trans q4, q5, (e 1 k (by decide)).trans q6, q7⟩
  have T10 : ∀ (mt : A1) (mw' : Nat → Int64), MS (ua 0) n E.2 (va_up ms 0 0) mt mw' → ∀ y : Int32, (va_up (va_up (va_up mt 1 0) 8 (mt 6)) 9 y) 10 = 0 ∧ (va_up (va_up (va_up mt 1 0) 8 (mt 6)) 9 y) 11 = 0 := by
    intro mt mw' g y
    have fr := g.2.2.2.2.2.2.2
    constructor
    · rw [up_ne (by decide), up_ne (by decide), up_ne (by decide), fr 10 (by decide), up_ne (by decide)]; exact h10.1
    · rw [up_ne (by decide), up_ne (by decide), up_ne (by decide), fr 11 (by decide), up_ne (by decide)]; exact h10.2
  by_cases z : E.2.1 = 0
  · -- read
    have z0 : us1 0 = 0 := by rw [e5, z]; rfl
    refine ⟨fun c => absurd z0 c, fun _ => b1t (c_copyFrom (hRE z) (hok z).1.1 (fun rs' ra' hC' hB' ers => M _ (fun mt mw' mb g hF hR => ?_)))⟩
    intro x hx
    subst hx
    have g6 : mt 6 = 0 := by rw [g.2.2.2.2.1, z]; rfl
    refine ⟨fun c => absurd g6 c, fun _ => ⟨fun _ => m_copyRail (a := 4) (b := 0) (by decide) (by decide) (by decide) ⟨?_, ?_⟩, fun c => absurd ?_ c⟩⟩
    · have R := (hR z).1.cp (hok z).1.1 (b := 0)
      rw [ers 2 (by decide), (hRE z).1 2 (by decide)]
      exact R.1.1.symm
    · obtain ⟨r1, r2, r3, r4, -⟩ := hR z
      exact ⟨TR mt mw' _ g _ (fun _ => rfl) (fun c => absurd z c), ⟨E.1, (hok z).1, hC', r1.cp (hok z).1.1, r2.cp (hok z).1.1, r3.cp, r4.cp⟩, hBE, hK, SL _ (fun j x hj => by rw [cpA_ne (Or.inl hj)]; exact hF j x (Or.inl hj)), (hIm.f4 hF).cp0, T10 mt mw' g _, hy⟩
    · rw [up_ne (by decide), up_ne (by decide), up_ne (by decide)]; exact g6
  · -- a fault
    have z0 : ¬ us1 0 = 0 := fun q => z ((nI_eq (b := 0) (by omega) (by decide)).mp (e5.symm.trans q))
    refine ⟨fun _ => b0t (M _ (fun mt mw' mb g hF hR => ?_)), fun c => absurd c z0⟩
    intro x hx
    subst hx
    have g6 : ¬ mt 6 = 0 := g.f1 z
    refine ⟨fun _ x hx => ⟨fun c => absurd ?_ g6, fun _ => ⟨rfl, ?_⟩⟩, fun c => absurd c g6⟩
    · rw [up_ne (by decide), up_ne (by decide), up_ne (by decide)] at c; exact c
    · exact ⟨TR mt mw' _ g _ (fun c => absurd c z) (fun _ => hx), ⟨v, hv, hC, hN.f4 hv.1 (by decide) hF, hT.f4 hv.1 (by decide) hF, hP.f4 (by decide) hF, hY.f4 (by decide) hF⟩, hBE, hK, SL _ (fun j x hj => hF j x (Or.inl hj)), hIm.f4 hF, T10 mt mw' g _, hy⟩
end QRL
