/-! images: rows copied, and the thief who would rather be there -/
def cpR (w a b : Nat) (f : Nat → Int32) : Nat → Int32 := fun x => if w * b ≤ x ∧ x < w * b + w then f (w * a + (x - w * b)) else f x
theorem cpR_at {w a b : Nat} {f : Nat → Int32} {y x : Nat} (hy : y < w) (hx : x = w * b + y) : cpR w a b f x = f (w * a + y) := by
  unfold cpR
  rw [if_pos (by omega), show x - w * b = y by omega]
theorem cpR_ne {w a b : Nat} {f : Nat → Int32} {x : Nat} (h : x < w * b ∨ w * b + w ≤ x) : cpR w a b f x = f x := by
  unfold cpR
  rw [if_neg (by omega)]
theorem m_copyRow {tN w a b : Nat} {f : Nat → Int32} (hw : w * a + w ≤ tN) (hb : w * b + w ≤ tN) (hd : w * a + w ≤ w * b ∨ w * b + w ≤ w * a) (hN : tN < 2 ^ 30) {post : (Nat → Int32) → Prop} (h : post (cpR w a b f)) : P_X12_copyRow tN f (nI w) (nI a) (nI b) post := by
  have L : ∀ (d i : Nat) (g : Nat → Int32), i + d = w → (∀ y, y < i → g (w * b + y) = f (w * a + y)) → (∀ x, x < w * b ∨ w * b + i ≤ x → g x = f x) → P_X12_copyRow_3 tN (nI w) (nI a) (nI b) post (d + 1) (nI i) g := by
    intro d
    induction d with
    | zero =>
      intro i g hi q1 q2
      obtain rfl : i = w := by omega
      have e : g = cpR i a b f := by
        funext x
        by_cases c : i * b ≤ x ∧ x < i * b + i
        · have := q1 (x - i * b) (by omega)
          rw [show i * b + (x - i * b) = x by omega] at this
          rw [this, cpR_at (y := x - i * b) (by omega) (by omega)]
        · rw [cpR_ne (by omega), q2 x (by omega)]
      rw [← e] at h
      exact ⟨fun _ => h, fun z => absurd (nI_le (Nat.le_refl _) (by omega)) z⟩
    | succ d ih =>
      intro i g hi q1 q2
      refine ⟨fun z => absurd ((nI_leI (by omega) (by omega)).mp z) (by omega), fun _ => ?_⟩
      rw [show nI w * nI a + nI i = nI (w * a + i) by rw [pk_mul, nI_add], show nI w * nI b + nI i = nI (w * b + i) by rw [pk_mul, nI_add], nI_clamp (by omega), nI_clamp (by omega), nI_1]
      refine ⟨vp_in_nI (by omega) (by omega), vp_in_nI (by omega) (by omega), ih (i + 1) _ (by omega) (fun y hy => ?_) (fun x hx => ?_)⟩
      · by_cases c : y = i
        · rw [c, u_at, q2 _ (by omega)]
        · rw [u_ne (by omega)]; exact q1 y (by omega)
      · rw [u_ne (by omega)]; exact q2 x (by omega)
  exact ⟨w + 1, L w 0 f (by omega) (fun y hy => by omega) (fun _ _ => rfl)⟩
def cpA (ma : A2) (a b : Nat) : A2 := va_up (va_up (va_up (va_up (va_up (va_up (va_up (va_up (va_up (va_up (va_up (va_up (va_up (ma) 3 (cpR 1 a b (ma 3))) 4 (cpR 1 a b (ma 4))) 5 (cpR 1 a b (ma 5))) 6 (cpR 1 a b (ma 6))) 7 (cpR 8 a b (ma 7))) 8 (cpR 1 a b (ma 8))) 9 (cpR 20 a b (ma 9))) 10 (cpR 1 a b (ma 10))) 11 (cpR 50 a b (ma 11))) 12 (cpR 1 a b (ma 12))) 13 (cpR 30 a b (ma 13))) 14 (cpR 7 a b (ma 14))) 16 (cpR 17 a b (ma 16))
theorem cpA_3 (ma : A2) (a b : Nat) : cpA ma a b 3 = cpR 1 a b (ma 3) := rfl
theorem cpA_4 (ma : A2) (a b : Nat) : cpA ma a b 4 = cpR 1 a b (ma 4) := rfl
theorem cpA_5 (ma : A2) (a b : Nat) : cpA ma a b 5 = cpR 1 a b (ma 5) := rfl
theorem cpA_6 (ma : A2) (a b : Nat) : cpA ma a b 6 = cpR 1 a b (ma 6) := rfl
theorem cpA_7 (ma : A2) (a b : Nat) : cpA ma a b 7 = cpR 8 a b (ma 7) := rfl
theorem cpA_8 (ma : A2) (a b : Nat) : cpA ma a b 8 = cpR 1 a b (ma 8) := rfl
theorem cpA_9 (ma : A2) (a b : Nat) : cpA ma a b 9 = cpR 20 a b (ma 9) := rfl
theorem cpA_10 (ma : A2) (a b : Nat) : cpA ma a b 10 = cpR 1 a b (ma 10) := rfl
theorem cpA_11 (ma : A2) (a b : Nat) : cpA ma a b 11 = cpR 50 a b (ma 11) := rfl
theorem cpA_12 (ma : A2) (a b : Nat) : cpA ma a b 12 = cpR 1 a b (ma 12) := rfl
theorem cpA_13 (ma : A2) (a b : Nat) : cpA ma a b 13 = cpR 30 a b (ma 13) := rfl
theorem cpA_14 (ma : A2) (a b : Nat) : cpA ma a b 14 = cpR 7 a b (ma 14) := rfl
theorem cpA_16 (ma : A2) (a b : Nat) : cpA ma a b 16 = cpR 17 a b (ma 16) := rfl
theorem cpA_ne {ma : A2} {a b j : Nat} (h : j < 3 ∨ j = 15 ∨ 16 < j) : cpA ma a b j = ma j := by
  unfold cpA
  rw [up_ne (by omega), up_ne (by omega), up_ne (by omega), up_ne (by omega), up_ne (by omega), up_ne (by omega), up_ne (by omega), up_ne (by omega), up_ne (by omega), up_ne (by omega), up_ne (by omega), up_ne (by omega), up_ne (by omega)]
theorem m_copyRail {ma : A2} {a b : Nat} (ha : a < 5) (hb : b < 5) (hab : a ≠ b) {post : A2 → Prop} (h : post (cpA ma a b)) : P_X12_copyRail ma (nI a) (nI b) post :=
  m_copyRow (w := 1) (by omega) (by omega) (by omega) (by decide) (m_copyRow (w := 1) (by omega) (by omega) (by omega) (by decide) (m_copyRow (w := 1) (by omega) (by omega) (by omega) (by decide) (m_copyRow (w := 1) (by omega) (by omega) (by omega) (by decide) (m_copyRow (w := 8) (by omega) (by omega) (by omega) (by decide) (m_copyRow (w := 1) (by omega) (by omega) (by omega) (by decide) (m_copyRow (w := 20) (by omega) (by omega) (by omega) (by decide) (m_copyRow (w := 1) (by omega) (by omega) (by omega) (by decide) (m_copyRow (w := 50) (by omega) (by omega) (by omega) (by decide) (m_copyRow (w := 1) (by omega) (by omega) (by omega) (by decide) (m_copyRow (w := 30) (by omega) (by omega) (by omega) (by decide) (m_copyRow (w := 7) (by omega) (by omega) (by omega) (by decide) (m_copyRow (w := 17) (by omega) (by omega) (by omega) (by decide) (h)))))))))))))
theorem RelN.cp {v : Rl} (hv : okV v) {ma : A2} {a b : Nat} (h : RelN v a ma) : RelN v b (cpA ma a b) := by
  have h12 := ok12 hv
  have h13 := ok13 hv
  obtain ⟨⟨a1, a2, a3, a4, a5⟩, b1, c1, d1, e1, e2, e3, e4, e5, e6, e7⟩ := h
  unfold RelN
  rw [cpA_3, cpA_4, cpA_5, cpA_8, cpA_9, cpA_10, cpA_11, cpA_14]
  refine ⟨⟨?_, ?_, ?_, ?_, ?_⟩, fun k hk => ?_, fun k i hk hi => ?_, fun c hc => ?_, ?_, ?_, ?_, ?_, ?_, ?_, ?_⟩
  · rw [cpR_at (y := 0) (by decide) (by omega)]; rw [show 1 * a + 0 = a by omega]; exact a1
  · rw [cpR_at (y := 0) (by decide) (by omega)]; rw [show 1 * a + 0 = a by omega]; exact a2
  · rw [cpR_at (y := 0) (by decide) (by omega)]; rw [show 1 * a + 0 = a by omega]; exact a3
  · rw [cpR_at (y := 0) (by decide) (by omega)]; rw [show 1 * a + 0 = a by omega]; exact a4
  · rw [cpR_at (y := 0) (by decide) (by omega)]; rw [show 1 * a + 0 = a by omega]; exact a5
  · rw [cpR_at (y := 4 * k) (by omega) (by omega), show 20 * a + 4 * k = 4 * (5 * a + k) by omega]; exact b1 k hk
  · rw [cpR_at (y := 4 * k + 1 + i) (by omega) (by omega), show 20 * a + (4 * k + 1 + i) = 4 * (5 * a + k) + 1 + i by omega]; exact c1 k i hk hi
  · obtain ⟨f0, f1, f2, f3, f4⟩ := d1 c hc
    rw [cpR_at (y := 5 * c) (x := 5 * (10 * b + c)) (by omega) (by omega), cpR_at (y := 5 * c + 1) (by omega) (by omega), cpR_at (y := 5 * c + 2) (by omega) (by omega), cpR_at (y := 5 * c + 3) (by omega) (by omega), cpR_at (y := 5 * c + 4) (by omega) (by omega), show 50 * a + 5 * c = 5 * (10 * a + c) by omega, show 50 * a + (5 * c + 1) = 5 * (10 * a + c) + 1 by omega, show 50 * a + (5 * c + 2) = 5 * (10 * a + c) + 2 by omega, show 50 * a + (5 * c + 3) = 5 * (10 * a + c) + 3 by omega, show 50 * a + (5 * c + 4) = 5 * (10 * a + c) + 4 by omega]
    exact ⟨f0, f1, f2, f3, f4⟩
  · rw [cpR_at (y := 0) (by decide) (by omega)]; exact e1
  · rw [cpR_at (y := 1) (by decide) (by omega)]; exact e2
  · rw [cpR_at (y := 2) (by decide) (by omega)]; exact e3
  · rw [cpR_at (y := 3) (by decide) (by omega)]; exact e4
  · rw [cpR_at (y := 4) (by decide) (by omega)]; exact e5
  · rw [cpR_at (y := 5) (by decide) (by omega)]; exact e6
  · rw [cpR_at (y := 6) (by decide) (by omega)]; exact e7
theorem RelN.cpo {v : Rl} (hv : okV v) {ma : A2} {a b j : Nat} (hj : j ≠ b) (h : RelN v j ma) : RelN v j (cpA ma a b) := by
  have h12 := ok12 hv
  have h13 := ok13 hv
  obtain ⟨⟨a1, a2, a3, a4, a5⟩, b1, c1, d1, e1, e2, e3, e4, e5, e6, e7⟩ := h
  unfold RelN
  rw [cpA_3, cpA_4, cpA_5, cpA_8, cpA_9, cpA_10, cpA_11, cpA_14]
  refine ⟨⟨?_, ?_, ?_, ?_, ?_⟩, fun k hk => ?_, fun k i hk hi => ?_, fun c hc => ?_, ?_, ?_, ?_, ?_, ?_, ?_, ?_⟩
  · rw [cpR_ne (by omega)]; exact a1
  · rw [cpR_ne (by omega)]; exact a2
  · rw [cpR_ne (by omega)]; exact a3
  · rw [cpR_ne (by omega)]; exact a4
  · rw [cpR_ne (by omega)]; exact a5
  · rw [cpR_ne (by omega)]; exact b1 k hk
  · rw [cpR_ne (by omega)]; exact c1 k i hk hi
  · rw [cpR_ne (by omega), cpR_ne (by omega), cpR_ne (by omega), cpR_ne (by omega), cpR_ne (by omega)]; exact d1 c hc
  · rw [cpR_ne (by omega)]; exact e1
  · rw [cpR_ne (by omega)]; exact e2
  · rw [cpR_ne (by omega)]; exact e3
  · rw [cpR_ne (by omega)]; exact e4
  · rw [cpR_ne (by omega)]; exact e5
  · rw [cpR_ne (by omega)]; exact e6
  · rw [cpR_ne (by omega)]; exact e7
theorem RelT.cp {v : Rl} (hv : okV v) {ma : A2} {a b : Nat} (h : RelT v a ma) : RelT v b (cpA ma a b) := by
  have h14 := ok14 hv
  unfold RelT at h ⊢
  rw [cpA_12, cpA_13, cpR_at (y := 0) (by decide) (by omega)]
  refine ⟨by rw [show 1 * a + 0 = a by omega]; exact h.1, fun t ht => ?_⟩
  rw [cpR_at (y := 5 * t) (x := 5 * (6 * b + t)) (by omega) (by omega), cpR_at (y := 5 * t + 1) (by omega) (by omega), cpR_at (y := 5 * t + 2) (by omega) (by omega), cpR_at (y := 5 * t + 3) (by omega) (by omega), cpR_at (y := 5 * t + 4) (by omega) (by omega), show 30 * a + 5 * t = 5 * (6 * a + t) by omega, show 30 * a + (5 * t + 1) = 5 * (6 * a + t) + 1 by omega, show 30 * a + (5 * t + 2) = 5 * (6 * a + t) + 2 by omega, show 30 * a + (5 * t + 3) = 5 * (6 * a + t) + 3 by omega, show 30 * a + (5 * t + 4) = 5 * (6 * a + t) + 4 by omega]
  exact h.2 t ht
theorem RelT.cpo {v : Rl} (hv : okV v) {ma : A2} {a b j : Nat} (hj : j ≠ b) (h : RelT v j ma) : RelT v j (cpA ma a b) := by
  have h14 := ok14 hv
  unfold RelT at h ⊢
  rw [cpA_12, cpA_13, cpR_ne (by omega)]
  refine ⟨h.1, fun t ht => ?_⟩
  rw [cpR_ne (by omega), cpR_ne (by omega), cpR_ne (by omega), cpR_ne (by omega), cpR_ne (by omega)]
  exact h.2 t ht
theorem RelP.cp {v : Rl} {ma : A2} {a b : Nat} (h : RelP v a ma) : RelP v b (cpA ma a b) := by
  have h11 := h.2.1
  unfold RelP at h ⊢
  rw [cpA_6, cpA_7, cpR_at (y := 0) (by decide) (by omega)]
  refine ⟨by rw [show 1 * a + 0 = a by omega]; exact h.1, h11, fun k hk => ?_⟩
  rw [cpR_at (y := 2 * k) (x := 2 * (4 * b + k)) (by omega) (by omega), cpR_at (y := 2 * k + 1) (by omega) (by omega), show 8 * a + 2 * k = 2 * (4 * a + k) by omega, show 8 * a + (2 * k + 1) = 2 * (4 * a + k) + 1 by omega]
  exact h.2.2 k hk
theorem RelP.cpo {v : Rl} {ma : A2} {a b j : Nat} (hj : j ≠ b) (h : RelP v j ma) : RelP v j (cpA ma a b) := by
  have h11 := h.2.1
  unfold RelP at h ⊢
  rw [cpA_6, cpA_7, cpR_ne (by omega)]
  refine ⟨h.1, h11, fun k hk => ?_⟩
  rw [cpR_ne (by omega), cpR_ne (by omega)]
  exact h.2.2 k hk
theorem RelY.cp {v : Rl} {ma : A2} {a b : Nat} (h : RelY v a ma) : RelY v b (cpA ma a b) := by
  unfold RelY at h ⊢
  rw [cpA_16, cpR_at (y := 0) (by decide) (by omega)]
  refine ⟨h.1, fun z => ⟨fun c hc => ?_, fun t ht => ?_⟩⟩
  · rw [cpR_at (y := 1 + c) (by omega) (by omega), show 17 * a + (1 + c) = 17 * a + 1 + c by omega]
    exact (h.2 z).1 c hc
  · rw [cpR_at (y := 11 + t) (by omega) (by omega), show 17 * a + (11 + t) = 17 * a + 11 + t by omega]
    exact (h.2 z).2 t ht
theorem RelY.cpo {v : Rl} {ma : A2} {a b j : Nat} (hj : j ≠ b) (h : RelY v j ma) : RelY v j (cpA ma a b) := by
  unfold RelY at h ⊢
  rw [cpA_16, cpR_ne (by omega)]
  refine ⟨h.1, fun z => ⟨fun c hc => ?_, fun t ht => ?_⟩⟩
  · rw [cpR_ne (by omega)]; exact (h.2 z).1 c hc
  · rw [cpR_ne (by omega)]; exact (h.2 z).2 t ht
section KB
variable {us : A1} {ua : A2} {rs : A1} {ra ra2 sa : A2} {sl : L2} {ns : A1} {na : A2} {nl : L2} {yt : Int32} {im : Img} {ms : A1} {ma : A2} {ml : L2}
theorem m_keep (hI : Inv us ua rs ra ra2 sa sl ns na nl yt im ms ma ml) {k : Nat} (hk : k < 3) : ∃ v, okR v ∧ RelC v rs ra ∧ P_X12_keep ms ma (nI k) (fun r mt mb => 0 = r ∧ ∀ rs' ra', RelC v rs' ra' → Inv us ua rs ra ra2 sa sl ns na nl yt (fun i => if i = k then some (rs', ra') else im i) mt mb ml) := by
  obtain ⟨hTp, ⟨v, hv, hC, hN, hT, hP, hY⟩, hB, hK, hS, hIm, h10, hy⟩ := hI
  refine ⟨v, hv, hC, m_inL_ok (m := 2) (by omega) (by decide) (b1t ?_)⟩
  rw [show (1 : Int32) + nI k = nI (k + 1) by rw [show (1 : Int32) = nI 1 from rfl, nI_add, Nat.add_comm]]
  refine m_copyRail (a := 0) (by decide) (by omega) (by omega) ⟨vp_in_nI hk (by decide), rfl, fun rs' ra' hC' => ?_⟩
  rw [nI_clamp (by omega)]
  have e : ∀ j, j ≠ 17 → va_up (cpA ma 0 (k + 1)) 17 (upd (cpA ma 0 (k + 1) 17) k 1) j = cpA ma 0 (k + 1) j := fun j hj => up_ne hj
  have t2 : va_up (cpA ma 0 (k + 1)) 17 (upd (cpA ma 0 (k + 1) 17) k 1) 2 = ma 2 := by rw [e 2 (by decide)]; exact cpA_ne (by decide)
  refine ⟨hTp.z t2, ⟨v, hv, hC, (hN.cpo hv.1 (by omega)).fr (fun i _ _ => e i (by omega)), (hT.cpo hv.1 (by omega)).eq (e 12 (by decide)) (e 13 (by decide)), (hP.cpo (by omega)).eq (e 6 (by decide)) (e 7 (by decide)), (hY.cpo (by omega)).eq (e 16 (by decide))⟩, hB, hK, fun i hi => ?_, fun i hi => ?_, ⟨by rw [up_ne (by decide)]; exact h10.1, by rw [up_ne (by decide)]; exact h10.2⟩, hy⟩
  · rw [e 0 (by decide), e 1 (by decide), cpA_ne (by decide), cpA_ne (by decide)]
    exact hS i hi
  · rw [up_at, cpA_ne (show 17 < 3 ∨ 17 = 15 ∨ 16 < 17 by decide)]
    by_cases c : i = k
    · subst c
      simp only [if_true]
      rw [u_at]
      exact ⟨rfl, v, hv, hC', (hN.cp hv.1).fr (fun i _ _ => e i (by omega)), (hT.cp hv.1).eq (e 12 (by decide)) (e 13 (by decide)), hP.cp.eq (e 6 (by decide)) (e 7 (by decide)), hY.cp.eq (e 16 (by decide))⟩
    · simp only [if_neg c]
      rw [u_ne c]
      have hh := hIm i hi
      cases hm : im i with
      | none =>
        rw [hm] at hh
        exact hh
      | some q =>
        rw [hm] at hh
        simp only at hh ⊢
        obtain ⟨g0, w, g1, g2, g3, g4, g5, g6⟩ := hh
        exact ⟨g0, w, g1, g2, (g3.cpo g1.1 (by omega)).fr (fun i _ _ => e i (by omega)), (g4.cpo g1.1 (by omega)).eq (e 12 (by decide)) (e 13 (by decide)), (g5.cpo (by omega)).eq (e 6 (by decide)) (e 7 (by decide)), (g6.cpo (by omega)).eq (e 16 (by decide))⟩
theorem m_keep0 (hI : Inv us ua rs ra ra2 sa sl ns na nl yt im ms ma ml) {p : Int32} (hp : p < 0 ∨ nI 3 ≤ p) : P_X12_keep ms ma p (fun r mt mb => -2 = r ∧ Inv us ua rs ra ra2 sa sl ns na nl yt im mt mb ml) :=
  m_inL_bad (m := 2) hp (by decide) (b0t ⟨rfl, hI.rows (fun j a _ => up_ne a) (fun _ _ => rfl) (hI.1.z rfl) hI.2.2.2.2.1⟩)
theorem m_back0 (hI : Inv us ua rs ra ra2 sa sl ns na nl yt im ms ma ml) {p : Int32} (hp : p < 0 ∨ nI 3 ≤ p) : P_X12_back ms ma p (fun r mt mb => -2 = r ∧ Inv us ua rs ra ra2 sa sl ns na nl yt im mt mb ml) :=
  m_inL_bad (m := 2) hp (by decide) (b0t ⟨rfl, hI.rows (fun j a _ => up_ne a) (fun _ _ => rfl) (hI.1.z rfl) hI.2.2.2.2.1⟩)
theorem m_backN (hI : Inv us ua rs ra ra2 sa sl ns na nl yt im ms ma ml) {k : Nat} (hk : k < 3) (hm : im k = none) : P_X12_back ms ma (nI k) (fun r mt mb => -6 = r ∧ Inv us ua rs ra ra2 sa sl ns na nl yt im mt mb ml) := by
  have hh := hI.2.2.2.2.2.1 k hk
  rw [hm] at hh
  refine m_inL_ok (m := 2) (by omega) (by decide) (b1t ⟨vp_in_nI hk (by decide), ?_⟩)
  rw [nI_clamp (by omega)]
  exact ⟨fun c => absurd hh c, fun _ => ⟨rfl, hI.rows (fun j a _ => up_ne a) (fun _ _ => rfl) (hI.1.z rfl) hI.2.2.2.2.1⟩⟩
theorem m_back (hI : Inv us ua rs ra ra2 sa sl ns na nl yt im ms ma ml) {k : Nat} (hk : k < 3) {q : A1 × A2} (hm : im k = some q) : ∃ v, okR v ∧ RelC v q.1 q.2 ∧ P_X12_back ms ma (nI k) (fun r mt mb => 0 = r ∧ ∀ rs' ra', RelC v rs' ra' → Inv us ua rs' ra' ra2 sa sl ns na nl yt im mt mb ml) := by
  obtain ⟨hTp, -, hB, hK, hS, hIm, h10, hy⟩ := hI
  have hh := hIm k hk
  rw [hm] at hh
  simp only at hh
  obtain ⟨h17, v, hv, hC, hN, hT, hP, hY⟩ := hh
  refine ⟨v, hv, hC, m_inL_ok (m := 2) (by omega) (by decide) (b1t ⟨vp_in_nI hk (by decide), ?_⟩)⟩
  rw [nI_clamp (by omega), h17, show (1 : Int32) + nI k = nI (k + 1) by rw [show (1 : Int32) = nI 1 from rfl, nI_add, Nat.add_comm]]
  refine b1t (m_copyRail (b := 0) (by omega) (by decide) (by omega) ⟨rfl, fun rs' ra' hC' => ?_⟩)
  refine ⟨hTp.z (cpA_ne (by decide)), ⟨v, hv, hC', hN.cp hv.1, hT.cp hv.1, hP.cp, hY.cp⟩, hB, hK, fun i hi => ?_, fun i hi => ?_, ⟨by rw [up_ne (by decide)]; exact h10.1, by rw [up_ne (by decide)]; exact h10.2⟩, hy⟩
  · rw [cpA_ne (by decide), cpA_ne (by decide)]
    exact hS i hi
  · have hh := hIm i hi
    rw [cpA_ne (show 17 < 3 ∨ 17 = 15 ∨ 16 < 17 by decide)]
    cases hm : im i with
    | none =>
      rw [hm] at hh
      exact hh
    | some q =>
      rw [hm] at hh
      simp only at hh ⊢
      obtain ⟨g0, w, g1, g2, g3, g4, g5, g6⟩ := hh
      exact ⟨g0, w, g1, g2, g3.cpo g1.1 (by omega), g4.cpo g1.1 (by omega), g5.cpo (by omega), g6.cpo (by omega)⟩
/-- what a thief has of what he takes first -/
def ntI (v : Rl) (t : Nat) : Int32 := match tk v 0 t 0 with
  | none => 0
  | some b => nI (gain v b) - nI (trouble v t b)
theorem c_netTaken {v : Rl} (hC : RelC v rs ra) (hv : okV v) {t : Nat} (ht : t < v 14 0) {post : Int32 → A1 → A2 → Prop} (h : ∀ nb, (∀ j, 5 ≤ j → nb j = na j) → post (ntI v t) (va_up ns 0 (nI (v 13 0))) nb) : P_X11_netTaken rs ra ns na (nI t) post := by
  have h13 := ok13 hv
  have h14 := ok14 hv
  refine c_lookAt hC hv (fun nb hN hb => c_pickN hN ht h14 (g := 0) (by decide) ?_)
  have h' := h nb hb
  unfold ntI at h'
  cases hk : tk v 0 t 0 with
  | none =>
    rw [hk] at h'
    exact ⟨fun c => absurd rfl c, fun _ => h'⟩
  | some b =>
    rw [hk] at h'
    have hb := tk0_lt hk
    exact ⟨fun _ => c_netOf hC hv hN ht hb h', fun c => absurd c (nI_nm1 (by omega))⟩
theorem m_netOn {v : Rl} (hv : okV v) {j : Nat} (hj : j < 5) (hM : RM v j ms ma) {t : Nat} (ht : t < v 14 0) {post : Int32 → Prop} (h : post (ntI v t)) : P_X12_netOn ms ma (nI t) (nI j) post := by
  have h13 := ok13 hv
  have h14 := ok14 hv
  obtain ⟨-, -, -, e28, e29⟩ := hM.2.1.2 t ht
  obtain ⟨-, -, -, b28, b29⟩ := hv.2.2.2.2.2.1 t ht
  unfold P_X12_netOn
  rw [show (5 : Int32) * nI t + 3 = nI (5 * (6 * 0 + t) + 3) by rw [show 6 * 0 + t = t by omega]; simp only [fa_lit, pk_mul, nI_add], nI_clamp (by omega), e28]
  refine ⟨vp_in_nI (by omega) (by decide), fun x hx => ?_⟩
  subst hx
  have hnet : ∀ b, scn v 0 t 0 (v 13 0) = some b → True := fun _ _ => trivial
  have W : ∀ k b, k ≤ v 13 0 → scn v 0 t 0 k = some b → b < k ∧ 0 < net v t b ∧ (v 28 t = 2 → v 29 t = b + 1) := by
    intro k b hk hs
    obtain ⟨h1, h2⟩ := scn_lt v 0 t 0 k b hs
    unfold wnt at h2
    rw [if_pos (by omega)] at h2
    simp at h2
    exact ⟨h1, h2.1, fun e => h2.2.resolve_left (fun q => q e)⟩
  let T1 : Option Nat → Int32 := fun o => match o with
    | none => 0
    | some b => nI (trouble v t b)
  let N1 : Option Nat → Int32 := fun o => match o with
    | none => 0
    | some b => nI (gain v b) - nI (trouble v t b)
  have L : ∀ (d i : Nat), i + d = v 13 0 → P_X12_netOn_20 ms ma (nI t) (nI j) post (nI (v 28 t)) (d + 1) (T1 (scn v 0 t 0 i)) (N1 (scn v 0 t 0 i)) (nI i) := by
    intro d
    induction d with
    | zero =>
      intro i hi
      obtain rfl : i = v 13 0 := by omega
      refine ⟨vp_in_nI hj (by decide), ?_⟩
      rw [nI_clamp (by omega)]
      refine ⟨fun _ => ?_, fun c => absurd ((cmp_le hM.1.1.2.2.2.2 (by omega) (by omega)).mpr (Nat.le_refl _)) c⟩
      unfold ntI at h
      rw [tk_no_bait] at h
      exact h
    | succ d ih =>
      intro i hi
      refine ⟨vp_in_nI hj (by decide), ?_⟩
      rw [nI_clamp (by omega)]
      refine ⟨fun c => absurd ((cmp_le hM.1.1.2.2.2.2 (by omega) (by omega)).mp c) (by omega), fun _ => ?_⟩
      refine m_troubleOf hv hM hj ht (by omega) (m_gainOf hv hM.1 hj (by omega) (fun x hx => ?_))
      subst hx
      have go := ih (i + 1) (by omega)
      rw [scn] at go
      simp only [Nat.zero_testBit, Bool.not_false, Bool.and_true] at go
      have hi13 : i < v 13 0 := by omega
      have en := net_int hv ht hi13
      have ec : (nI (gain v i) - nI (trouble v t i) ≤ 0) ↔ net v t i ≤ 0 := by
        rw [Int32.le_iff_toInt_le, en]
        rfl
      have htr := trouble_le hv ht hi13
      rw [ec, nI_1]
      refine ⟨fun c => ?_, fun c => ?_⟩
      · rw [if_neg (by unfold wnt; rw [if_pos hi13]; simp; omega)] at go
        exact go
      · -- he would take it, if he were for it
        have K : (v 28 t = 2 → v 29 t = i + 1) → P_X12_netOn_81 ms ma (nI t) (nI j) (nI (v 28 t)) post (P_X12_netOn_20 ms ma (nI t) (nI j) post (nI (v 28 t)) (d + 1)) (T1 (scn v 0 t 0 i)) (N1 (scn v 0 t 0 i)) (nI i) (nI (trouble v t i)) (nI (gain v i) - nI (trouble v t i)) := by
          intro hjust
          have hw : wnt v 0 t i = true := by
            unfold wnt
            rw [if_pos hi13]
            by_cases k2 : v 28 t = 2
            · have := hjust k2
              simp [this]
              omega
            · simp [k2]
              omega
          rw [if_pos hw] at go
          cases hs : scn v 0 t 0 i with
          | none =>
            rw [hs] at go
            refine ⟨fun _ => ?_, fun c => absurd rfl c⟩
            rw [nI_1]
            exact go
          | some b =>
            rw [hs] at go
            obtain ⟨w1, w2, w3⟩ := W i b (by omega) hs
            have hb13 : b < v 13 0 := by omega
            have enb := net_int hv ht hb13
            have htb := trouble_le hv ht hb13
            simp only at go
            refine ⟨fun c => ?_, fun _ => ?_⟩
            · exfalso
              have c' : nI (gain v b) - nI (trouble v t b) = 0 := c
              rw [c'] at enb
              have : (0 : Int32).toInt = 0 := rfl
              omega
            · have hk2 : v 28 t ≠ 2 := fun e => by
                have := w3 e
                have := hjust e
                omega
              unfold rnk at go
              rw [if_pos hi13, if_pos hb13] at go
              by_cases k0 : v 28 t = 0
              · rw [if_pos k0, if_pos k0] at go
                refine ⟨fun c => absurd (by rw [k0]; rfl) c, fun _ => ⟨fun c => ?_, fun c => ?_⟩⟩
                · have c' : nI (gain v b) - nI (trouble v t b) < nI (gain v i) - nI (trouble v t i) := c
                  rw [Int32.lt_iff_toInt_lt, en, enb] at c'
                  rw [if_pos (by omega)] at go
                  rw [nI_1]
                  exact go
                · have c' : ¬ nI (gain v b) - nI (trouble v t b) < nI (gain v i) - nI (trouble v t i) := c
                  rw [Int32.lt_iff_toInt_lt, en, enb] at c'
                  rw [if_neg (by omega)] at go
                  refine ⟨fun _ => ?_, fun z => absurd (z.symm.trans (by rw [k0]; rfl : nI (v 28 t) = (0 : Int32))) (by decide)⟩
                  rw [nI_1]
                  exact go
              · rw [if_neg k0, if_neg k0] at go
                have k1 : v 28 t = 1 := by omega
                refine ⟨fun _ => ?_, fun c => absurd ((nI_eq (b := 0) (by omega) (by decide)).mp c) k0⟩
                refine ⟨fun c => absurd (by rw [k1]; rfl) c, fun _ => ?_⟩
                show (nI (trouble v t b) ≤ nI (trouble v t i) → _) ∧ (¬ nI (trouble v t b) ≤ nI (trouble v t i) → _)
                rw [nI_leI (by omega) (by omega), nI_1]
                refine ⟨fun c => ?_, fun c => ?_⟩
                · rw [if_neg (by omega)] at go
                  exact go
                · rw [if_pos (by omega)] at go
                  exact go
        refine ⟨fun c2 => K (fun e => absurd (by rw [e]; rfl) c2), fun c2 => ?_⟩
        have k2 : v 28 t = 2 := (nI_eq (b := 2) (by omega) (by decide)).mp c2
        rw [show (5 : Int32) * nI t + 4 = nI (5 * (6 * 0 + t) + 4) by rw [show 6 * 0 + t = t by omega]; simp only [fa_lit, pk_mul, nI_add], nI_clamp (by omega), e29]
        refine ⟨vp_in_nI (by omega) (by decide), fun c3 => K (fun _ => ?_), fun c3 => ?_⟩
        · have := congrArg (fun x : Int32 => x + 1) c3
          simp only [Int32.sub_add_cancel] at this
          rw [nI_1] at this
          exact ((nI_eq (by omega) (by omega)).mp this).symm
        · rw [if_neg (by
            unfold wnt
            rw [if_pos hi13]
            simp [k2]
            intro _ e
            exact c3 (by rw [e, nI_pre (by omega)]; rfl))] at go
          exact go
  exact ⟨v 13 0 + 1, L (v 13 0) 0 (by omega)⟩
end KB
