/-! what the reference reads -/
def MS (f : Nat → Int32) (n : Nat) (p : PS) (m0 ms : A1) (mw : Nat → Int64) : Prop := p.2.2 ≤ n ∧ p.1 < 4 ∧ p.2.1 ≤ n ∧ ms 1 = nI n ∧ ms 6 = nI p.1 ∧ (p.1 = 0 → ms 2 = nI (p.2.2 + tl f n p.2.2) ∧ ms 3 = nI (kM (kd f n p.2.2)) ∧ ms 4 = nI p.2.2 ∧ ms 5 = nI (if kd f n p.2.2 = 2 then vlM f p.2.2 (tl f n p.2.2) else 0) ∧ mw 0 = (if kd f n p.2.2 = 1 then cdW f p.2.2 (tl f n p.2.2) else 0)) ∧ (p.1 ≠ 0 → ms 7 = nI p.2.1) ∧ (∀ j, j = 0 ∨ 7 < j → ms j = m0 j)
section MR
variable {f : Nat → Int32} {n : Nat} {m0 ms : A1} {mw : Nat → Int64} {ma : A2} {p : PS}
theorem MS.f0 (h : MS f n p m0 ms mw) (h0 : p.1 = 0) : ms 6 = 0 := by rw [h.2.2.2.2.1, h0]; rfl
theorem MS.f1 (h : MS f n p m0 ms mw) (h0 : p.1 ≠ 0) : ¬ ms 6 = 0 := fun e => h0 ((nI_eq (b := 0) (by have := h.2.1; omega) (by decide)).mp (h.2.2.2.2.1.symm.trans e))
theorem m_nextT (hn : n ≤ 1600) (ha : ∀ i, i < n → ma 2 i = f i) (h : MS f n p m0 ms mw) (h0 : p.1 = 0) {post : A1 → (Nat → Int64) → Prop} (hp : ∀ mt mw', MS f n (0, 0, adv f n p.2.2) m0 mt mw' → post mt mw') : P_X12_next ms mw ma post := by
  obtain ⟨a, b, c, d, e, g, k, fr⟩ := h
  refine m_next hn (tl_le a) d (g h0).1 ha mw (fun mt mw' r1 r2 r3 r4 r5 _ r7 => hp mt mw' ⟨adv_le a, show (0 : Nat) < 4 by decide, Nat.zero_le _, (r1 1 (by decide)).trans d, ?_, fun _ => ⟨r2, r3, r4, r5, r7⟩, fun q => absurd rfl q, fun j hj => (r1 j (by omega)).trans (fr j hj)⟩)
  rw [r1 6 (by decide), e, h0]
theorem m_fails (h : MS f n p m0 ms mw) {c : Nat} (hc : c ≠ 0) (hc4 : c < 4) {post : A1 → Prop} (hp : ∀ mt, MS f n (rF c p) m0 mt mw → post mt) : P_X12_fails ms (nI c) post := by
  have h' := h
  obtain ⟨a, b, c', d, e, g, k, fr⟩ := h
  unfold rF at hp
  by_cases h0 : p.1 = 0
  · rw [if_pos h0] at hp
    refine ⟨fun _ x hx => hp _ ⟨a, hc4, a, ?_, ?_, fun q => absurd q hc, fun _ => ?_, fun j hj => ?_⟩, fun q => absurd (h'.f0 h0) q⟩
    · rw [up_ne (by decide), up_ne (by decide)]; exact d
    · rw [up_ne (by decide), up_at]
    · rw [up_at, hx]; exact (g h0).2.2.1
    · rw [up_ne (by omega), up_ne (by omega)]; exact fr j hj
  · rw [if_neg h0] at hp
    exact ⟨fun q => absurd q (h'.f1 h0), fun _ => hp ms h'⟩
theorem kM_1 {k : Nat} (hk : k ≤ 5) {c : Nat} (hc : c < 4) : nI (kM k) = nI c ↔ k = c := by
  unfold kM
  split
  · rw [nI_eq (by decide) (by omega)]; omega
  · rw [nI_eq (by omega) (by omega)]
theorem m_is (h : MS f n p m0 ms mw) {w : List Int32} (hw : okW w) {code : Int64} (hc : code = lN (wcL w)) {post : Int32 → Prop} (hy : p.1 = 0 → tokIs f n p.2.2 w → post 1) (hno : ¬ (p.1 = 0 ∧ tokIs f n p.2.2 w) → post 0) : P_X12_is ms mw code post := by
  have hk5 := kd_le f n p.2.2
  by_cases h0 : p.1 = 0
  · obtain ⟨-, e3, -, -, e0⟩ := h.2.2.2.2.2.1 h0
    have q3 : ms 3 = 1 ↔ kd f n p.2.2 = 1 := by rw [e3]; exact kM_1 hk5 (c := 1) (by decide)
    refine ⟨fun q => absurd (h.f0 h0) q, fun _ => ⟨fun q => hno (fun r => q (q3.mpr r.2.1)), fun q => ?_⟩⟩
    have k1 := q3.mp q
    rw [e0, if_pos k1, hc, tok_code hw k1]
    exact ⟨fun t => hno (fun r => t r.2), fun t => hy h0 t⟩
  · exact ⟨fun _ => hno (fun r => h0 r.1), fun q => absurd q (h.f1 h0)⟩
theorem m_takes (hn : n ≤ 1600) (ha : ∀ i, i < n → ma 2 i = f i) (h : MS f n p m0 ms mw) {w : List Int32} (hw : okW w) {code : Int64} (hc : code = lN (wcL w)) {post : Int32 → A1 → (Nat → Int64) → Prop} (hp : ∀ mt mw', MS f n (rI f n w p).2 m0 mt mw' → post (nI (rI f n w p).1) mt mw') : P_X12_takes ms mw ma code post := by
  unfold rI at hp
  refine m_is h hw hc (fun h0 t => b1t ?_) (fun t => b0t ?_)
  · rw [if_pos ⟨h0, t⟩] at hp
    exact m_nextT hn ha h h0 hp
  · rw [if_neg t] at hp
    exact hp ms mw h
theorem m_asks (hn : n ≤ 1600) (ha : ∀ i, i < n → ma 2 i = f i) (h : MS f n p m0 ms mw) {w : List Int32} (hw : okW w) {code : Int64} (hc : code = lN (wcL w)) {post : A1 → (Nat → Int64) → Prop} (hp : ∀ mt mw', MS f n (rW f n w p) m0 mt mw' → post mt mw') : P_X12_asks ms mw ma code post := by
  refine m_takes hn ha h hw hc (fun mt mw' h' => ?_)
  unfold rI at h' ⊢
  unfold rW at hp
  by_cases h0 : p.1 = 0
  · rw [if_pos h0] at hp
    by_cases t : tokIs f n p.2.2 w
    · rw [if_pos ⟨h0, t⟩] at h' ⊢
      rw [if_pos t] at hp
      exact b1t (hp mt mw' h')
    · rw [if_neg (fun q => t q.2)] at h' ⊢
      rw [if_neg t] at hp
      refine b0t (m_fails (c := 1) h' (by decide) (by decide) (fun mu hu => hp mu mw' ?_))
      unfold rF at hu
      rw [if_pos h0] at hu
      exact hu
  · rw [if_neg h0] at hp
    rw [if_neg (fun q => h0 q.1)] at h' ⊢
    refine b0t (m_fails (c := 1) h' (by decide) (by decide) (fun mu hu => hp mu mw' ?_))
    unfold rF at hu
    rw [if_neg h0] at hu
    exact hu
theorem m_number (hn : n ≤ 1600) (ha : ∀ i, i < n → ma 2 i = f i) (h : MS f n p m0 ms mw) {lo hi : Nat} (hlo : lo ≤ 1000000) (hhi : hi ≤ 1000000) {post : Int32 → A1 → (Nat → Int64) → Prop} (hp : ∀ mt mw', MS f n (rN f n lo hi p).2 m0 mt mw' → post (nI (rN f n lo hi p).1) mt mw') : P_X12_number ms mw ma (nI lo) (nI hi - 1) post := by
  have hk5 := kd_le f n p.2.2
  unfold rN at hp
  by_cases h0 : p.1 = 0
  · rw [if_pos h0] at hp
    obtain ⟨-, e3, -, e5, -⟩ := h.2.2.2.2.2.1 h0
    have q3 : ms 3 = 2 ↔ kd f n p.2.2 = 2 := by rw [e3]; exact kM_1 hk5 (c := 2) (by decide)
    refine ⟨fun _ => ⟨fun q => ?_, fun q => ?_⟩, fun q => absurd (h.f0 h0) q⟩
    · have k2 := q3.mp q
      rw [if_pos k2] at hp e5
      have hin : ∀ i, i < tl f n p.2.2 → kd f n (p.2.2 + i) = 2 := fun i hi => (tl_in hi (Or.inr k2)).trans k2
      have hle := vlM_le f p.2.2 n _ hin
      have hb : vlT f n p.2.2 = min 1000000 (vlM f p.2.2 (tl f n p.2.2)) := vl_both f p.2.2 n _ hin
      unfold P_X12_in
      rw [e5, fa_wide_lt, fa_wide_lt, nI_ltI (by omega) (by omega)]
      have e7 : nI hi - 1 < nI (vlM f p.2.2 (tl f n p.2.2)) ↔ hi ≤ vlM f p.2.2 (tl f n p.2.2) := by
        rw [Int32.lt_iff_toInt_lt, show (1 : Int32) = nI 1 from rfl, nS (by omega) (by decide), nI_toInt (by omega)]
        omega
      rw [e7]
      have bad : ¬ (lo ≤ vlT f n p.2.2 ∧ vlT f n p.2.2 < hi) → P_X12_fails ms 2 (fun (ms_8 : Nat → Int32) => (post (nI lo) ms_8 mw)) := by
        intro t
        rw [if_neg t] at hp
        refine m_fails (c := 2) h (by decide) (by decide) (fun mu hu => hp mu mw ?_)
        unfold rF at hu
        rw [if_pos h0] at hu
        exact hu
      refine ⟨fun t => b0t (bad (by omega)), fun t => ⟨fun t2 => b0t (bad (by omega)), fun t2 => b1t (fun x hx => ?_)⟩⟩
      have hv : vlT f n p.2.2 = vlM f p.2.2 (tl f n p.2.2) := by omega
      rw [if_pos (by omega)] at hp
      rw [hx, ← hv]
      exact m_nextT hn ha h h0 hp
    · rw [if_neg (fun r => q (q3.mpr r))] at hp
      refine m_fails (c := 1) h (by decide) (by decide) (fun mu hu => hp mu mw ?_)
      unfold rF at hu
      rw [if_pos h0] at hu
      exact hu
  · rw [if_neg h0] at hp
    exact ⟨fun q => absurd q (h.f1 h0), fun _ => hp ms mw h⟩
theorem m_number_ (hn : n ≤ 1600) (ha : ∀ i, i < n → ma 2 i = f i) (h : MS f n p m0 ms mw) {w : List Int32} (hw : okW w) {code : Int64} (hc : code = lN (wcL w)) {lo hi : Nat} (hlo : lo ≤ 1000000) (hhi : hi ≤ 1000000) {post : Int32 → A1 → (Nat → Int64) → Prop} (hp : ∀ mt mw', MS f n (rN f n lo hi (rW f n w p)).2 m0 mt mw' → post (nI (rN f n lo hi (rW f n w p)).1) mt mw') : P_X12_number_ ms mw ma code (nI lo) (nI hi - 1) post :=
  m_asks hn ha h hw hc (fun _ _ h' => m_number hn ha h' hlo hhi (fun mt mw' h2 => hp mt mw' h2))
theorem m_ends (hn : n ≤ 1600) (ha : ∀ i, i < n → ma 2 i = f i) (h : MS f n p m0 ms mw) (h0 : p.1 = 0) {post : A1 → (Nat → Int64) → Prop} (hp : ∀ mt mw', MS f n (rS f n p) m0 mt mw' → post mt mw') : P_X12_ends ms mw ma post := by
  have hk5 := kd_le f n p.2.2
  unfold rS at hp
  rw [if_pos h0] at hp
  obtain ⟨-, e3, -, -, -⟩ := h.2.2.2.2.2.1 h0
  have q3 : ms 3 = 3 ↔ kd f n p.2.2 = 3 := by rw [e3]; exact kM_1 hk5 (c := 3) (by decide)
  refine ⟨fun q => ⟨fun r => absurd (h.f0 h0) r, fun _ => ?_⟩, fun q => ?_⟩
  · rw [if_pos (q3.mp q)] at hp
    exact m_nextT hn ha h h0 hp
  · rw [if_neg (fun r => q (q3.mpr r))] at hp
    refine m_fails (c := 1) h (by decide) (by decide) (fun mu hu => ?_)
    unfold rF at hu
    rw [if_pos h0] at hu
    exact ⟨fun _ => hp mu mw hu, fun r => absurd r (hu.f1 (show (1 : Nat) ≠ 0 by decide))⟩
end MR
