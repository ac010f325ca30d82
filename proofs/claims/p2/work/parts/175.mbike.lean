/-! the reference's line of a bike -/
theorem vup2 {ma : A2} {r : Nat} {u k : Nat → Int32} : va_up (va_up ma r u) r k = va_up ma r k := by
  funext j
  by_cases c : j = r
  · rw [c, up_at, up_at]
  · rw [up_ne c, up_ne c, up_ne c]
section M4
variable {f : Nat → Int32} {n : Nat} {m0 ms : A1} {mw : Nat → Int64} {ma : A2} {p : PS} {v : Rl}
theorem m_bike184 (hn : n ≤ 1600) (ha : ∀ i, i < n → ma 2 i = f i) (h4 : R4 v ma) (h13 : v 13 0 < 10) {q : PS} (h : MS f n q m0 ms mw) {a b c d : Nat} {mC : A2} (hC : mC = va_up ma 11 (upd (upd (upd (ma 11) (5 * (40 + v 13 0)) (nI a)) (5 * (40 + v 13 0) + 1) (nI b)) (5 * (40 + v 13 0) + 2) (nI c))) {k0 : Int32} (hk0 : k0 = nI d - 1) {post : A1 → (Nat → Int64) → A2 → Prop} (hp : ∀ mt mw' mb, MS f n (rI f n [109, 97, 114, 107, 101, 100] q).2 m0 mt mw' → F4 ma mb → R4 (aBike v a b c d (rI f n [109, 97, 114, 107, 101, 100] q).1) mb → post mt mw' mb) : P_X12_bikeLine_184 post (nI (5 * (40 + v 13 0))) k0 (nI (5 * (40 + v 13 0)) + 3) ms mw mC := by
  have e10 : mC 10 = ma 10 := by rw [hC]; exact up_ne (by decide)
  have e11 : mC 11 = upd (upd (upd (ma 11) (5 * (40 + v 13 0)) (nI a)) (5 * (40 + v 13 0) + 1) (nI b)) (5 * (40 + v 13 0) + 2) (nI c) := by rw [hC]; exact up_at
  have e2 : mC 2 = ma 2 := by rw [hC]; exact up_ne (by decide)
  have t1 : ma 10 4 = nI (v 13 0) := h4.1.1.2.2.2.2
  unfold P_X12_bikeLine_184
  rw [show nI (5 * (40 + v 13 0)) + 3 = nI (5 * (40 + v 13 0) + 3) from nI_add _ 3, show nI (5 * (40 + v 13 0)) + 4 = nI (5 * (40 + v 13 0) + 4) from nI_add _ 4, nI_clamp (by omega), nI_clamp (by omega), e10, e11, t1, nI_1, hk0]
  refine ⟨vp_in_nI (by omega) (by decide), m_takes (ma := va_up mC 11 _) (w := [109, 97, 114, 107, 101, 100]) hn (fun i hi => by rw [up_ne (by decide), e2]; exact ha i hi) h (by decide) (by decide) (fun mt mw' h' => ?_)⟩
  have hle := rI_le (f := f) (n := n) (w := [109, 97, 114, 107, 101, 100]) (p := q)
  generalize rI f n [109, 97, 114, 107, 101, 100] q = y at hp h' hle ⊢
  have G : ∀ z : Int32, z = nI y.1 → post mt mw' (va_up (va_up mC 10 (upd (ma 10) 4 (nI (v 13 0 + 1)))) 11 (upd (upd (upd (upd (upd (ma 11) (5 * (40 + v 13 0)) (nI a)) (5 * (40 + v 13 0) + 1) (nI b)) (5 * (40 + v 13 0) + 2) (nI c)) (5 * (40 + v 13 0) + 3) (nI d - 1)) (5 * (40 + v 13 0) + 4) z)) := by
    intro z hz
    obtain ⟨g1, g2⟩ := h4.bike h13 a b c d y.1 hz
    rw [hC, vup3 (by decide)]
    exact hp mt mw' _ h' g2 g1
  refine ⟨fun z => ⟨vp_in_nI (by omega) (by decide), G 0 z.symm⟩, fun z => ⟨vp_in_nI (by omega) (by decide), G 1 ?_⟩⟩
  have : y.1 ≠ 0 := fun e => z (by rw [e]; rfl)
  rw [show y.1 = 1 by omega]
  rfl
theorem m_bike129 (hn : n ≤ 1600) (ha : ∀ i, i < n → ma 2 i = f i) (hv : okV v) (h4 : R4 v ma) (h13 : v 13 0 < 10) {q : PS} (h : MS f n q m0 ms mw) {a b : Nat} {mB : A2} (hB : mB = va_up ma 11 (upd (upd (ma 11) (5 * (40 + v 13 0)) (nI a)) (5 * (40 + v 13 0) + 1) (nI b))) {post : A1 → (Nat → Int64) → A2 → Prop} (hp : ∀ mt mw' mb, MS f n (rI f n [109, 97, 114, 107, 101, 100] (lBk f n v (rN f n 0 (v 0 0) q).2).2).2 m0 mt mw' → F4 ma mb → R4 (aBike v a b (rN f n 0 (v 0 0) q).1 (lBk f n v (rN f n 0 (v 0 0) q).2).1 (rI f n [109, 97, 114, 107, 101, 100] (lBk f n v (rN f n 0 (v 0 0) q).2).2).1) mb → post mt mw' mb) : P_X12_bikeLine_129 post (nI (5 * (40 + v 13 0))) ms mw mB := by
  have h0 := ok0 hv
  have h12 := ok12 hv
  have e2 : mB 2 = ma 2 := by rw [hB]; exact up_ne (by decide)
  have e4 : mB 4 4 = nI (v 0 0) := by rw [hB, up_ne (by decide)]; exact h4.1.1.2.1
  have e8 : mB 8 4 = nI (v 12 0) := by rw [hB, up_ne (by decide)]; exact h4.1.1.2.2.2.1
  have e11 : mB 11 = upd (upd (ma 11) (5 * (40 + v 13 0)) (nI a)) (5 * (40 + v 13 0) + 1) (nI b) := by rw [hB]; exact up_at
  have haB : ∀ i, i < n → mB 2 i = f i := fun i hi => by rw [e2]; exact ha i hi
  unfold P_X12_bikeLine_129
  rw [e4, e8, e11, show nI (5 * (40 + v 13 0)) + 2 = nI (5 * (40 + v 13 0) + 2) from nI_add _ 2, nI_clamp (by omega)]
  refine m_number (lo := 0) (hi := v 0 0) hn haB h (by decide) (by omega) (fun m1 w1 h1 => ⟨vp_in_nI (by omega) (by decide), ?_⟩)
  generalize rN f n 0 (v 0 0) q = y7 at hp h1 ⊢
  have hC : va_up mB 11 (upd (upd (upd (ma 11) (5 * (40 + v 13 0)) (nI a)) (5 * (40 + v 13 0) + 1) (nI b)) (5 * (40 + v 13 0) + 2) (nI y7.1)) = va_up ma 11 (upd (upd (upd (ma 11) (5 * (40 + v 13 0)) (nI a)) (5 * (40 + v 13 0) + 1) (nI b)) (5 * (40 + v 13 0) + 2) (nI y7.1)) := by rw [hB, vup2]
  rw [hC]
  have e0 : lBk f n v y7.2 = if (rI f n [108, 111, 99, 107] y7.2).1 = 0 then (0, (rI f n [108, 111, 99, 107] y7.2).2) else ((rN f n 0 (v 12 0) (rI f n [108, 111, 99, 107] y7.2).2).1 + 1, (rN f n 0 (v 12 0) (rI f n [108, 111, 99, 107] y7.2).2).2) := rfl
  generalize lBk f n v y7.2 = z9 at hp e0
  refine m_takes (ma := va_up ma 11 _) (w := [108, 111, 99, 107]) hn (fun i hi => by rw [up_ne (by decide)]; exact ha i hi) h1 (by decide) (by decide) (fun m2 w2 h2 => ?_)
  have hle := rI_le (f := f) (n := n) (w := [108, 111, 99, 107]) (p := y7.2)
  generalize rI f n [108, 111, 99, 107] y7.2 = y8 at h2 hle e0 ⊢
  refine ⟨fun t => ?_, fun t => ?_⟩
  · have e : y8.1 = 0 := (nI_eq (b := 0) (by omega) (by decide)).mp t
    rw [if_pos e] at e0
    subst e0
    exact m_bike184 (d := 0) hn ha h4 h13 h2 rfl rfl hp
  · have e : ¬ y8.1 = 0 := fun z => t (by rw [z]; rfl)
    rw [if_neg e] at e0
    subst e0
    refine m_number (ma := va_up ma 11 _) (lo := 0) (hi := v 12 0) hn (fun i hi => by rw [up_ne (by decide)]; exact ha i hi) h2 (by decide) (by omega) (fun m3 w3 h3 => ?_)
    generalize rN f n 0 (v 12 0) y8.2 = y9 at hp h3 ⊢
    exact m_bike184 (d := y9.1 + 1) hn ha h4 h13 h3 rfl (nI_pre (Nat.succ_pos _)).symm hp
theorem m_bikeLine (hn : n ≤ 1600) (ha : ∀ i, i < n → ma 2 i = f i) (hv : okV v) (h : MS f n p m0 ms mw) (h4 : R4 v ma) (h13 : v 13 0 < 10) {q6 : PS} (hq6 : q6 = lB2 f n v (lB1 f n p).2.2) {post : A1 → (Nat → Int64) → A2 → Prop} (hp : ∀ mt mw' mb, MS f n (rI f n [109, 97, 114, 107, 101, 100] (lBk f n v (rN f n 0 (v 0 0) q6).2).2).2 m0 mt mw' → F4 ma mb → R4 (aBike v (lB1 f n p).1 (lB1 f n p).2.1 (rN f n 0 (v 0 0) q6).1 (lBk f n v (rN f n 0 (v 0 0) q6).2).1 (rI f n [109, 97, 114, 107, 101, 100] (lBk f n v (rN f n 0 (v 0 0) q6).2).2).1) mb → post mt mw' mb) : P_X12_bikeLine ms mw ma post := by
  have t1 : ma 10 4 = nI (v 13 0) := h4.1.1.2.2.2.2
  have T : ∀ (a b : Nat) (q5 : PS) (m5 : A1) (w5 : Nat → Int64), MS f n q5 m0 m5 w5 → q6 = lB2 f n v q5 → (∀ mt mw' mb, MS f n (rI f n [109, 97, 114, 107, 101, 100] (lBk f n v (rN f n 0 (v 0 0) q6).2).2).2 m0 mt mw' → F4 ma mb → R4 (aBike v a b (rN f n 0 (v 0 0) q6).1 (lBk f n v (rN f n 0 (v 0 0) q6).2).1 (rI f n [109, 97, 114, 107, 101, 100] (lBk f n v (rN f n 0 (v 0 0) q6).2).2).1) mb → post mt mw' mb) → ∀ mB : A2, mB = va_up ma 11 (upd (upd (ma 11) (5 * (40 + v 13 0)) (nI a)) (5 * (40 + v 13 0) + 1) (nI b)) → ∃ k, P_X12_bikeLine_59 post (fun (x1_ : Int32) (x2_ : Int32) (ms : Nat → Int32) (mw : Nat → Int64) (ma : Nat → Nat → Int32) => P_X12_bikeLine_105 post x1_ x2_ ms mw ma) (nI (5 * (40 + v 13 0))) m5 w5 mB k 0 0 := by
    intro a b q5 m5 w5 h5 hq hp mB hB
    have e10 : mB 10 4 = nI (v 13 0) := by rw [hB, up_ne (by decide)]; exact t1
    have K : ∀ m6 w6, MS f n q6 m0 m6 w6 → P_X12_bikeLine_129 post (nI (5 * (40 + v 13 0))) m6 w6 mB := fun m6 w6 h6 => m_bike129 hn ha hv h4 h13 h6 hB hp
    have K0 : ¬ (q5.1 = 0 ∧ kd f n q5.2.2 = 2 ∧ stN v (vlT f n q5.2.2) = true) → P_X12_bikeLine_129 post (nI (5 * (40 + v 13 0))) m5 w5 mB := by
      intro c
      unfold lB2 at hq
      rw [if_neg c] at hq
      subst hq
      exact K m5 w5 h5
    have hk5 := kd_le f n q5.2.2
    have E : ∀ x2 : Int32, (x2 = 1 ∧ (∃ c, c < v 13 0 ∧ nI (v 22 c) = m5 5) ∨ x2 = 0 ∧ ∀ c, c < v 13 0 → nI (v 22 c) ≠ m5 5) → P_X12_bikeLine_105 post (nI (5 * (40 + v 13 0))) x2 m5 w5 mB := by
      intro x2 hx2
      by_cases z : q5.1 = 0
      · obtain ⟨-, g3, -, g5, -⟩ := h5.2.2.2.2.2.1 z
        have q3 : m5 3 = 2 ↔ kd f n q5.2.2 = 2 := by rw [g3]; exact kM_1 hk5 (c := 2) (by decide)
        refine ⟨fun q => absurd (h5.f0 z) q, fun _ => ⟨fun q => K0 (fun r => q (q3.mpr r.2.1)), fun q => ?_⟩⟩
        have k2 := q3.mp q
        rw [if_pos k2] at g5
        have hin : ∀ i, i < tl f n q5.2.2 → kd f n (q5.2.2 + i) = 2 := fun i hi => (tl_in hi (Or.inr k2)).trans k2
        have hle := vlM_le f q5.2.2 n _ hin
        have hb : vlT f n q5.2.2 = min 1000000 (vlM f q5.2.2 (tl f n q5.2.2)) := vl_both f q5.2.2 n _ hin
        have hst : stN v (vlT f n q5.2.2) = true ↔ ∃ c, c < v 13 0 ∧ nI (v 22 c) = m5 5 := by
          unfold stN
          simp only [decide_eq_true_eq]
          constructor
          · rintro ⟨c, hc, e⟩
            have b22 := (hv.2.2.2.2.1 c hc).2.2.1
            exact ⟨c, hc, by rw [g5, show v 22 c = vlM f q5.2.2 (tl f n q5.2.2) by omega]⟩
          · rintro ⟨c, hc, e⟩
            have b22 := (hv.2.2.2.2.1 c hc).2.2.1
            rw [g5, nI_eq (by omega) (by omega)] at e
            exact ⟨c, hc, by omega⟩
        rcases hx2 with ⟨e, ex⟩ | ⟨e, ex⟩
        · refine ⟨fun r => absurd (e.symm.trans r) (by decide), fun _ => ?_⟩
          have hs := hst.mpr ex
          unfold lB2 at hq
          rw [if_pos ⟨z, k2, hs⟩] at hq
          subst hq
          exact m_fails (c := 2) h5 (by decide) (by decide) (fun m6 h6 => K m6 w5 h6)
        · refine ⟨fun _ => K0 (fun r => ?_), fun r => absurd e r⟩
          obtain ⟨c, hc, ec⟩ := hst.mp r.2.2
          exact ex c hc ec
      · exact ⟨fun _ => K0 (fun r => z r.1), fun q => absurd q (h5.f1 z)⟩
    have L : ∀ (d i : Nat) (x2 : Int32), i + d = v 13 0 → (x2 = 1 ∧ (∃ c, c < i ∧ nI (v 22 c) = m5 5) ∨ x2 = 0 ∧ ∀ c, c < i → nI (v 22 c) ≠ m5 5) → P_X12_bikeLine_59 post (fun (x1_ : Int32) (x2_ : Int32) (ms : Nat → Int32) (mw : Nat → Int64) (ma : Nat → Nat → Int32) => P_X12_bikeLine_105 post x1_ x2_ ms mw ma) (nI (5 * (40 + v 13 0))) m5 w5 mB (d + 1) x2 (nI i) := by
      intro d
      induction d with
      | zero =>
        intro i x2 hi hx
        obtain rfl : i = v 13 0 := by omega
        exact ⟨fun _ => E x2 hx, fun c => absurd ((cmp_le e10 (by omega) (by omega)).mpr (Nat.le_refl _)) c⟩
      | succ d ih =>
        intro i x2 hi hx
        have e22 : mB 11 (5 * (40 + i) + 2) = nI (v 22 i) := by
          rw [hB, up_at, u_ne (by omega), u_ne (by omega)]
          exact (h4.1.2.2.2.1 i (by omega)).2.2.1
        refine ⟨fun c => absurd ((cmp_le e10 (by omega) (by omega)).mp c) (by omega), fun _ => ?_⟩
        rw [show (5 : Int32) * (40 + nI i) + 2 = nI (5 * (40 + i) + 2) by simp only [fa_lit, pk_mul, nI_add], nI_clamp (by omega), e22, nI_1]
        refine ⟨fun c => ih (i + 1) 1 (by omega) (Or.inl ⟨rfl, ?_⟩), fun c => ⟨vp_in_nI (by omega) (by decide), fun t => ih (i + 1) 0 (by omega) (Or.inr ⟨rfl, fun c' hc' => ?_⟩), fun t => ih (i + 1) 1 (by omega) (Or.inl ⟨rfl, i, by omega, t⟩)⟩⟩
        · rcases hx with ⟨-, c', hc', e⟩ | ⟨e, -⟩
          · exact ⟨c', by omega, e⟩
          · exact absurd e c
        · rcases hx with ⟨e, -⟩ | ⟨-, ex⟩
          · exact absurd (e.symm.trans c) (by decide)
          · by_cases w : c' = i
            · rw [w]; exact t
            · exact ex c' (by omega)
    exact ⟨v 13 0 + 1, L (v 13 0) 0 0 (by omega) (Or.inr ⟨rfl, fun c hc => by omega⟩)⟩
  intro x hx
  rw [t1, show (5 : Int32) * (40 + nI (v 13 0)) = nI (5 * (40 + v 13 0)) by simp only [fa_lit, pk_mul, nI_add]] at hx
  subst hx
  refine m_number_ (w := [119, 111, 114, 116, 104]) (lo := 0) (hi := 10000) hn ha h (by decide) (by decide) (by decide) (by decide) (fun m1 w1 h1 => ⟨vp_in_nI (by omega) (by decide), ?_⟩)
  rw [nI_clamp (by omega)]
  refine m_number_ (ma := va_up ma 11 (upd (ma 11) (5 * (40 + v 13 0)) _)) (w := [115, 101, 101, 109, 115]) (lo := 0) (hi := 10000) hn ha h1 (by decide) (by decide) (by decide) (by decide) (fun m2 w2 h2 => ?_)
  rw [show nI (5 * (40 + v 13 0)) + 1 = nI (5 * (40 + v 13 0) + 1) from nI_add _ 1, nI_clamp (by omega)]
  refine ⟨vp_in_nI (by omega) (by decide), m_asks (ma := va_up ma 11 (upd (upd (ma 11) (5 * (40 + v 13 0)) _) (5 * (40 + v 13 0) + 1) _)) (w := [97, 116]) hn ha h2 (by decide) (by decide) (fun m3 w3 h3 => ?_)⟩
  exact T _ _ _ m3 w3 h3 hq6 hp _ rfl
end M4
