section
/-! the reference's line of a thief -/
theorem vup3 {ma : A2} {r s : Nat} (h : r ≠ s) {u g k : Nat → Int32} : va_up (va_up (va_up ma r u) s g) r k = va_up (va_up ma s g) r k := by
  funext j
  by_cases c : j = r
  · rw [c, up_at, up_at]
  · rw [up_ne c, up_ne c]
    by_cases d : j = s
    · rw [d, up_at, up_at]
    · rw [up_ne d, up_ne d, up_ne c]
section M3
variable {f : Nat → Int32} {n : Nat} {m0 ms : A1} {mw : Nat → Int64} {ma : A2} {p : PS} {v : Rl}
theorem m_thiefLine (hn : n ≤ 1600) (ha : ∀ i, i < n → ma 2 i = f i) (hv : okV v) (h : MS f n p m0 ms mw) (h4 : R4 v ma) (h14 : v 14 0 < 6) {post : A1 → (Nat → Int64) → A2 → Prop} (hp : ∀ mt mw' mb, MS f n (lTk f n v (lT1 f n p).2.2.2).2.2 m0 mt mw' → F4 ma mb → ((lTk f n v (lT1 f n p).2.2.2).2.2.1 = 0 → R4 (aThief v (lT1 f n p).1 (lT1 f n p).2.1 (lT1 f n p).2.2.1 (lTk f n v (lT1 f n p).2.2.2).1 (lTk f n v (lT1 f n p).2.2.2).2.1) mb) → post mt mw' mb) : P_X12_thiefLine ms mw ma post := by
  have h13' := ok13 hv
  have t1 : ma 12 4 = nI (v 14 0) := h4.2.1.1
  have e10 : ma 10 4 = nI (v 13 0) := h4.1.1.2.2.2.2
  have T : ∀ (a b c : Nat) (q : PS) (m3 : A1) (w3 : Nat → Int64), MS f n q m0 m3 w3 → (∀ mt mw' mb, MS f n (lTk f n v q).2.2 m0 mt mw' → F4 ma mb → ((lTk f n v q).2.2.1 = 0 → R4 (aThief v a b c (lTk f n v q).1 (lTk f n v q).2.1) mb) → post mt mw' mb) → ∀ mA : A2, mA = va_up ma 13 (upd (upd (upd (ma 13) (5 * (24 + v 14 0)) (nI a)) (5 * (24 + v 14 0) + 1) (nI b)) (5 * (24 + v 14 0) + 2) (nI c)) → P_X12_is m3 w3 43544 (fun (r20 : Int32) => (((r20 = 0) → P_X12_is m3 w3 1132 (fun (r22 : Int32) => (((r22 = 0) → P_X12_is m3 w3 212672 (fun (r24 : Int32) => (((r24 = 0) → P_X12_thiefLine_106 post (nI (5 * (24 + v 14 0))) (-1) m3 w3 mA) ∧ ((¬ r24 = 0) → P_X12_thiefLine_106 post (nI (5 * (24 + v 14 0))) 2 m3 w3 mA)))) ∧ ((¬ r22 = 0) → P_X12_thiefLine_106 post (nI (5 * (24 + v 14 0))) 1 m3 w3 mA)))) ∧ ((¬ r20 = 0) → P_X12_thiefLine_106 post (nI (5 * (24 + v 14 0))) 0 m3 w3 mA))) := by
    intro a b c q m3 w3 h3 hp mA hmA
    have e2 : mA 2 = ma 2 := by rw [hmA]; exact up_ne (by decide)
    have e12 : mA 12 = ma 12 := by rw [hmA]; exact up_ne (by decide)
    have e13 : mA 13 = upd (upd (upd (ma 13) (5 * (24 + v 14 0)) (nI a)) (5 * (24 + v 14 0) + 1) (nI b)) (5 * (24 + v 14 0) + 2) (nI c) := by rw [hmA]; exact up_at
    have e10' : mA 10 4 = nI (v 13 0) := by rw [hmA, up_ne (by decide)]; exact e10
    have ha' : ∀ i, i < n → mA 2 i = f i := fun i hi => by rw [e2]; exact ha i hi
    have x3 : nI (5 * (24 + v 14 0)) + 3 = nI (5 * (24 + v 14 0) + 3) := nI_add _ 3
    have x4 : nI (5 * (24 + v 14 0)) + 4 = nI (5 * (24 + v 14 0) + 4) := nI_add _ 4
    have F : ∀ (kI jI : Int32) (mt : A1) (mw' : Nat → Int64), MS f n (lTk f n v q).2.2 m0 mt mw' → ((lTk f n v q).2.2.1 = 0 → kI = nI (lTk f n v q).1 ∧ jI = nI (lTk f n v q).2.1 - 1) → post mt mw' (va_up (va_up mA 12 (upd (mA 12) 4 ((mA 12 4) + 1))) 13 (upd (upd (mA 13) (5 * (24 + v 14 0) + 3) kI) (5 * (24 + v 14 0) + 4) jI)) := by
      intro kI jI mt mw' hMS hk
      rw [e12, e13, t1, nI_1, hmA, vup3 (by decide)]
      refine hp mt mw' _ hMS F4.thief (fun z => ?_)
      obtain ⟨k1, k2⟩ := hk z
      rw [k1, k2]
      exact h4.thief h14 a b c _ _
    have K128 : ∀ (kI : Int32) (mt : A1) (mw' : Nat → Int64), ¬ kI = 2 → MS f n (lTk f n v q).2.2 m0 mt mw' → ((lTk f n v q).2.2.1 = 0 → kI = nI (lTk f n v q).1 ∧ (-1 : Int32) = nI (lTk f n v q).2.1 - 1) → P_X12_thiefLine_128 post (nI (5 * (24 + v 14 0))) kI mt mw' mA := by
      intro kI mt mw' k2 hMS hk
      unfold P_X12_thiefLine_128
      rw [x3, x4, nI_clamp (by omega), nI_clamp (by omega)]
      exact ⟨vp_in_nI (by omega) (by decide), fun _ => ⟨vp_in_nI (by omega) (by decide), F kI (-1) mt mw' hMS hk⟩, fun z => absurd z k2⟩
    refine m_is (w := [98, 101, 115, 116]) h3 (by decide) (by decide) (fun h0 t => b1f ?_) (fun tA => b0f ?_)
    · have eb : rI f n [98, 101, 115, 116] q = (1, 0, 0, adv f n q.2.2) := by unfold rI; rw [if_pos ⟨h0, t⟩]
      have eT : lTk f n v q = (0, 0, 0, 0, adv f n q.2.2) := by unfold lTk; rw [eb]; rfl
      refine ⟨fun _ => ⟨fun z => absurd (h3.f0 h0) z, fun _ => m_nextT hn ha' h3 h0 (fun m4 w4 h4' => K128 0 m4 w4 (by decide) (by rw [eT]; exact h4') (fun _ => by rw [eT]; exact ⟨rfl, rfl⟩))⟩, fun z => absurd z (by decide)⟩
    · have eb : rI f n [98, 101, 115, 116] q = (0, q) := by unfold rI; rw [if_neg tA]
      refine m_is (w := [97, 110, 121]) h3 (by decide) (by decide) (fun h0 t => b1f ?_) (fun tB => b0f ?_)
      · have ea : rI f n [97, 110, 121] q = (1, 0, 0, adv f n q.2.2) := by unfold rI; rw [if_pos ⟨h0, t⟩]
        have eT : lTk f n v q = (1, 0, 0, 0, adv f n q.2.2) := by unfold lTk; rw [eb, if_pos rfl, ea]; rfl
        refine ⟨fun _ => ⟨fun z => absurd (h3.f0 h0) z, fun _ => m_nextT hn ha' h3 h0 (fun m4 w4 h4' => K128 1 m4 w4 (by decide) (by rw [eT]; exact h4') (fun _ => by rw [eT]; exact ⟨rfl, rfl⟩))⟩, fun z => absurd z (by decide)⟩
      · have ea : rI f n [97, 110, 121] q = (0, q) := by unfold rI; rw [if_neg tB]
        have eT : lTk f n v q = (2, (rN f n 0 (v 13 0) (rW f n [106, 117, 115, 116] q)).1 + 1, (rN f n 0 (v 13 0) (rW f n [106, 117, 115, 116] q)).2) := by unfold lTk; rw [eb, if_pos rfl, ea, if_pos rfl]
        refine m_is (w := [106, 117, 115, 116]) h3 (by decide) (by decide) (fun h0 t => b1f ?_) (fun tC => b0f ?_)
        · have ew : rW f n [106, 117, 115, 116] q = (0, 0, adv f n q.2.2) := by unfold rW; rw [if_pos h0, if_pos t]
          rw [ew] at eT
          refine ⟨fun _ => ⟨fun z => absurd (h3.f0 h0) z, fun _ => m_nextT hn ha' h3 h0 (fun m4 w4 h4' => ?_)⟩, fun z => absurd z (by decide)⟩
          unfold P_X12_thiefLine_128
          rw [x3, x4, nI_clamp (by omega), nI_clamp (by omega), e10']
          refine ⟨vp_in_nI (by omega) (by decide), fun z => absurd rfl z, fun _ => m_number (ma := va_up mA 13 _) (lo := 0) (hi := v 13 0) hn (fun i hi => by rw [up_ne (by decide)]; exact ha' i hi) h4' (by decide) (by omega) (fun m5 w5 h5 => ⟨vp_in_nI (by omega) (by decide), F 2 _ m5 w5 (by rw [eT]; exact h5) (fun _ => ?_)⟩)⟩
          rw [eT]
          exact ⟨rfl, (nI_pre (Nat.succ_pos _)).symm⟩
        · have ew : rW f n [106, 117, 115, 116] q = rF 1 q := by
            unfold rW rF
            by_cases c0 : q.1 = 0
            · rw [if_pos c0, if_pos c0, if_neg (fun r => tC ⟨c0, r⟩)]
            · rw [if_neg c0, if_neg c0]
          have hne : (rF 1 q).1 ≠ 0 := by
            unfold rF
            by_cases c0 : q.1 = 0
            · rw [if_pos c0]; exact (show (1 : Nat) ≠ 0 by decide)
            · rw [if_neg c0]; exact c0
          have eN : (rN f n 0 (v 13 0) (rF 1 q)).2 = rF 1 q := by unfold rN; rw [if_neg hne]
          rw [ew] at eT
          refine ⟨fun z => absurd rfl z, fun _ => m_fails (c := 1) h3 (by decide) (by decide) (fun m4 h4' => ⟨fun _ => K128 (-1) m4 w3 (by decide) (by rw [eT]; show MS f n (rN f n 0 (v 13 0) (rF 1 q)).2 m0 m4 w3; rw [eN]; exact h4') (fun z => ?_), fun z => absurd z (h4'.f1 hne)⟩)⟩
          rw [eT] at z
          have z' : (rN f n 0 (v 13 0) (rF 1 q)).2.1 = 0 := z
          rw [eN] at z'
          exact absurd z' hne
  intro x hx
  rw [t1, show (5 : Int32) * (24 + nI (v 14 0)) = nI (5 * (24 + v 14 0)) by simp only [fa_lit, pk_mul, nI_add]] at hx
  subst hx
  refine m_number_ (w := [116, 111, 111, 108]) (lo := 0) (hi := 3) hn ha h (by decide) (by decide) (by decide) (by decide) (fun m1 w1 h1 => ⟨vp_in_nI (by omega) (by decide), ?_⟩)
  rw [nI_clamp (by omega)]
  refine m_number_ (ma := va_up ma 13 (upd (ma 13) (5 * (24 + v 14 0)) _)) (w := [99, 111, 109, 101, 115]) (lo := 0) (hi := 101) hn ha h1 (by decide) (by decide) (by decide) (by decide) (fun m2 w2 h2 => ?_)
  rw [show nI (5 * (24 + v 14 0)) + 1 = nI (5 * (24 + v 14 0) + 1) from nI_add _ 1, show nI (5 * (24 + v 14 0)) + 2 = nI (5 * (24 + v 14 0) + 2) from nI_add _ 2, nI_clamp (by omega), nI_clamp (by omega)]
  refine ⟨vp_in_nI (by omega) (by decide), m_number_ (ma := va_up ma 13 (upd (upd (ma 13) (5 * (24 + v 14 0)) _) (5 * (24 + v 14 0) + 1) _)) (w := [102, 101, 97, 114, 115]) (lo := 0) (hi := 100) hn ha h2 (by decide) (by decide) (by decide) (by decide) (fun m3 w3 h3 => ⟨vp_in_nI (by omega) (by decide), ?_⟩)⟩
  exact T _ _ _ _ m3 w3 h3 hp _ rfl
end M3
end
section
/-! the reference's line of a bike -/
theorem vup2 {ma : A2} {r : Nat} {u k : Nat → Int32} : va_up (va_up ma r u) r k = va_up ma r k := by
  funext j
  by_cases c : j = r
  · rw [c, up_at, up_at]
  · rw [up_ne c, up_ne c, up_ne c]
section M4
variable {f : Nat → Int32} {n : Nat} {m0 ms : A1} {mw : Nat → Int64} {ma : A2} {p : PS} {v : Rl}
theorem m_bike184 (hn : n ≤ 1600) (ha : ∀ i, i < n → ma 2 i = f i) (h4 : R4 v ma) (h13 : v 13 0 < 10) {q : PS} (h : MS f n q m0 ms mw) {a b c d : Nat} {mC : A2} (hC : mC = va_up ma 11 (upd (upd (upd (ma 11) (5 * (40 + v 13 0)) (nI a)) (5 * (40 + v 13 0) + 1) (nI b)) (5 * (40 + v 13 0) + 2) (nI c))) {k0 : Int32} (hk0 : k0 = nI d - 1) {post : A1 → (Nat → Int64) → A2 → Prop} (hp : ∀ mt mw' mb, MS f n (rI f n [109, 97, 114, 107, 101, 100] q).2 m0 mt mw' → F4 ma mb → R4 (aBike v a b c d (rI f n [109, 97, 114, 107, 101, 100] q).1) mb → post mt mw' mb) : P_X12_bikeLine_184 post (nI (5 * (40 + v 13 0))) k0 (nI (5 * (40 + v 13 0)) + 3) ms mw mC := by
  have e10 : mC 10 = ma 10 := by rw [hC]; exact up_ne (by decide)
  have e11 : mC 11 = upd (upd (upd (ma 11) (5 * (40 + v 13 0)) (nI a)) (5 * (40 + v 13 0) + 1) (nI b)) (5 * (40 + v 13 0) + 2) (nI c) := by rw [hC]; exact up_at
  have e2 : mC 2 = ma 2 := by rw [hC]; exact up_ne (by decide)
  have t1 : ma 10 4 = nI (v 13 0) := h4.1.1.2.2.2.2
  unfold P_X12_bikeLine_184
  rw [show nI (5 * (40 + v 13 0)) + 3 = nI (5 * (40 + v 13 0) + 3) from nI_add _ 3, show nI (5 * (40 + v 13 0)) + 4 = nI (5 * (40 + v 13 0) + 4) from nI_add _ 4, nI_clamp (by omega), nI_clamp (by omega), e10, e11, t1, nI_1, hk0]
  refine ⟨vp_in_nI (by omega) (by decide), m_takes (ma := va_up mC 11 _) (w := [109, 97, 114, 107, 101, 100]) hn (fun i hi => by rw [up_ne (by decide), e2]; exact ha i hi) h (by decide) (by decide) (fun mt mw' h' => ?_)⟩
  have hle := rI_le (f := f) (n := n) (w := [109, 97, 114, 107, 101, 100]) (p := q)
  generalize rI f n [109, 97, 114, 107, 101, 100] q = y at hp h' hle ⊢
  have G : ∀ z : Int32, z = nI y.1 → post mt mw' (va_up (va_up mC 10 (upd (ma 10) 4 (nI (v 13 0 + 1)))) 11 (upd (upd (upd (upd (upd (ma 11) (5 * (40 + v 13 0)) (nI a)) (5 * (40 + v 13 0) + 1) (nI b)) (5 * (40 + v 13 0) + 2) (nI c)) (5 * (40 + v 13 0) + 3) (nI d - 1)) (5 * (40 + v 13 0) + 4) z)) := by
    intro z hz
    obtain ⟨g1, g2⟩ := h4.bike h13 a b c d y.1 hz
    rw [hC, vup3 (by decide)]
    exact hp mt mw' _ h' g2 g1
  refine ⟨fun z => ⟨vp_in_nI (by omega) (by decide), G 0 z.symm⟩, fun z => ⟨vp_in_nI (by omega) (by decide), G 1 ?_⟩⟩
  have : y.1 ≠ 0 := fun e => z (by rw [e]; rfl)
  rw [show y.1 = 1 by omega]
  rfl
theorem m_bike129 (hn : n ≤ 1600) (ha : ∀ i, i < n → ma 2 i = f i) (hv : okV v) (h4 : R4 v ma) (h13 : v 13 0 < 10) {q : PS} (h : MS f n q m0 ms mw) {a b : Nat} {mB : A2} (hB : mB = va_up ma 11 (upd (upd (ma 11) (5 * (40 + v 13 0)) (nI a)) (5 * (40 + v 13 0) + 1) (nI b))) {post : A1 → (Nat → Int64) → A2 → Prop} (hp : ∀ mt mw' mb, MS f n (rI f n [109, 97, 114, 107, 101, 100] (lBk f n v (rN f n 0 (v 0 0) q).2).2).2 m0 mt mw' → F4 ma mb → R4 (aBike v a b (rN f n 0 (v 0 0) q).1 (lBk f n v (rN f n 0 (v 0 0) q).2).1 (rI f n [109, 97, 114, 107, 101, 100] (lBk f n v (rN f n 0 (v 0 0) q).2).2).1) mb → post mt mw' mb) : P_X12_bikeLine_129 post (nI (5 * (40 + v 13 0))) ms mw mB := by
  have h0 := ok0 hv
  have h12 := ok12 hv
  have e2 : mB 2 = ma 2 := by rw [hB]; exact up_ne (by decide)
  have e4 : mB 4 4 = nI (v 0 0) := by rw [hB, up_ne (by decide)]; exact h4.1.1.2.1
  have e8 : mB 8 4 = nI (v 12 0) := by rw [hB, up_ne (by decide)]; exact h4.1.1.2.2.2.1
  have e11 : mB 11 = upd (upd (ma 11) (5 * (40 + v 13 0)) (nI a)) (5 * (40 + v 13 0) + 1) (nI b) := by rw [hB]; exact up_at
  have haB : ∀ i, i < n → mB 2 i = f i := fun i hi => by rw [e2]; exact ha i hi
  unfold P_X12_bikeLine_129
  rw [e4, e8, e11, show nI (5 * (40 + v 13 0)) + 2 = nI (5 * (40 + v 13 0) + 2) from nI_add _ 2, nI_clamp (by omega)]
  refine m_number (lo := 0) (hi := v 0 0) hn haB h (by decide) (by omega) (fun m1 w1 h1 => ⟨vp_in_nI (by omega) (by decide), ?_⟩)
  generalize rN f n 0 (v 0 0) q = y7 at hp h1 ⊢
  have hC : va_up mB 11 (upd (upd (upd (ma 11) (5 * (40 + v 13 0)) (nI a)) (5 * (40 + v 13 0) + 1) (nI b)) (5 * (40 + v 13 0) + 2) (nI y7.1)) = va_up ma 11 (upd (upd (upd (ma 11) (5 * (40 + v 13 0)) (nI a)) (5 * (40 + v 13 0) + 1) (nI b)) (5 * (40 + v 13 0) + 2) (nI y7.1)) := by rw [hB, vup2]
  rw [hC]
  have e0 : lBk f n v y7.2 = if (rI f n [108, 111, 99, 107] y7.2).1 = 0 then (0, (rI f n [108, 111, 99, 107] y7.2).2) else ((rN f n 0 (v 12 0) (rI f n [108, 111, 99, 107] y7.2).2).1 + 1, (rN f n 0 (v 12 0) (rI f n [108, 111, 99, 107] y7.2).2).2) := rfl
  generalize lBk f n v y7.2 = z9 at hp e0
  refine m_takes (ma := va_up ma 11 _) (w := [108, 111, 99, 107]) hn (fun i hi => by rw [up_ne (by decide)]; exact ha i hi) h1 (by decide) (by decide) (fun m2 w2 h2 => ?_)
  have hle := rI_le (f := f) (n := n) (w := [108, 111, 99, 107]) (p := y7.2)
  generalize rI f n [108, 111, 99, 107] y7.2 = y8 at h2 hle e0 ⊢
  refine ⟨fun t => ?_, fun t => ?_⟩
  · have e : y8.1 = 0 := (nI_eq (b := 0) (by omega) (by decide)).mp t
    rw [if_pos e] at e0
    subst e0
    exact m_bike184 (d := 0) hn ha h4 h13 h2 rfl rfl hp
  · have e : ¬ y8.1 = 0 := fun z => t (by rw [z]; rfl)
    rw [if_neg e] at e0
    subst e0
    refine m_number (ma := va_up ma 11 _) (lo := 0) (hi := v 12 0) hn (fun i hi => by rw [up_ne (by decide)]; exact ha i hi) h2 (by decide) (by omega) (fun m3 w3 h3 => ?_)
    generalize rN f n 0 (v 12 0) y8.2 = y9 at hp h3 ⊢
    exact m_bike184 (d := y9.1 + 1) hn ha h4 h13 h3 rfl (nI_pre (Nat.succ_pos _)).symm hp
theorem m_bikeLine (hn : n ≤ 1600) (ha : ∀ i, i < n → ma 2 i = f i) (hv : okV v) (h : MS f n p m0 ms mw) (h4 : R4 v ma) (h13 : v 13 0 < 10) {q6 : PS} (hq6 : q6 = lB2 f n v (lB1 f n p).2.2) {post : A1 → (Nat → Int64) → A2 → Prop} (hp : ∀ mt mw' mb, MS f n (rI f n [109, 97, 114, 107, 101, 100] (lBk f n v (rN f n 0 (v 0 0) q6).2).2).2 m0 mt mw' → F4 ma mb → R4 (aBike v (lB1 f n p).1 (lB1 f n p).2.1 (rN f n 0 (v 0 0) q6).1 (lBk f n v (rN f n 0 (v 0 0) q6).2).1 (rI f n [109, 97, 114, 107, 101, 100] (lBk f n v (rN f n 0 (v 0 0) q6).2).2).1) mb → post mt mw' mb) : P_X12_bikeLine ms mw ma post := by
  have t1 : ma 10 4 = nI (v 13 0) := h4.1.1.2.2.2.2
  have T : ∀ (a b : Nat) (q5 : PS) (m5 : A1) (w5 : Nat → Int64), MS f n q5 m0 m5 w5 → q6 = lB2 f n v q5 → (∀ mt mw' mb, MS f n (rI f n [109, 97, 114, 107, 101, 100] (lBk f n v (rN f n 0 (v 0 0) q6).2).2).2 m0 mt mw' → F4 ma mb → R4 (aBike v a b (rN f n 0 (v 0 0) q6).1 (lBk f n v (rN f n 0 (v 0 0) q6).2).1 (rI f n [109, 97, 114, 107, 101, 100] (lBk f n v (rN f n 0 (v 0 0) q6).2).2).1) mb → post mt mw' mb) → ∀ mB : A2, mB = va_up ma 11 (upd (upd (ma 11) (5 * (40 + v 13 0)) (nI a)) (5 * (40 + v 13 0) + 1) (nI b)) → ∃ k, P_X12_bikeLine_59 post (fun (x1_ : Int32) (x2_ : Int32) (ms : Nat → Int32) (mw : Nat → Int64) (ma : Nat → Nat → Int32) => P_X12_bikeLine_105 post x1_ x2_ ms mw ma) (nI (5 * (40 + v 13 0))) m5 w5 mB k 0 0 := by
    intro a b q5 m5 w5 h5 hq hp mB hB
    have e10 : mB 10 4 = nI (v 13 0) := by rw [hB, up_ne (by decide)]; exact t1
    have K : ∀ m6 w6, MS f n q6 m0 m6 w6 → P_X12_bikeLine_129 post (nI (5 * (40 + v 13 0))) m6 w6 mB := fun m6 w6 h6 => m_bike129 hn ha hv h4 h13 h6 hB hp
    have K0 : ¬ (q5.1 = 0 ∧ kd f n q5.2.2 = 2 ∧ stN v (vlT f n q5.2.2) = true) → P_X12_bikeLine_129 post (nI (5 * (40 + v 13 0))) m5 w5 mB := by
      intro c
      unfold lB2 at hq
      rw [if_neg c] at hq
      subst hq
      exact K m5 w5 h5
    have hk5 := kd_le f n q5.2.2
    have E : ∀ x2 : Int32, (x2 = 1 ∧ (∃ c, c < v 13 0 ∧ nI (v 22 c) = m5 5) ∨ x2 = 0 ∧ ∀ c, c < v 13 0 → nI (v 22 c) ≠ m5 5) → P_X12_bikeLine_105 post (nI (5 * (40 + v 13 0))) x2 m5 w5 mB := by
      intro x2 hx2
      by_cases z : q5.1 = 0
      · obtain ⟨-, g3, -, g5, -⟩ := h5.2.2.2.2.2.1 z
        have q3 : m5 3 = 2 ↔ kd f n q5.2.2 = 2 := by rw [g3]; exact kM_1 hk5 (c := 2) (by decide)
        refine ⟨fun q => absurd (h5.f0 z) q, fun _ => ⟨fun q => K0 (fun r => q (q3.mpr r.2.1)), fun q => ?_⟩⟩
        have k2 := q3.mp q
        rw [if_pos k2] at g5
        have hin : ∀ i, i < tl f n q5.2.2 → kd f n (q5.2.2 + i) = 2 := fun i hi => (tl_in hi (Or.inr k2)).trans k2
        have hle := vlM_le f q5.2.2 n _ hin
        have hb : vlT f n q5.2.2 = min 1000000 (vlM f q5.2.2 (tl f n q5.2.2)) := vl_both f q5.2.2 n _ hin
        have hst : stN v (vlT f n q5.2.2) = true ↔ ∃ c, c < v 13 0 ∧ nI (v 22 c) = m5 5 := by
          unfold stN
          simp only [decide_eq_true_eq]
          constructor
          · rintro ⟨c, hc, e⟩
            have b22 := (hv.2.2.2.2.1 c hc).2.2.1
            exact ⟨c, hc, by rw [g5, show v 22 c = vlM f q5.2.2 (tl f n q5.2.2) by omega]⟩
          · rintro ⟨c, hc, e⟩
            have b22 := (hv.2.2.2.2.1 c hc).2.2.1
            rw [g5, nI_eq (by omega) (by omega)] at e
            exact ⟨c, hc, by omega⟩
        rcases hx2 with ⟨e, ex⟩ | ⟨e, ex⟩
        · refine ⟨fun r => absurd (e.symm.trans r) (by decide), fun _ => ?_⟩
          have hs := hst.mpr ex
          unfold lB2 at hq
          rw [if_pos ⟨z, k2, hs⟩] at hq
          subst hq
          exact m_fails (c := 2) h5 (by decide) (by decide) (fun m6 h6 => K m6 w5 h6)
        · refine ⟨fun _ => K0 (fun r => ?_), fun r => absurd e r⟩
          obtain ⟨c, hc, ec⟩ := hst.mp r.2.2
          exact ex c hc ec
      · exact ⟨fun _ => K0 (fun r => z r.1), fun q => absurd q (h5.f1 z)⟩
    have L : ∀ (d i : Nat) (x2 : Int32), i + d = v 13 0 → (x2 = 1 ∧ (∃ c, c < i ∧ nI (v 22 c) = m5 5) ∨ x2 = 0 ∧ ∀ c, c < i → nI (v 22 c) ≠ m5 5) → P_X12_bikeLine_59 post (fun (x1_ : Int32) (x2_ : Int32) (ms : Nat → Int32) (mw : Nat → Int64) (ma : Nat → Nat → Int32) => P_X12_bikeLine_105 post x1_ x2_ ms mw ma) (nI (5 * (40 + v 13 0))) m5 w5 mB (d + 1) x2 (nI i) := by
      intro d
      induction d with
      | zero =>
        intro i x2 hi hx
        obtain rfl : i = v 13 0 := by omega
        exact ⟨fun _ => E x2 hx, fun c => absurd ((cmp_le e10 (by omega) (by omega)).mpr (Nat.le_refl _)) c⟩
      | succ d ih =>
        intro i x2 hi hx
        have e22 : mB 11 (5 * (40 + i) + 2) = nI (v 22 i) := by
          rw [hB, up_at, u_ne (by omega), u_ne (by omega)]
          exact (h4.1.2.2.2.1 i (by omega)).2.2.1
        refine ⟨fun c => absurd ((cmp_le e10 (by omega) (by omega)).mp c) (by omega), fun _ => ?_⟩
        rw [show (5 : Int32) * (40 + nI i) + 2 = nI (5 * (40 + i) + 2) by simp only [fa_lit, pk_mul, nI_add], nI_clamp (by omega), e22, nI_1]
        refine ⟨fun c => ih (i + 1) 1 (by omega) (Or.inl ⟨rfl, ?_⟩), fun c => ⟨vp_in_nI (by omega) (by decide), fun t => ih (i + 1) 0 (by omega) (Or.inr ⟨rfl, fun c' hc' => ?_⟩), fun t => ih (i + 1) 1 (by omega) (Or.inl ⟨rfl, i, by omega, t⟩)⟩⟩
        · rcases hx with ⟨-, c', hc', e⟩ | ⟨e, -⟩
          · exact ⟨c', by omega, e⟩
          · exact absurd e c
        · rcases hx with ⟨e, -⟩ | ⟨-, ex⟩
          · exact absurd (e.symm.trans c) (by decide)
          · by_cases w : c' = i
            · rw [w]; exact t
            · exact ex c' (by omega)
    exact ⟨v 13 0 + 1, L (v 13 0) 0 0 (by omega) (Or.inr ⟨rfl, fun c hc => by omega⟩)⟩
  intro x hx
  rw [t1, show (5 : Int32) * (40 + nI (v 13 0)) = nI (5 * (40 + v 13 0)) by simp only [fa_lit, pk_mul, nI_add]] at hx
  subst hx
  refine m_number_ (w := [119, 111, 114, 116, 104]) (lo := 0) (hi := 10000) hn ha h (by decide) (by decide) (by decide) (by decide) (fun m1 w1 h1 => ⟨vp_in_nI (by omega) (by decide), ?_⟩)
  rw [nI_clamp (by omega)]
  refine m_number_ (ma := va_up ma 11 (upd (ma 11) (5 * (40 + v 13 0)) _)) (w := [115, 101, 101, 109, 115]) (lo := 0) (hi := 10000) hn ha h1 (by decide) (by decide) (by decide) (by decide) (fun m2 w2 h2 => ?_)
  rw [show nI (5 * (40 + v 13 0)) + 1 = nI (5 * (40 + v 13 0) + 1) from nI_add _ 1, nI_clamp (by omega)]
  refine ⟨vp_in_nI (by omega) (by decide), m_asks (ma := va_up ma 11 (upd (upd (ma 11) (5 * (40 + v 13 0)) _) (5 * (40 + v 13 0) + 1) _)) (w := [97, 116]) hn ha h2 (by decide) (by decide) (fun m3 w3 h3 => ?_)⟩
  exact T _ _ _ m3 w3 h3 hq6 hp _ rfl
end M4
end
section
/-! a line of the class -/
def hd (f : Nat → Int32) (n : Nat) (ok : Bool) (c : Nat) (p : PS) : PS := if ok = true then (0, 0, adv f n p.2.2) else rF c p
def lampL (f : Nat → Int32) (n : Nat) (v : Rl) (q : PS) : Rl × PS := (aLamp v (lLamp f n v q).1 (lLamp f n v q).2.1, (lLamp f n v q).2.2)
def lockL (f : Nat → Int32) (n : Nat) (v : Rl) (q : PS) : Rl × PS := (aLock v (lLock f n q).1 (lLock f n q).2.1 (lLock f n q).2.2.1 (lLock f n q).2.2.2.1, (lLock f n q).2.2.2.2)
def bikeL (f : Nat → Int32) (n : Nat) (v : Rl) (q : PS) : Rl × PS := (aBike v (lB1 f n q).1 (lB1 f n q).2.1 (rN f n 0 (v 0 0) (lB2 f n v (lB1 f n q).2.2)).1 (lBk f n v (rN f n 0 (v 0 0) (lB2 f n v (lB1 f n q).2.2)).2).1 (rI f n [109, 97, 114, 107, 101, 100] (lBk f n v (rN f n 0 (v 0 0) (lB2 f n v (lB1 f n q).2.2)).2).2).1, (rI f n [109, 97, 114, 107, 101, 100] (lBk f n v (rN f n 0 (v 0 0) (lB2 f n v (lB1 f n q).2.2)).2).2).2)
def thiefL (f : Nat → Int32) (n : Nat) (v : Rl) (q : PS) : Rl × PS := (aThief v (lT1 f n q).1 (lT1 f n q).2.1 (lT1 f n q).2.2.1 (lTk f n v (lT1 f n q).2.2.2).1 (lTk f n v (lT1 f n q).2.2.2).2.1, (lTk f n v (lT1 f n q).2.2.2).2.2)
def markL (f : Nat → Int32) (n : Nat) (v : Rl) (q : PS) : Rl × PS := (aMark v (lMark f n q).1 (lMark f n q).2.1 (lMark f n q).2.2.1, (lMark f n q).2.2.2)
def watchL (f : Nat → Int32) (n : Nat) (v : Rl) (q : PS) : Rl × PS := (aWatch v (lWatch f n q).1 (lWatch f n q).2.1, (lWatch f n q).2.2)
def lLine (f : Nat → Int32) (n : Nat) (v : Rl) (p : PS) : Rl × PS := if v 2 0 = 0 then (aRail v (lRail f n p).1 (lRail f n p).2.1, (lRail f n p).2.2) else if tokIs f n p.2.2 [108, 97, 109, 112] then lampL f n v (hd f n (decide (v 11 0 < 4)) 3 p) else if tokIs f n p.2.2 [108, 111, 99, 107] then lockL f n v (hd f n (decide (v 12 0 < 5)) 3 p) else if tokIs f n p.2.2 [98, 105, 107, 101] then bikeL f n v (hd f n (decide (v 13 0 < 10)) 3 p) else if tokIs f n p.2.2 [116, 104, 105, 101, 102] then thiefL f n v (hd f n (decide (v 14 0 < 6)) 3 p) else if tokIs f n p.2.2 [109, 97, 114, 107] then markL f n v (hd f n (decide (v 3 0 = 0)) 2 p) else if tokIs f n p.2.2 [119, 97, 116, 99, 104] then watchL f n v (hd f n (decide (v 7 0 = 0)) 2 p) else (v, rF 1 p)
theorem rS_0 {f : Nat → Int32} {n : Nat} {p : PS} (h : (rS f n p).1 = 0) : p.1 = 0 := by
  by_cases c : p.1 = 0
  · exact c
  · unfold rS at h
    rw [if_neg c] at h
    exact h
section CX
variable {f : Nat → Int32} {n : Nat} {us : A1} {ua : A2} {p : PS} {rs : A1} {ra : A2} {v : Rl}
theorem c_isWordT (hn : n ≤ 1600) (ha : ∀ i, i < n → ua 0 i = f i) (h : CS f n p us) (h0 : p.1 = 0) {w : List Int32} (hw : okW w) {post : Int32 → Prop} (hy : tokIs f n p.2.2 w → post 1) (hno : ¬ tokIs f n p.2.2 w → post 0) : P_X8_isWord (ua 0) (us 3) (us 4) (us 5) w post := by
  obtain ⟨-, g3, g4, g5, -⟩ := h.2.2.2.2.2.1 h0
  rw [g3, g4, g5]
  exact c_isWord hn h.1 ha hw hy hno
theorem c_line260 (hn : n ≤ 1600) (ha : ∀ i, i < n → ua 0 i = f i) (h : CS f n p us) (hB : BOK ra) (hR : p.1 = 0 → RelC v rs ra) {post : A1 → A1 → A2 → Prop} (hp : ∀ us' rs' ra', CS f n (rS f n p) us' → BOK ra' → ((rS f n p).1 = 0 → RelC (aLine v) rs' ra') → post us' rs' ra') : P_X5_readLine_260 ua post us rs ra := by
  refine c_readSign hn ha h (fun us' h' x hx => hp us' _ ra h' hB (fun z => ?_))
  have R := hR (rS_0 z)
  rw [hx, rc_s R 2, nI_1]
  exact R.aLine
theorem hd_ne {c : Nat} (hc : c ≠ 0) (h0 : p.1 = 0) : (hd f n false c p).1 ≠ 0 := by
  unfold hd rF
  rw [if_neg (by decide), if_pos h0]
  exact hc
theorem c_headT (hn : n ≤ 1600) (ha : ∀ i, i < n → ua 0 i = f i) (h : CS f n p us) (h0 : p.1 = 0) {c : Nat} (hc : c ≠ 0) (hc4 : c < 4) {post : A1 → Prop} (hp : ∀ us', CS f n (hd f n true c p) us' → post us') : P_X5_readHead us ua 1 (nI c) post := c_readHead (b := 1) hn ha h h0 (by decide) hc hc4 hp
theorem c_headF (hn : n ≤ 1600) (ha : ∀ i, i < n → ua 0 i = f i) (h : CS f n p us) (h0 : p.1 = 0) {c : Nat} (hc : c ≠ 0) (hc4 : c < 4) {post : A1 → Prop} (hp : ∀ us', CS f n (hd f n false c p) us' → post us') : P_X5_readHead us ua 0 (nI c) post := c_readHead (b := 0) hn ha h h0 (by decide) hc hc4 hp
theorem c_lampT (hn : n ≤ 1600) (ha : ∀ i, i < n → ua 0 i = f i) (hv : okV v) (h : CS f n p us) (h0 : p.1 = 0) (hC : RelC v rs ra) (hok : v 11 0 < 4) {post : A1 → A1 → A2 → Prop} (hp : ∀ us' rs' ra', CS f n (rS f n (lampL f n v (hd f n true 3 p)).2) us' → BOK ra' → ((rS f n (lampL f n v (hd f n true 3 p)).2).1 = 0 → RelC (aLine (lampL f n v (hd f n true 3 p)).1) rs' ra') → post us' rs' ra') : P_X5_readLine_44 ua post 1 us rs ra :=
  c_headT (c := 3) hn ha h h0 (by decide) (by decide) (fun us1 h1 => c_readLamp hn ha hv h1 hC (fun z => hok) (fun us' rs' ra' a b c => c_line260 hn ha a b c hp))
theorem c_lampF (hn : n ≤ 1600) (ha : ∀ i, i < n → ua 0 i = f i) (hv : okV v) (h : CS f n p us) (h0 : p.1 = 0) (hC : RelC v rs ra) {post : A1 → A1 → A2 → Prop} (hp : ∀ us' rs' ra', CS f n (rS f n (lampL f n v (hd f n false 3 p)).2) us' → BOK ra' → ((rS f n (lampL f n v (hd f n false 3 p)).2).1 = 0 → RelC (aLine (lampL f n v (hd f n false 3 p)).1) rs' ra') → post us' rs' ra') : P_X5_readLine_44 ua post 0 us rs ra :=
  c_headF (c := 3) hn ha h h0 (by decide) (by decide) (fun us1 h1 => c_readLamp hn ha hv h1 hC (fun z => absurd z (hd_ne (by decide) h0)) (fun us' rs' ra' a b c => c_line260 hn ha a b c hp))
theorem c_lockT (hn : n ≤ 1600) (ha : ∀ i, i < n → ua 0 i = f i) (hv : okV v) (h : CS f n p us) (h0 : p.1 = 0) (hC : RelC v rs ra) (hok : v 12 0 < 5) {post : A1 → A1 → A2 → Prop} (hp : ∀ us' rs' ra', CS f n (rS f n (lockL f n v (hd f n true 3 p)).2) us' → BOK ra' → ((rS f n (lockL f n v (hd f n true 3 p)).2).1 = 0 → RelC (aLine (lockL f n v (hd f n true 3 p)).1) rs' ra') → post us' rs' ra') : P_X5_readLine_85 ua post 1 us rs ra :=
  c_headT (c := 3) hn ha h h0 (by decide) (by decide) (fun us1 h1 => c_readLock hn ha hv h1 hC (fun z => hok) (fun us' rs' ra' a b c => c_line260 hn ha a b c hp))
theorem c_lockF (hn : n ≤ 1600) (ha : ∀ i, i < n → ua 0 i = f i) (hv : okV v) (h : CS f n p us) (h0 : p.1 = 0) (hC : RelC v rs ra) {post : A1 → A1 → A2 → Prop} (hp : ∀ us' rs' ra', CS f n (rS f n (lockL f n v (hd f n false 3 p)).2) us' → BOK ra' → ((rS f n (lockL f n v (hd f n false 3 p)).2).1 = 0 → RelC (aLine (lockL f n v (hd f n false 3 p)).1) rs' ra') → post us' rs' ra') : P_X5_readLine_85 ua post 0 us rs ra :=
  c_headF (c := 3) hn ha h h0 (by decide) (by decide) (fun us1 h1 => c_readLock hn ha hv h1 hC (fun z => absurd z (hd_ne (by decide) h0)) (fun us' rs' ra' a b c => c_line260 hn ha a b c hp))
theorem c_bikeT (hn : n ≤ 1600) (ha : ∀ i, i < n → ua 0 i = f i) (hv : okV v) (h : CS f n p us) (h0 : p.1 = 0) (hC : RelC v rs ra) (hok : v 13 0 < 10) {post : A1 → A1 → A2 → Prop} (hp : ∀ us' rs' ra', CS f n (rS f n (bikeL f n v (hd f n true 3 p)).2) us' → BOK ra' → ((rS f n (bikeL f n v (hd f n true 3 p)).2).1 = 0 → RelC (aLine (bikeL f n v (hd f n true 3 p)).1) rs' ra') → post us' rs' ra') : P_X5_readLine_127 ua post 1 us rs ra := by
  dsimp only [bikeL] at hp
  exact c_headT (c := 3) hn ha h h0 (by decide) (by decide) (fun us1 h1 => c_readBike hn ha hv h1 hC (fun z => hok) rfl (fun us' rs' ra' a b c => c_line260 hn ha a b c hp))
theorem c_bikeF (hn : n ≤ 1600) (ha : ∀ i, i < n → ua 0 i = f i) (hv : okV v) (h : CS f n p us) (h0 : p.1 = 0) (hC : RelC v rs ra) {post : A1 → A1 → A2 → Prop} (hp : ∀ us' rs' ra', CS f n (rS f n (bikeL f n v (hd f n false 3 p)).2) us' → BOK ra' → ((rS f n (bikeL f n v (hd f n false 3 p)).2).1 = 0 → RelC (aLine (bikeL f n v (hd f n false 3 p)).1) rs' ra') → post us' rs' ra') : P_X5_readLine_127 ua post 0 us rs ra := by
  dsimp only [bikeL] at hp
  exact c_headF (c := 3) hn ha h h0 (by decide) (by decide) (fun us1 h1 => c_readBike hn ha hv h1 hC (fun z => absurd z (hd_ne (by decide) h0)) rfl (fun us' rs' ra' a b c => c_line260 hn ha a b c hp))
theorem c_thiefT (hn : n ≤ 1600) (ha : ∀ i, i < n → ua 0 i = f i) (hv : okV v) (h : CS f n p us) (h0 : p.1 = 0) (hC : RelC v rs ra) (hok : v 14 0 < 6) {post : A1 → A1 → A2 → Prop} (hp : ∀ us' rs' ra', CS f n (rS f n (thiefL f n v (hd f n true 3 p)).2) us' → BOK ra' → ((rS f n (thiefL f n v (hd f n true 3 p)).2).1 = 0 → RelC (aLine (thiefL f n v (hd f n true 3 p)).1) rs' ra') → post us' rs' ra') : P_X5_readLine_169 ua post 1 us rs ra := by
  dsimp only [thiefL] at hp
  exact c_headT (c := 3) hn ha h h0 (by decide) (by decide) (fun us1 h1 => c_readThief hn ha hv h1 hC (fun z => hok) (fun us' rs' ra' a b c => c_line260 hn ha a b c hp))
theorem c_thiefF (hn : n ≤ 1600) (ha : ∀ i, i < n → ua 0 i = f i) (hv : okV v) (h : CS f n p us) (h0 : p.1 = 0) (hC : RelC v rs ra) {post : A1 → A1 → A2 → Prop} (hp : ∀ us' rs' ra', CS f n (rS f n (thiefL f n v (hd f n false 3 p)).2) us' → BOK ra' → ((rS f n (thiefL f n v (hd f n false 3 p)).2).1 = 0 → RelC (aLine (thiefL f n v (hd f n false 3 p)).1) rs' ra') → post us' rs' ra') : P_X5_readLine_169 ua post 0 us rs ra := by
  dsimp only [thiefL] at hp
  exact c_headF (c := 3) hn ha h h0 (by decide) (by decide) (fun us1 h1 => c_readThief hn ha hv h1 hC (fun z => absurd z (hd_ne (by decide) h0)) (fun us' rs' ra' a b c => c_line260 hn ha a b c hp))
theorem c_markT (hn : n ≤ 1600) (ha : ∀ i, i < n → ua 0 i = f i) (hv : okV v) (h : CS f n p us) (h0 : p.1 = 0) (hC : RelC v rs ra) {post : A1 → A1 → A2 → Prop} (hp : ∀ us' rs' ra', CS f n (rS f n (markL f n v (hd f n true 2 p)).2) us' → BOK ra' → ((rS f n (markL f n v (hd f n true 2 p)).2).1 = 0 → RelC (aLine (markL f n v (hd f n true 2 p)).1) rs' ra') → post us' rs' ra') : P_X5_readLine_206 ua post 1 us rs ra :=
  c_headT (c := 2) hn ha h h0 (by decide) (by decide) (fun us1 h1 => c_readMark hn ha hv h1 hC (fun us' rs' a c => c_line260 hn ha a hC.bok (fun _ => c) hp))
theorem c_markF (hn : n ≤ 1600) (ha : ∀ i, i < n → ua 0 i = f i) (hv : okV v) (h : CS f n p us) (h0 : p.1 = 0) (hC : RelC v rs ra) {post : A1 → A1 → A2 → Prop} (hp : ∀ us' rs' ra', CS f n (rS f n (markL f n v (hd f n false 2 p)).2) us' → BOK ra' → ((rS f n (markL f n v (hd f n false 2 p)).2).1 = 0 → RelC (aLine (markL f n v (hd f n false 2 p)).1) rs' ra') → post us' rs' ra') : P_X5_readLine_206 ua post 0 us rs ra :=
  c_headF (c := 2) hn ha h h0 (by decide) (by decide) (fun us1 h1 => c_readMark hn ha hv h1 hC (fun us' rs' a c => c_line260 hn ha a hC.bok (fun _ => c) hp))
theorem c_watchT (hn : n ≤ 1600) (ha : ∀ i, i < n → ua 0 i = f i) (hv : okV v) (h : CS f n p us) (h0 : p.1 = 0) (hC : RelC v rs ra) {post : A1 → A1 → A2 → Prop} (hp : ∀ us' rs' ra', CS f n (rS f n (watchL f n v (hd f n true 2 p)).2) us' → BOK ra' → ((rS f n (watchL f n v (hd f n true 2 p)).2).1 = 0 → RelC (aLine (watchL f n v (hd f n true 2 p)).1) rs' ra') → post us' rs' ra') : P_X5_readLine_243 ua post 1 us rs ra :=
  c_headT (c := 2) hn ha h h0 (by decide) (by decide) (fun us1 h1 => c_readWatch hn ha hv h1 hC (fun us' rs' a c => c_line260 hn ha a hC.bok (fun _ => c) hp))
theorem c_watchF (hn : n ≤ 1600) (ha : ∀ i, i < n → ua 0 i = f i) (hv : okV v) (h : CS f n p us) (h0 : p.1 = 0) (hC : RelC v rs ra) {post : A1 → A1 → A2 → Prop} (hp : ∀ us' rs' ra', CS f n (rS f n (watchL f n v (hd f n false 2 p)).2) us' → BOK ra' → ((rS f n (watchL f n v (hd f n false 2 p)).2).1 = 0 → RelC (aLine (watchL f n v (hd f n false 2 p)).1) rs' ra') → post us' rs' ra') : P_X5_readLine_243 ua post 0 us rs ra :=
  c_headF (c := 2) hn ha h h0 (by decide) (by decide) (fun us1 h1 => c_readWatch hn ha hv h1 hC (fun us' rs' a c => c_line260 hn ha a hC.bok (fun _ => c) hp))
end CX
end
section
/-! any line of the class -/
section CY
variable {f : Nat → Int32} {n : Nat} {us : A1} {ua : A2} {p : PS} {rs : A1} {ra : A2} {v : Rl}
theorem c_readLine (hn : n ≤ 1600) (ha : ∀ i, i < n → ua 0 i = f i) (hv : okV v) (h : CS f n p us) (h0 : p.1 = 0) (hC : RelC v rs ra) {post : A1 → A1 → A2 → Prop} (hp : ∀ us' rs' ra', CS f n (rS f n (lLine f n v p).2) us' → BOK ra' → ((rS f n (lLine f n v p).2).1 = 0 → RelC (aLine (lLine f n v p).1) rs' ra') → post us' rs' ra') : P_X5_readLine us ua rs ra post := by
  have h2 := ok2 hv
  have h11 : v 11 0 ≤ 5 := hv.1.2.2.2.2.2.2.2.2.2.2.2.1
  have h12 := ok12 hv
  have h13 := ok13 hv
  have h14 := ok14 hv
  have h3 : v 3 0 ≤ 1 := hv.1.2.2.2.1
  have h7 := ok7 hv
  by_cases z : v 2 0 = 0
  · have e : lLine f n v p = (aRail v (lRail f n p).1 (lRail f n p).2.1, (lRail f n p).2.2) := by unfold lLine; rw [if_pos z]
    rw [e] at hp
    refine ⟨fun q => absurd (by rw [rc_s hC 2, z]; rfl) q, fun _ => c_readRail hn ha hv h hC (fun us' rs' a c => c_line260 hn ha a hC.bok (fun _ => c) hp)⟩
  · refine ⟨fun _ => ?_, fun q => absurd ((nI_eq (b := 0) (by omega) (by decide)).mp ((rc_s hC 2).symm.trans q)) z⟩
    refine c_isWordT hn ha h h0 (w := [108, 97, 109, 112]) (by decide) (fun t => b1f ?_) (fun t0 => b0f ?_)
    · have e : lLine f n v p = lampL f n v (hd f n (decide (v 11 0 < 4)) 3 p) := by unfold lLine; rw [if_neg z, if_pos t]
      rw [e] at hp
      rw [rc_s hC 11, show ((4 : Int32) ≤ nI (v 11 0)) = (nI 4 ≤ nI (v 11 0)) from rfl, nI_leI (by decide) (by omega)]
      refine ⟨fun q => ?_, fun q => ?_⟩
      · rw [show decide (v 11 0 < 4) = false from decide_eq_false (by omega)] at hp
        exact c_lampF hn ha hv h h0 hC hp
      · rw [show decide (v 11 0 < 4) = true from decide_eq_true (by omega)] at hp
        exact c_lampT hn ha hv h h0 hC (by omega) hp
    refine c_isWordT hn ha h h0 (w := [108, 111, 99, 107]) (by decide) (fun t => b1f ?_) (fun t1 => b0f ?_)
    · have e : lLine f n v p = lockL f n v (hd f n (decide (v 12 0 < 5)) 3 p) := by unfold lLine; rw [if_neg z, if_neg t0, if_pos t]
      rw [e] at hp
      rw [rc_s hC 12, show ((5 : Int32) ≤ nI (v 12 0)) = (nI 5 ≤ nI (v 12 0)) from rfl, nI_leI (by decide) (by omega)]
      refine ⟨fun q => ?_, fun q => ?_⟩
      · rw [show decide (v 12 0 < 5) = false from decide_eq_false (by omega)] at hp
        exact c_lockF hn ha hv h h0 hC hp
      · rw [show decide (v 12 0 < 5) = true from decide_eq_true (by omega)] at hp
        exact c_lockT hn ha hv h h0 hC (by omega) hp
    refine c_isWordT hn ha h h0 (w := [98, 105, 107, 101]) (by decide) (fun t => b1f ?_) (fun t2 => b0f ?_)
    · have e : lLine f n v p = bikeL f n v (hd f n (decide (v 13 0 < 10)) 3 p) := by unfold lLine; rw [if_neg z, if_neg t0, if_neg t1, if_pos t]
      rw [e] at hp
      rw [rc_s hC 13, show ((10 : Int32) ≤ nI (v 13 0)) = (nI 10 ≤ nI (v 13 0)) from rfl, nI_leI (by decide) (by omega)]
      refine ⟨fun q => ?_, fun q => ?_⟩
      · rw [show decide (v 13 0 < 10) = false from decide_eq_false (by omega)] at hp
        exact c_bikeF hn ha hv h h0 hC hp
      · rw [show decide (v 13 0 < 10) = true from decide_eq_true (by omega)] at hp
        exact c_bikeT hn ha hv h h0 hC (by omega) hp
    refine c_isWordT hn ha h h0 (w := [116, 104, 105, 101, 102]) (by decide) (fun t => b1f ?_) (fun t3 => b0f ?_)
    · have e : lLine f n v p = thiefL f n v (hd f n (decide (v 14 0 < 6)) 3 p) := by unfold lLine; rw [if_neg z, if_neg t0, if_neg t1, if_neg t2, if_pos t]
      rw [e] at hp
      rw [rc_s hC 14, show ((6 : Int32) ≤ nI (v 14 0)) = (nI 6 ≤ nI (v 14 0)) from rfl, nI_leI (by decide) (by omega)]
      refine ⟨fun q => ?_, fun q => ?_⟩
      · rw [show decide (v 14 0 < 6) = false from decide_eq_false (by omega)] at hp
        exact c_thiefF hn ha hv h h0 hC hp
      · rw [show decide (v 14 0 < 6) = true from decide_eq_true (by omega)] at hp
        exact c_thiefT hn ha hv h h0 hC (by omega) hp
    refine c_isWordT hn ha h h0 (w := [109, 97, 114, 107]) (by decide) (fun t => b1f ?_) (fun t4 => b0f ?_)
    · have e : lLine f n v p = markL f n v (hd f n (decide (v 3 0 = 0)) 2 p) := by unfold lLine; rw [if_neg z, if_neg t0, if_neg t1, if_neg t2, if_neg t3, if_pos t]
      rw [e] at hp
      rw [rc_s hC 3, show (nI (v 3 0) = (0 : Int32)) = (nI (v 3 0) = nI 0) from rfl, nI_eq (by omega) (by decide)]
      refine ⟨fun q => ?_, fun q => ?_⟩
      · rw [show decide (v 3 0 = 0) = false from decide_eq_false (by omega)] at hp
        exact c_markF hn ha hv h h0 hC hp
      · rw [show decide (v 3 0 = 0) = true from decide_eq_true (by omega)] at hp
        exact c_markT hn ha hv h h0 hC hp
    refine c_isWordT hn ha h h0 (w := [119, 97, 116, 99, 104]) (by decide) (fun t => b1f ?_) (fun t5 => b0f ?_)
    · have e : lLine f n v p = watchL f n v (hd f n (decide (v 7 0 = 0)) 2 p) := by unfold lLine; rw [if_neg z, if_neg t0, if_neg t1, if_neg t2, if_neg t3, if_neg t4, if_pos t]
      rw [e] at hp
      rw [rc_s hC 7, show (nI (v 7 0) = (0 : Int32)) = (nI (v 7 0) = nI 0) from rfl, nI_eq (by omega) (by decide)]
      refine ⟨fun q => ?_, fun q => ?_⟩
      · rw [show decide (v 7 0 = 0) = false from decide_eq_false (by omega)] at hp
        exact c_watchF hn ha hv h h0 hC hp
      · rw [show decide (v 7 0 = 0) = true from decide_eq_true (by omega)] at hp
        exact c_watchT hn ha hv h h0 hC hp
    have e : lLine f n v p = (v, rF 1 p) := by unfold lLine; rw [if_neg z, if_neg t0, if_neg t1, if_neg t2, if_neg t3, if_neg t4, if_neg t5]
    rw [e] at hp
    exact c_fail (c := 1) h (by decide) (by decide) (fun us' h' => c_line260 hn ha h' hC.bok (fun _ => hC) hp)
end CY
end
