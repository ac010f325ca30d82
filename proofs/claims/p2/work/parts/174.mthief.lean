/-! the reference's line of a thief -/
theorem vup3 {ma : A2} {r s : Nat} (h : r ≠ s) {u g k : Nat → Int32} : va_up (va_up (va_up ma r u) s g) r k = va_up (va_up ma s g) r k := by
  funext j
  by_cases c : j = r
  · rw [c, up_at, up_at]
  · rw [up_ne c, up_ne c]
    by_cases d : j = s
    · rw [d, up_at, up_at]
    · rw [up_ne d, up_ne d, up_ne c]
section M3
variable {f : Nat → Int32} {n : Nat} {m0 ms : A1} {mw : Nat → Int64} {ma : A2} {p : PS} {v : Rl}
theorem m_thiefLine (hn : n ≤ 1600) (ha : ∀ i, i < n → ma 2 i = f i) (hv : okV v) (h : MS f n p m0 ms mw) (h4 : R4 v ma) (h14 : v 14 0 < 6) {post : A1 → (Nat → Int64) → A2 → Prop} (hp : ∀ mt mw' mb, MS f n (lTk f n v (lT1 f n p).2.2.2).2.2 m0 mt mw' → F4 ma mb → ((lTk f n v (lT1 f n p).2.2.2).2.2.1 = 0 → R4 (aThief v (lT1 f n p).1 (lT1 f n p).2.1 (lT1 f n p).2.2.1 (lTk f n v (lT1 f n p).2.2.2).1 (lTk f n v (lT1 f n p).2.2.2).2.1) mb) → post mt mw' mb) : P_X12_thiefLine ms mw ma post := by
  have h13' := ok13 hv
  have t1 : ma 12 4 = nI (v 14 0) := h4.2.1.1
  have e10 : ma 10 4 = nI (v 13 0) := h4.1.1.2.2.2.2
  have T : ∀ (a b c : Nat) (q : PS) (m3 : A1) (w3 : Nat → Int64), MS f n q m0 m3 w3 → (∀ mt mw' mb, MS f n (lTk f n v q).2.2 m0 mt mw' → F4 ma mb → ((lTk f n v q).2.2.1 = 0 → R4 (aThief v a b c (lTk f n v q).1 (lTk f n v q).2.1) mb) → post mt mw' mb) → ∀ mA : A2, mA = va_up ma 13 (upd (upd (upd (ma 13) (5 * (24 + v 14 0)) (nI a)) (5 * (24 + v 14 0) + 1) (nI b)) (5 * (24 + v 14 0) + 2) (nI c)) → P_X12_is m3 w3 43544 (fun (r20 : Int32) => (((r20 = 0) → P_X12_is m3 w3 1132 (fun (r22 : Int32) => (((r22 = 0) → P_X12_is m3 w3 212672 (fun (r24 : Int32) => (((r24 = 0) → P_X12_thiefLine_106 post (nI (5 * (24 + v 14 0))) (-1) m3 w3 mA) ∧ ((¬ r24 = 0) → P_X12_thiefLine_106 post (nI (5 * (24 + v 14 0))) 2 m3 w3 mA)))) ∧ ((¬ r22 = 0) → P_X12_thiefLine_106 post (nI (5 * (24 + v 14 0))) 1 m3 w3 mA)))) ∧ ((¬ r20 = 0) → P_X12_thiefLine_106 post (nI (5 * (24 + v 14 0))) 0 m3 w3 mA))) := by
    intro a b c q m3 w3 h3 hp mA hmA
    have e2 : mA 2 = ma 2 := by rw [hmA]; exact up_ne (by decide)
    have e12 : mA 12 = ma 12 := by rw [hmA]; exact up_ne (by decide)
    have e13 : mA 13 = upd (upd (upd (ma 13) (5 * (24 + v 14 0)) (nI a)) (5 * (24 + v 14 0) + 1) (nI b)) (5 * (24 + v 14 0) + 2) (nI c) := by rw [hmA]; exact up_at
    have e10' : mA 10 4 = nI (v 13 0) := by rw [hmA, up_ne (by decide)]; exact e10
    have ha' : ∀ i, i < n → mA 2 i = f i := fun i hi => by rw [e2]; exact ha i hi
    have x3 : nI (5 * (24 + v 14 0)) + 3 = nI (5 * (24 + v 14 0) + 3) := nI_add _ 3
    have x4 : nI (5 * (24 + v 14 0)) + 4 = nI (5 * (24 + v 14 0) + 4) := nI_add _ 4
    have F : ∀ (kI jI : Int32) (mt : A1) (mw' : Nat → Int64), MS f n (lTk f n v q).2.2 m0 mt mw' → ((lTk f n v q).2.2.1 = 0 → kI = nI (lTk f n v q).1 ∧ jI = nI (lTk f n v q).2.1 - 1) → post mt mw' (va_up (va_up mA 12 (upd (mA 12) 4 ((mA 12 4) + 1))) 13 (upd (upd (mA 13) (5 * (24 + v 14 0) + 3) kI) (5 * (24 + v 14 0) + 4) jI)) := by
      intro kI jI mt mw' hMS hk
      rw [e12, e13, t1, nI_1, hmA, vup3 (by decide)]
      refine hp mt mw' _ hMS F4.thief (fun z => ?_)
      obtain ⟨k1, k2⟩ := hk z
      rw [k1, k2]
      exact h4.thief h14 a b c _ _
    have K128 : ∀ (kI : Int32) (mt : A1) (mw' : Nat → Int64), ¬ kI = 2 → MS f n (lTk f n v q).2.2 m0 mt mw' → ((lTk f n v q).2.2.1 = 0 → kI = nI (lTk f n v q).1 ∧ (-1 : Int32) = nI (lTk f n v q).2.1 - 1) → P_X12_thiefLine_128 post (nI (5 * (24 + v 14 0))) kI mt mw' mA := by
      intro kI mt mw' k2 hMS hk
      unfold P_X12_thiefLine_128
      rw [x3, x4, nI_clamp (by omega), nI_clamp (by omega)]
      exact ⟨vp_in_nI (by omega) (by decide), fun _ => ⟨vp_in_nI (by omega) (by decide), F kI (-1) mt mw' hMS hk⟩, fun z => absurd z k2⟩
    refine m_is (w := [98, 101, 115, 116]) h3 (by decide) (by decide) (fun h0 t => b1f ?_) (fun tA => b0f ?_)
    · have eb : rI f n [98, 101, 115, 116] q = (1, 0, 0, adv f n q.2.2) := by unfold rI; rw [if_pos ⟨h0, t⟩]
      have eT : lTk f n v q = (0, 0, 0, 0, adv f n q.2.2) := by unfold lTk; rw [eb]; rfl
      refine ⟨fun _ => ⟨fun z => absurd (h3.f0 h0) z, fun _ => m_nextT hn ha' h3 h0 (fun m4 w4 h4' => K128 0 m4 w4 (by decide) (by rw [eT]; exact h4') (fun _ => by rw [eT]; exact ⟨rfl, rfl⟩))⟩, fun z => absurd z (by decide)⟩
    · have eb : rI f n [98, 101, 115, 116] q = (0, q) := by unfold rI; rw [if_neg tA]
      refine m_is (w := [97, 110, 121]) h3 (by decide) (by decide) (fun h0 t => b1f ?_) (fun tB => b0f ?_)
      · have ea : rI f n [97, 110, 121] q = (1, 0, 0, adv f n q.2.2) := by unfold rI; rw [if_pos ⟨h0, t⟩]
        have eT : lTk f n v q = (1, 0, 0, 0, adv f n q.2.2) := by unfold lTk; rw [eb, if_pos rfl, ea]; rfl
        refine ⟨fun _ => ⟨fun z => absurd (h3.f0 h0) z, fun _ => m_nextT hn ha' h3 h0 (fun m4 w4 h4' => K128 1 m4 w4 (by decide) (by rw [eT]; exact h4') (fun _ => by rw [eT]; exact ⟨rfl, rfl⟩))⟩, fun z => absurd z (by decide)⟩
      · have ea : rI f n [97, 110, 121] q = (0, q) := by unfold rI; rw [if_neg tB]
        have eT : lTk f n v q = (2, (rN f n 0 (v 13 0) (rW f n [106, 117, 115, 116] q)).1 + 1, (rN f n 0 (v 13 0) (rW f n [106, 117, 115, 116] q)).2) := by unfold lTk; rw [eb, if_pos rfl, ea, if_pos rfl]
        refine m_is (w := [106, 117, 115, 116]) h3 (by decide) (by decide) (fun h0 t => b1f ?_) (fun tC => b0f ?_)
        · have ew : rW f n [106, 117, 115, 116] q = (0, 0, adv f n q.2.2) := by unfold rW; rw [if_pos h0, if_pos t]
          rw [ew] at eT
          refine ⟨fun _ => ⟨fun z => absurd (h3.f0 h0) z, fun _ => m_nextT hn ha' h3 h0 (fun m4 w4 h4' => ?_)⟩, fun z => absurd z (by decide)⟩
          unfold P_X12_thiefLine_128
          rw [x3, x4, nI_clamp (by omega), nI_clamp (by omega), e10']
          refine ⟨vp_in_nI (by omega) (by decide), fun z => absurd rfl z, fun _ => m_number (ma := va_up mA 13 _) (lo := 0) (hi := v 13 0) hn (fun i hi => by rw [up_ne (by decide)]; exact ha' i hi) h4' (by decide) (by omega) (fun m5 w5 h5 => ⟨vp_in_nI (by omega) (by decide), F 2 _ m5 w5 (by rw [eT]; exact h5) (fun _ => ?_)⟩)⟩
          rw [eT]
          exact ⟨rfl, (nI_pre (Nat.succ_pos _)).symm⟩
        · have ew : rW f n [106, 117, 115, 116] q = rF 1 q := by
            unfold rW rF
            by_cases c0 : q.1 = 0
            · rw [if_pos c0, if_pos c0, if_neg (fun r => tC ⟨c0, r⟩)]
            · rw [if_neg c0, if_neg c0]
          have hne : (rF 1 q).1 ≠ 0 := by
            unfold rF
            by_cases c0 : q.1 = 0
            · rw [if_pos c0]; exact (show (1 : Nat) ≠ 0 by decide)
            · rw [if_neg c0]; exact c0
          have eN : (rN f n 0 (v 13 0) (rF 1 q)).2 = rF 1 q := by unfold rN; rw [if_neg hne]
          rw [ew] at eT
          refine ⟨fun z => absurd rfl z, fun _ => m_fails (c := 1) h3 (by decide) (by decide) (fun m4 h4' => ⟨fun _ => K128 (-1) m4 w3 (by decide) (by rw [eT]; show MS f n (rN f n 0 (v 13 0) (rF 1 q)).2 m0 m4 w3; rw [eN]; exact h4') (fun z => ?_), fun z => absurd z (h4'.f1 hne)⟩)⟩
          rw [eT] at z
          have z' : (rN f n 0 (v 13 0) (rF 1 q)).2.1 = 0 := z
          rw [eN] at z'
          exact absurd z' hne
  intro x hx
  rw [t1, show (5 : Int32) * (24 + nI (v 14 0)) = nI (5 * (24 + v 14 0)) by simp only [fa_lit, pk_mul, nI_add]] at hx
  subst hx
  refine m_number_ (w := [116, 111, 111, 108]) (lo := 0) (hi := 3) hn ha h (by decide) (by decide) (by decide) (by decide) (fun m1 w1 h1 => ⟨vp_in_nI (by omega) (by decide), ?_⟩)
  rw [nI_clamp (by omega)]
  refine m_number_ (ma := va_up ma 13 (upd (ma 13) (5 * (24 + v 14 0)) _)) (w := [99, 111, 109, 101, 115]) (lo := 0) (hi := 101) hn ha h1 (by decide) (by decide) (by decide) (by decide) (fun m2 w2 h2 => ?_)
  rw [show nI (5 * (24 + v 14 0)) + 1 = nI (5 * (24 + v 14 0) + 1) from nI_add _ 1, show nI (5 * (24 + v 14 0)) + 2 = nI (5 * (24 + v 14 0) + 2) from nI_add _ 2, nI_clamp (by omega), nI_clamp (by omega)]
  refine ⟨vp_in_nI (by omega) (by decide), m_number_ (ma := va_up ma 13 (upd (upd (ma 13) (5 * (24 + v 14 0)) _) (5 * (24 + v 14 0) + 1) _)) (w := [102, 101, 97, 114, 115]) (lo := 0) (hi := 100) hn ha h2 (by decide) (by decide) (by decide) (by decide) (fun m3 w3 h3 => ⟨vp_in_nI (by omega) (by decide), ?_⟩)⟩
  exact T _ _ _ _ m3 w3 h3 hp _ rfl
end M3
