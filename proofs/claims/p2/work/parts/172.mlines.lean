/-! the reference's lines -/
def wd (j : Nat) : Nat := if j = 7 then 8 else if j = 9 then 20 else if j = 11 then 50 else if j = 13 then 30 else if j = 14 then 7 else if j = 16 then 17 else 1
/-- what stays while row 4 is read -/
def F4 (ma mb : A2) : Prop := ∀ j x, (j < 3 ∨ 16 < j ∨ (j ≠ 15 ∧ x < 4 * wd j)) → mb j x = ma j x
theorem F4.refl (ma : A2) : F4 ma ma := fun _ _ _ => rfl
theorem F4.trans {ma mb mc : A2} (h : F4 ma mb) (g : F4 mb mc) : F4 ma mc := fun j x q => (g j x q).trans (h j x q)
theorem F4.up {ma : A2} {r i : Nat} (h3 : 3 ≤ r) (h16 : r ≤ 16) (hi : r = 15 ∨ 4 * wd r ≤ i) (y : Int32) : F4 ma (va_up ma r (upd (ma r) i y)) := fun j x q => by
  by_cases c : j = r
  · subst c
    rw [up_at, u_ne (by omega)]
  · rw [up_ne c]
theorem F4.row {ma mb : A2} (h : F4 ma mb) {g : Nat → Int32} {r i : Nat} (h3 : 3 ≤ r) (h16 : r ≤ 16) (hg : mb r = g) (hi : r = 15 ∨ 4 * wd r ≤ i) (y : Int32) : F4 ma (va_up mb r (upd g i y)) := by
  subst hg
  exact h.trans (F4.up h3 h16 hi y)
theorem F4.up2 {ma : A2} {r s : Nat} {g k : Nat → Int32} (hr : 3 ≤ r ∧ r ≤ 16) (hs : 3 ≤ s ∧ s ≤ 16) (hg : ∀ x, x < 4 * wd r → g x = ma r x) (hk : s = 15 ∨ ∀ x, x < 4 * wd s → k x = ma s x) : F4 ma (va_up (va_up ma r g) s k) := fun j x q => by
  by_cases c : j = s
  · subst c
    rw [up_at]
    rcases hk with e | e
    · omega
    · exact e x (by omega)
  · rw [up_ne c]
    by_cases d : j = r
    · subst d
      rw [up_at]
      exact hg x (by omega)
    · rw [up_ne d]
theorem F4.two {ma mb : A2} (h : F4 ma mb) : mb 2 = ma 2 := funext fun x => h 2 x (Or.inl (by decide))
def R4 (v : Rl) (ma : A2) : Prop := RelN v 4 ma ∧ RelT v 4 ma ∧ RelP v 4 ma ∧ RelY v 4 ma ∧ ma 15 8 = nI (v 3 0) ∧ ma 15 9 = nI (v 7 0)
section ML
variable {f : Nat → Int32} {n : Nat} {m0 ms : A1} {mw : Nat → Int64} {ma : A2} {p : PS} {v : Rl}
theorem m_railLine (hn : n ≤ 1600) (ha : ∀ i, i < n → ma 2 i = f i) (h : MS f n p m0 ms mw) (h4 : R4 v ma) {post : A1 → (Nat → Int64) → A2 → Prop} (hp : ∀ mt mw' mb, MS f n (lRail f n p).2.2 m0 mt mw' → F4 ma mb → R4 (aRail v (lRail f n p).1 (lRail f n p).2.1) mb → post mt mw' mb) : P_X12_railLine ms mw ma post := by
  refine m_asks (w := [114, 97, 105, 108]) hn ha h (by decide) (by decide) (fun m1 w1 h1 => m_number_ (w := [112, 108, 97, 99, 101, 115]) (lo := 1) (hi := 21) hn ha h1 (by decide) (by decide) (by decide) (by decide) (fun m2 w2 h2 => m_number_ (ma := va_up ma 4 (upd (ma 4) 4 _)) (w := [110, 105, 103, 104, 116, 115]) (lo := 1) (hi := 61) hn ha h2 (by decide) (by decide) (by decide) (by decide) (fun m3 w3 h3 => hp m3 w3 _ h3 ?_ ?_)))
  · exact ((F4.refl ma).row (by decide) (by decide) rfl (Or.inr (by decide)) _).row (by decide) (by decide) rfl (Or.inr (by decide)) _
  · obtain ⟨⟨⟨a1, a2, a3, a4, a5⟩, b1⟩, hT, hP, hY, o1, o2⟩ := h4
    refine ⟨⟨⟨a1, ?_, ?_, a4, a5⟩, b1⟩, hT, hP, hY, o1, o2⟩
    · show upd (ma 4) 4 (nI (lRail f n p).1) 4 = nI (lRail f n p).1
      rw [u_at]
    · show upd (ma 5) 4 (nI (lRail f n p).2.1) 4 = nI (lRail f n p).2.1
      rw [u_at]
theorem m_lampLine (hn : n ≤ 1600) (ha : ∀ i, i < n → ma 2 i = f i) (hv : okV v) (h : MS f n p m0 ms mw) (h4 : R4 v ma) (h11 : v 11 0 < 4) {post : A1 → (Nat → Int64) → A2 → Prop} (hp : ∀ mt mw' mb, MS f n (lLamp f n v p).2.2 m0 mt mw' → F4 ma mb → R4 (aLamp v (lLamp f n v p).1 (lLamp f n v p).2.1) mb → post mt mw' mb) : P_X12_lampLine ms mw ma post := by
  have h0 := ok0 hv
  obtain ⟨hN, hT, ⟨p1, p2, p3⟩, hY, o1, o2⟩ := h4
  have e4 : ma 4 4 = nI (v 0 0) := hN.1.2.1
  intro x hx
  rw [p1, show (2 : Int32) * (16 + nI (v 11 0)) = nI (2 * (16 + v 11 0)) by simp only [fa_lit, pk_mul, nI_add]] at hx
  subst hx
  rw [e4, p1]
  refine m_number_ (w := [97, 116]) (lo := 0) (hi := v 0 0) hn ha h (by decide) (by decide) (by decide) (by omega) (fun m2 w2 h2 => ⟨vp_in_nI (by omega) (by decide), ?_⟩)
  rw [nI_clamp (by omega)]
  refine m_number_ (ma := va_up ma 7 (upd (ma 7) (2 * (16 + v 11 0)) _)) (w := [98, 114, 105, 103, 104, 116]) (lo := 0) (hi := 100) hn ha h2 (by decide) (by decide) (by decide) (by decide) (fun m3 w3 h3 => ?_)
  rw [nI_1, nI_1, nI_clamp (by omega)]
  refine ⟨vp_in_nI (by omega) (by decide), hp m3 w3 _ h3 ?_ ⟨hN, hT, ⟨?_, ?_, fun k hk => ?_⟩, hY, o1, o2⟩⟩
  · refine F4.up2 (by decide) (by decide) (fun x hx => u_ne ?_) (Or.inr (fun x hx => ?_))
    · have : x < 4 := hx
      omega
    · have : x < 32 := hx
      rw [u_ne (by omega), u_ne (by omega)]
  · show upd (ma 6) 4 (nI (v 11 0 + 1)) 4 = nI (v 11 0 + 1)
    rw [u_at]
  · show v 11 0 + 1 ≤ 4
    omega
  · have hk' : k < v 11 0 + 1 := hk
    show upd (upd (ma 7) (2 * (16 + v 11 0)) (nI (lLamp f n v p).1)) (2 * (16 + v 11 0) + 1) (nI (lLamp f n v p).2.1) (2 * (4 * 4 + k)) = nI (if k = v 11 0 then (lLamp f n v p).1 else v 16 k) ∧ upd (upd (ma 7) (2 * (16 + v 11 0)) (nI (lLamp f n v p).1)) (2 * (16 + v 11 0) + 1) (nI (lLamp f n v p).2.1) (2 * (4 * 4 + k) + 1) = nI (if k = v 11 0 then (lLamp f n v p).2.1 else v 17 k)
    by_cases c : k = v 11 0
    · rw [c, u_ne (by omega), show 2 * (4 * 4 + v 11 0) = 2 * (16 + v 11 0) by omega, u_at, u_at, if_pos rfl, if_pos rfl]
      exact ⟨rfl, rfl⟩
    · rw [u_ne (by omega), u_ne (by omega), u_ne (by omega), u_ne (by omega), if_neg c, if_neg c]
      exact p3 k (by omega)
theorem m_lockLine (hn : n ≤ 1600) (ha : ∀ i, i < n → ma 2 i = f i) (h : MS f n p m0 ms mw) (h4 : R4 v ma) (h12 : v 12 0 < 5) {post : A1 → (Nat → Int64) → A2 → Prop} (hp : ∀ mt mw' mb, MS f n (lLock f n p).2.2.2.2 m0 mt mw' → F4 ma mb → R4 (aLock v (lLock f n p).1 (lLock f n p).2.1 (lLock f n p).2.2.1 (lLock f n p).2.2.2.1) mb → post mt mw' mb) : P_X12_lockLine ms mw ma post := by
  obtain ⟨⟨⟨a1, a2, a3, a4, a5⟩, b1, c1, d1, e1⟩, hT, hP, hY, o1, o2⟩ := h4
  intro x hx
  rw [a4, show (4 : Int32) * (20 + nI (v 12 0)) = nI (4 * (20 + v 12 0)) by simp only [fa_lit, pk_mul, nI_add]] at hx
  subst hx
  rw [a4]
  refine m_number_ (w := [112, 114, 105, 99, 101]) (lo := 0) (hi := 1000) hn ha h (by decide) (by decide) (by decide) (by decide) (fun m2 w2 h2 => ⟨vp_in_nI (by omega) (by decide), ?_⟩)
  rw [nI_clamp (by omega)]
  refine m_number_ (ma := va_up ma 9 (upd (ma 9) (4 * (20 + v 12 0)) _)) (w := [99, 117, 116, 115]) (lo := 1) (hi := 1000) hn ha h2 (by decide) (by decide) (by decide) (by decide) (fun m3 w3 h3 => ?_)
  rw [show nI (4 * (20 + v 12 0)) + 1 = nI (4 * (20 + v 12 0) + 1) from nI_add _ 1, show nI (4 * (20 + v 12 0)) + 2 = nI (4 * (20 + v 12 0) + 2) from nI_add _ 2, show nI (4 * (20 + v 12 0)) + 3 = nI (4 * (20 + v 12 0) + 3) from nI_add _ 3, nI_clamp (by omega), nI_clamp (by omega), nI_clamp (by omega), nI_1]
  refine ⟨vp_in_nI (by omega) (by decide), m_number (ma := va_up ma 9 (upd (upd (ma 9) (4 * (20 + v 12 0)) _) (4 * (20 + v 12 0) + 1) _)) (lo := 1) (hi := 1000) hn ha h3 (by decide) (by decide) (fun m4 w4 h4 => ⟨vp_in_nI (by omega) (by decide), m_number (ma := va_up ma 9 (upd (upd (upd (ma 9) (4 * (20 + v 12 0)) _) (4 * (20 + v 12 0) + 1) _) (4 * (20 + v 12 0) + 2) _)) (lo := 1) (hi := 1000) hn ha h4 (by decide) (by decide) (fun m5 w5 h5 => ⟨vp_in_nI (by omega) (by decide), hp m5 w5 _ h5 ?_ ⟨⟨⟨a1, a2, a3, ?_, a5⟩, fun k hk => ?_, fun k i hk hi => ?_, d1, e1⟩, hT, hP, hY, o1, o2⟩⟩)⟩)⟩
  · refine F4.up2 (by decide) (by decide) (fun x hx => u_ne ?_) (Or.inr (fun x hx => ?_))
    · have : x < 4 := hx
      omega
    · have : x < 80 := hx
      rw [u_ne (by omega), u_ne (by omega), u_ne (by omega), u_ne (by omega)]
  · show upd (ma 8) 4 (nI (v 12 0 + 1)) 4 = nI (v 12 0 + 1)
    rw [u_at]
  · have hk' : k < v 12 0 + 1 := hk
    show upd (upd (upd (upd (ma 9) (4 * (20 + v 12 0)) (nI (lLock f n p).1)) (4 * (20 + v 12 0) + 1) (nI (lLock f n p).2.1)) (4 * (20 + v 12 0) + 2) (nI (lLock f n p).2.2.1)) (4 * (20 + v 12 0) + 3) (nI (lLock f n p).2.2.2.1) (4 * (5 * 4 + k)) = nI (if k = v 12 0 then (lLock f n p).1 else v 18 k)
    rw [u_ne (by omega), u_ne (by omega), u_ne (by omega)]
    by_cases c : k = v 12 0
    · rw [c, show 4 * (5 * 4 + v 12 0) = 4 * (20 + v 12 0) by omega, u_at, if_pos rfl]
    · rw [u_ne (by omega), if_neg c]; exact b1 k (by omega)
  · have hk' : k < v 12 0 + 1 := hk
    show upd (upd (upd (upd (ma 9) (4 * (20 + v 12 0)) (nI (lLock f n p).1)) (4 * (20 + v 12 0) + 1) (nI (lLock f n p).2.1)) (4 * (20 + v 12 0) + 2) (nI (lLock f n p).2.2.1)) (4 * (20 + v 12 0) + 3) (nI (lLock f n p).2.2.2.1) (4 * (5 * 4 + k) + 1 + i) = nI (if 3 * k + i = 3 * v 12 0 then (lLock f n p).2.1 else if 3 * k + i = 3 * v 12 0 + 1 then (lLock f n p).2.2.1 else if 3 * k + i = 3 * v 12 0 + 2 then (lLock f n p).2.2.2.1 else v 19 (3 * k + i))
    by_cases c : k = v 12 0
    · subst c
      have hi3 : i = 0 ∨ i = 1 ∨ i = 2 := by omega
      rcases hi3 with e | e | e
      · subst e
        rw [u_ne (by omega), u_ne (by omega), show 4 * (5 * 4 + v 12 0) + 1 + 0 = 4 * (20 + v 12 0) + 1 by omega, u_at, if_pos (by omega)]
      · subst e
        rw [u_ne (by omega), show 4 * (5 * 4 + v 12 0) + 1 + 1 = 4 * (20 + v 12 0) + 2 by omega, u_at, if_neg (by omega), if_pos (by omega)]
      · subst e
        rw [show 4 * (5 * 4 + v 12 0) + 1 + 2 = 4 * (20 + v 12 0) + 3 by omega, u_at, if_neg (by omega), if_neg (by omega), if_pos (by omega)]
    · rw [u_ne (by omega), u_ne (by omega), u_ne (by omega), u_ne (by omega), if_neg (by omega), if_neg (by omega), if_neg (by omega)]
      exact c1 k i (by omega) hi
theorem m_markLine (hn : n ≤ 1600) (ha : ∀ i, i < n → ma 2 i = f i) (hv : okV v) (h : MS f n p m0 ms mw) (h0 : p.1 = 0) (h4 : R4 v ma) {post : A1 → (Nat → Int64) → A2 → Prop} (hf : v 3 0 = 1 → ∀ mt mw', MS f n (rF 2 p) m0 mt mw' → post mt mw' ma) (hp : v 3 0 = 0 → ∀ mt mw' mb, MS f n (lMark f n (0, 0, adv f n p.2.2)).2.2.2 m0 mt mw' → F4 ma mb → R4 (aMark v (lMark f n (0, 0, adv f n p.2.2)).1 (lMark f n (0, 0, adv f n p.2.2)).2.1 (lMark f n (0, 0, adv f n p.2.2)).2.2.1) mb → post mt mw' mb) : P_X12_onceLine ms mw ma 0 post := by
  have h3 : v 3 0 ≤ 1 := hv.1.2.2.2.1
  obtain ⟨⟨a1, b1, c1, d1, e1, e2, e3, e4, e5, e6, e7⟩, hT, hP, hY, o1, o2⟩ := h4
  refine ⟨vp_in_nI (n := 8) (N := 10) (by decide) (by decide), fun z => ?_, fun z => ?_⟩
  · have z0 : v 3 0 = 0 := (nI_eq (b := 0) (by omega) (by decide)).mp (o1.symm.trans z)
    refine ⟨fun _ => m_nextT hn ha h h0 (fun m1 w1 h1 => ⟨vp_in_nI (n := 8) (N := 10) (by decide) (by decide), fun q => absurd rfl q, fun _ => ?_⟩), fun q => absurd (h.f0 h0) q⟩
    refine m_number_ (ma := va_up ma 15 (upd (ma 15) 8 1)) (w := [112, 114, 105, 99, 101]) (lo := 0) (hi := 1000) hn ha h1 (by decide) (by decide) (by decide) (by decide) (fun m2 w2 h2 => m_number_ (ma := va_up (va_up ma 14 (upd (ma 14) 28 _)) 15 (upd (ma 15) 8 1)) (w := [107, 110, 111, 119, 110]) (lo := 0) (hi := 101) hn ha h2 (by decide) (by decide) (by decide) (by decide) (fun m3 w3 h3 => m_takes (ma := va_up (va_up ma 14 (upd (upd (ma 14) 28 _) 29 _)) 15 (upd (ma 15) 8 1)) (w := [104, 105, 100, 100, 101, 110]) hn ha h3 (by decide) (by decide) (fun m4 w4 h4 => ?_)))
    have G : ∀ y : Int32, y = nI (lMark f n (0, 0, adv f n p.2.2)).2.2.1 → post m4 w4 (va_up (va_up ma 14 (upd (upd (upd (ma 14) 28 (nI (lMark f n (0, 0, adv f n p.2.2)).1)) 29 (nI (lMark f n (0, 0, adv f n p.2.2)).2.1)) 30 y)) 15 (upd (ma 15) 8 1)) := by
      intro y hy
      subst hy
      refine hp z0 m4 w4 _ h4 (F4.up2 (by decide) (by decide) (fun x hx => ?_) (Or.inl rfl)) ⟨⟨a1, b1, c1, d1, ?_, ?_, ?_, e4, e5, e6, e7⟩, hT, hP, hY, ?_, ?_⟩
      · have : x < 28 := hx
        rw [u_ne (by omega), u_ne (by omega), u_ne (by omega)]
      · show upd (upd (upd (ma 14) 28 (nI (lMark f n (0, 0, adv f n p.2.2)).1)) 29 (nI (lMark f n (0, 0, adv f n p.2.2)).2.1)) 30 (nI (lMark f n (0, 0, adv f n p.2.2)).2.2.1) 28 = nI (lMark f n (0, 0, adv f n p.2.2)).1
        rw [u_ne (by decide), u_ne (by decide), u_at]
      · show upd (upd (upd (ma 14) 28 (nI (lMark f n (0, 0, adv f n p.2.2)).1)) 29 (nI (lMark f n (0, 0, adv f n p.2.2)).2.1)) 30 (nI (lMark f n (0, 0, adv f n p.2.2)).2.2.1) 29 = nI (lMark f n (0, 0, adv f n p.2.2)).2.1
        rw [u_ne (by decide), u_at]
      · show upd (upd (upd (ma 14) 28 (nI (lMark f n (0, 0, adv f n p.2.2)).1)) 29 (nI (lMark f n (0, 0, adv f n p.2.2)).2.1)) 30 (nI (lMark f n (0, 0, adv f n p.2.2)).2.2.1) 30 = nI (lMark f n (0, 0, adv f n p.2.2)).2.2.1
        rw [u_at]
      · show upd (ma 15) 8 1 8 = nI 1
        rw [u_at]
        rfl
      · show upd (ma 15) 8 1 9 = nI (v 7 0)
        rw [u_ne (by decide)]
        exact o2
    have hle := rI_le (f := f) (n := n) (w := [104, 105, 100, 100, 101, 110]) (p := (rN f n 0 101 (rW f n [107, 110, 111, 119, 110] (rN f n 0 1000 (rW f n [112, 114, 105, 99, 101] (0, 0, adv f n p.2.2))).2)).2)
    refine ⟨fun q => G 0 q.symm, fun q => G 1 ?_⟩
    have q' : (lMark f n (0, 0, adv f n p.2.2)).2.2.1 ≠ 0 := fun e => q (by show nI (lMark f n (0, 0, adv f n p.2.2)).2.2.1 = 0; rw [e]; rfl)
    have hle' : (lMark f n (0, 0, adv f n p.2.2)).2.2.1 ≤ 1 := hle
    rw [show (lMark f n (0, 0, adv f n p.2.2)).2.2.1 = 1 by omega]
    rfl
  · have z1 : v 3 0 = 1 := by
      have : v 3 0 ≠ 0 := fun e => z (by show ma 15 8 = 0; rw [o1, e]; rfl)
      omega
    refine m_fails (c := 2) h (by decide) (by decide) (fun m1 h1 => ⟨fun q => ?_, fun _ => hf z1 m1 mw h1⟩)
    refine absurd q (h1.f1 ?_)
    unfold rF
    rw [if_pos h0]
    exact (show (2 : Nat) ≠ 0 by decide)
end ML
