/-! the reference's lines: watch, bike, thief -/
section M2
variable {f : Nat → Int32} {n : Nat} {m0 ms : A1} {mw : Nat → Int64} {ma : A2} {p : PS} {v : Rl}
theorem m_watchLine (hn : n ≤ 1600) (ha : ∀ i, i < n → ma 2 i = f i) (hv : okV v) (h : MS f n p m0 ms mw) (h0 : p.1 = 0) (h4 : R4 v ma) {post : A1 → (Nat → Int64) → A2 → Prop} (hf : v 7 0 = 1 → ∀ mt mw', MS f n (rF 2 p) m0 mt mw' → post mt mw' ma) (hp : v 7 0 = 0 → ∀ mt mw' mb, MS f n (lWatch f n (0, 0, adv f n p.2.2)).2.2 m0 mt mw' → F4 ma mb → R4 (aWatch v (lWatch f n (0, 0, adv f n p.2.2)).1 (lWatch f n (0, 0, adv f n p.2.2)).2.1) mb → post mt mw' mb) : P_X12_onceLine ms mw ma 1 post := by
  have h7 := ok7 hv
  obtain ⟨⟨a1, b1, c1, d1, e1, e2, e3, e4, e5, e6, e7⟩, hT, hP, hY, o1, o2⟩ := h4
  refine ⟨vp_in_nI (n := 9) (N := 10) (by decide) (by decide), fun z => ?_, fun z => ?_⟩
  · have z0 : v 7 0 = 0 := (nI_eq (b := 0) (by omega) (by decide)).mp (o2.symm.trans z)
    refine ⟨fun _ => m_nextT hn ha h h0 (fun m1 w1 h1 => ⟨vp_in_nI (n := 9) (N := 10) (by decide) (by decide), fun _ => ?_, fun q => absurd q (by decide)⟩), fun q => absurd (h.f0 h0) q⟩
    refine m_number_ (ma := va_up ma 15 (upd (ma 15) 9 1)) (w := [119, 97, 103, 101]) (lo := 0) (hi := 1000) hn ha h1 (by decide) (by decide) (by decide) (by decide) (fun m2 w2 h2 => m_number_ (ma := va_up (va_up ma 14 (upd (ma 14) 32 _)) 15 (upd (ma 15) 9 1)) (w := [97, 100, 100, 115]) (lo := 0) (hi := 100) hn ha h2 (by decide) (by decide) (by decide) (by decide) (fun m3 w3 h3 => ?_))
    refine hp z0 m3 w3 _ h3 (F4.up2 (by decide) (by decide) (fun x hx => ?_) (Or.inl rfl)) ⟨⟨a1, b1, c1, d1, e1, e2, e3, ?_, ?_, ?_, e7⟩, hT, hP, hY, ?_, ?_⟩
    · have : x < 28 := hx
      rw [u_ne (by omega), u_ne (by omega), u_ne (by omega)]
    · show upd (upd (upd (ma 14) 32 (nI (lWatch f n (0, 0, adv f n p.2.2)).1)) 33 (nI (lWatch f n (0, 0, adv f n p.2.2)).2.1)) 31 1 31 = nI 1
      rw [u_at]
      rfl
    · show upd (upd (upd (ma 14) 32 (nI (lWatch f n (0, 0, adv f n p.2.2)).1)) 33 (nI (lWatch f n (0, 0, adv f n p.2.2)).2.1)) 31 1 32 = nI (lWatch f n (0, 0, adv f n p.2.2)).1
      rw [u_ne (by decide), u_ne (by decide), u_at]
    · show upd (upd (upd (ma 14) 32 (nI (lWatch f n (0, 0, adv f n p.2.2)).1)) 33 (nI (lWatch f n (0, 0, adv f n p.2.2)).2.1)) 31 1 33 = nI (lWatch f n (0, 0, adv f n p.2.2)).2.1
      rw [u_ne (by decide), u_at]
    · show upd (ma 15) 9 1 8 = nI (v 3 0)
      rw [u_ne (by decide)]
      exact o1
    · show upd (ma 15) 9 1 9 = nI 1
      rw [u_at]
      rfl
  · have z1 : v 7 0 = 1 := by
      have : v 7 0 ≠ 0 := fun e => z (by show ma 15 9 = 0; rw [o2, e]; rfl)
      omega
    refine m_fails (c := 2) h (by decide) (by decide) (fun m1 h1 => ⟨fun q => ?_, fun _ => hf z1 m1 mw h1⟩)
    refine absurd q (h1.f1 ?_)
    unfold rF
    rw [if_pos h0]
    exact (show (2 : Nat) ≠ 0 by decide)
/-- a bike's five cells, behind those that are there -/
theorem R4.bike (h4 : R4 v ma) (h13 : v 13 0 < 10) (a b c d e : Nat) {y : Int32} (hy : y = nI e) : R4 (aBike v a b c d e) (va_up (va_up ma 10 (upd (ma 10) 4 (nI (v 13 0 + 1)))) 11 (upd (upd (upd (upd (upd (ma 11) (5 * (40 + v 13 0)) (nI a)) (5 * (40 + v 13 0) + 1) (nI b)) (5 * (40 + v 13 0) + 2) (nI c)) (5 * (40 + v 13 0) + 3) (nI d - 1)) (5 * (40 + v 13 0) + 4) y)) ∧ F4 ma (va_up (va_up ma 10 (upd (ma 10) 4 (nI (v 13 0 + 1)))) 11 (upd (upd (upd (upd (upd (ma 11) (5 * (40 + v 13 0)) (nI a)) (5 * (40 + v 13 0) + 1) (nI b)) (5 * (40 + v 13 0) + 2) (nI c)) (5 * (40 + v 13 0) + 3) (nI d - 1)) (5 * (40 + v 13 0) + 4) y)) := by
  subst hy
  obtain ⟨⟨⟨a1, a2, a3, a4, a5⟩, b1, c1, d1, e1⟩, hT, hP, hY, o1, o2⟩ := h4
  refine ⟨⟨⟨⟨a1, a2, a3, a4, ?_⟩, b1, c1, fun k hk => ?_, e1⟩, hT, hP, hY, o1, o2⟩, F4.up2 (by decide) (by decide) (fun x hx => u_ne ?_) (Or.inr (fun x hx => ?_))⟩
  · show upd (ma 10) 4 (nI (v 13 0 + 1)) 4 = nI (v 13 0 + 1)
    rw [u_at]
  · have hk' : k < v 13 0 + 1 := hk
    rw [up_at]
    show _ = nI (if k = v 13 0 then a else v 20 k) ∧ _ = nI (if k = v 13 0 then b else v 21 k) ∧ _ = nI (if k = v 13 0 then c else v 22 k) ∧ _ = nI (if k = v 13 0 then d else v 23 k) - 1 ∧ _ = nI (if k = v 13 0 then e else v 24 k)
    by_cases q : k = v 13 0
    · rw [q, if_pos rfl, if_pos rfl, if_pos rfl, if_pos rfl, if_pos rfl, show 5 * (10 * 4 + v 13 0) = 5 * (40 + v 13 0) by omega]
      refine ⟨?_, ?_, ?_, ?_, ?_⟩
      · rw [u_ne (by omega), u_ne (by omega), u_ne (by omega), u_ne (by omega), u_at]
      · rw [u_ne (by omega), u_ne (by omega), u_ne (by omega), u_at]
      · rw [u_ne (by omega), u_ne (by omega), u_at]
      · rw [u_ne (by omega), u_at]
      · rw [u_at]
    · rw [if_neg q, if_neg q, if_neg q, if_neg q, if_neg q]
      obtain ⟨g0, g1, g2, g3, g4⟩ := d1 k (by omega)
      refine ⟨?_, ?_, ?_, ?_, ?_⟩
      · rw [u_ne (by omega), u_ne (by omega), u_ne (by omega), u_ne (by omega), u_ne (by omega)]; exact g0
      · rw [u_ne (by omega), u_ne (by omega), u_ne (by omega), u_ne (by omega), u_ne (by omega)]; exact g1
      · rw [u_ne (by omega), u_ne (by omega), u_ne (by omega), u_ne (by omega), u_ne (by omega)]; exact g2
      · rw [u_ne (by omega), u_ne (by omega), u_ne (by omega), u_ne (by omega), u_ne (by omega)]; exact g3
      · rw [u_ne (by omega), u_ne (by omega), u_ne (by omega), u_ne (by omega), u_ne (by omega)]; exact g4
  · have : x < 4 := hx
    omega
  · have : x < 200 := hx
    rw [u_ne (by omega), u_ne (by omega), u_ne (by omega), u_ne (by omega), u_ne (by omega)]
/-- a thief's five cells -/
theorem R4.thief (h4 : R4 v ma) (h14 : v 14 0 < 6) (a b c d e : Nat) : R4 (aThief v a b c d e) (va_up (va_up ma 12 (upd (ma 12) 4 (nI (v 14 0 + 1)))) 13 (upd (upd (upd (upd (upd (ma 13) (5 * (24 + v 14 0)) (nI a)) (5 * (24 + v 14 0) + 1) (nI b)) (5 * (24 + v 14 0) + 2) (nI c)) (5 * (24 + v 14 0) + 3) (nI d)) (5 * (24 + v 14 0) + 4) (nI e - 1))) := by
  obtain ⟨hN, ⟨t1, t2⟩, hP, hY, o1, o2⟩ := h4
  refine ⟨hN, ⟨?_, fun k hk => ?_⟩, hP, hY, o1, o2⟩
  · show upd (ma 12) 4 (nI (v 14 0 + 1)) 4 = nI (v 14 0 + 1)
    rw [u_at]
  · have hk' : k < v 14 0 + 1 := hk
    rw [up_at]
    show _ = nI (if k = v 14 0 then a else v 25 k) ∧ _ = nI (if k = v 14 0 then b else v 26 k) ∧ _ = nI (if k = v 14 0 then c else v 27 k) ∧ _ = nI (if k = v 14 0 then d else v 28 k) ∧ _ = nI (if k = v 14 0 then e else v 29 k) - 1
    by_cases q : k = v 14 0
    · rw [q, if_pos rfl, if_pos rfl, if_pos rfl, if_pos rfl, if_pos rfl, show 5 * (6 * 4 + v 14 0) = 5 * (24 + v 14 0) by omega]
      refine ⟨?_, ?_, ?_, ?_, ?_⟩
      · rw [u_ne (by omega), u_ne (by omega), u_ne (by omega), u_ne (by omega), u_at]
      · rw [u_ne (by omega), u_ne (by omega), u_ne (by omega), u_at]
      · rw [u_ne (by omega), u_ne (by omega), u_at]
      · rw [u_ne (by omega), u_at]
      · rw [u_at]
    · rw [if_neg q, if_neg q, if_neg q, if_neg q, if_neg q]
      obtain ⟨g0, g1, g2, g3, g4⟩ := t2 k (by omega)
      refine ⟨?_, ?_, ?_, ?_, ?_⟩
      · rw [u_ne (by omega), u_ne (by omega), u_ne (by omega), u_ne (by omega), u_ne (by omega)]; exact g0
      · rw [u_ne (by omega), u_ne (by omega), u_ne (by omega), u_ne (by omega), u_ne (by omega)]; exact g1
      · rw [u_ne (by omega), u_ne (by omega), u_ne (by omega), u_ne (by omega), u_ne (by omega)]; exact g2
      · rw [u_ne (by omega), u_ne (by omega), u_ne (by omega), u_ne (by omega), u_ne (by omega)]; exact g3
      · rw [u_ne (by omega), u_ne (by omega), u_ne (by omega), u_ne (by omega), u_ne (by omega)]; exact g4
theorem F4.thief {y z z' : Int32} {a b c : Int32} : F4 ma (va_up (va_up ma 12 (upd (ma 12) 4 z)) 13 (upd (upd (upd (upd (upd (ma 13) (5 * (24 + v 14 0)) a) (5 * (24 + v 14 0) + 1) b) (5 * (24 + v 14 0) + 2) c) (5 * (24 + v 14 0) + 3) y) (5 * (24 + v 14 0) + 4) z')) := by
  refine F4.up2 (by decide) (by decide) (fun x hx => u_ne ?_) (Or.inr (fun x hx => ?_))
  · have : x < 4 := hx
    omega
  · have : x < 120 := hx
    rw [u_ne (by omega), u_ne (by omega), u_ne (by omega), u_ne (by omega), u_ne (by omega)]
end M2
