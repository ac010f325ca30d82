section
/-! promises 32 to 38: places, lamps, the watchman -/
def vs (v : Rl) (g b x : Nat) : Rl := fun f k => if f = g ∧ k = b then x else v f k
theorem vs_f {v : Rl} {g b x f : Nat} (h : f ≠ g) : vs v g b x f = v f := by
  funext k
  unfold vs
  rw [if_neg (fun q => h q.1)]
theorem vs_at (v : Rl) (g b x k : Nat) : vs v g b x g k = if k = b then x else v g k := by
  unfold vs
  by_cases c : k = b
  · simp [c]
  · simp [c]
theorem vs_vs (v : Rl) (g b x y : Nat) : vs (vs v g b x) g b y = vs v g b y := by
  funext f k
  unfold vs
  by_cases c : f = g ∧ k = b
  · rw [if_pos c, if_pos c]
  · rw [if_neg c, if_neg c, if_neg c]
theorem vs_self (v : Rl) (g b : Nat) : vs v g b (v g b) = v := by
  funext f k
  unfold vs
  by_cases c : f = g ∧ k = b
  · rw [if_pos c, c.1, c.2]
  · rw [if_neg c]
theorem RelT.vs {v : Rl} {j g : Nat} {ma : A2} (h : RelT v j ma) (b x : Nat) (h14 : 14 ≠ g) (h25 : 25 ≠ g) (h26 : 26 ≠ g) (h27 : 27 ≠ g) (h28 : 28 ≠ g) (h29 : 29 ≠ g) : RelT (vs v g b x) j ma := by
  unfold RelT at h ⊢
  simp only [vs_f (v := v) (g := g) (b := b) (x := x) h14, vs_f (v := v) (g := g) (b := b) (x := x) h25, vs_f (v := v) (g := g) (b := b) (x := x) h26, vs_f (v := v) (g := g) (b := b) (x := x) h27, vs_f (v := v) (g := g) (b := b) (x := x) h28, vs_f (v := v) (g := g) (b := b) (x := x) h29]
  exact h
theorem RelP.vs {v : Rl} {j g : Nat} {ma : A2} (h : RelP v j ma) (b x : Nat) (h11 : 11 ≠ g) (h16 : 16 ≠ g) (h17 : 17 ≠ g) : RelP (vs v g b x) j ma := by
  unfold RelP at h ⊢
  simp only [vs_f (v := v) (g := g) (b := b) (x := x) h11, vs_f (v := v) (g := g) (b := b) (x := x) h16, vs_f (v := v) (g := g) (b := b) (x := x) h17]
  exact h
theorem RelY.vs {v : Rl} {j g : Nat} {ma : A2} (h : RelY v j ma) (b x : Nat) (h15 : 15 ≠ g) (h30 : 30 ≠ g) (h31 : 31 ≠ g) : RelY (vs v g b x) j ma := by
  unfold RelY at h ⊢
  simp only [vs_f (v := v) (g := g) (b := b) (x := x) h15, vs_f (v := v) (g := g) (b := b) (x := x) h30, vs_f (v := v) (g := g) (b := b) (x := x) h31]
  exact h
theorem LX.vs {v : Rl} {j g : Nat} {ms : A1} {ma : A2} (h : LX v j ms ma) (b x : Nat) (h11 : 11 ≠ g) (h16 : 16 ≠ g) (h17 : 17 ≠ g) : LX (vs v g b x) j ms ma := by
  unfold LX at h ⊢
  simp only [vs_f (v := v) (g := g) (b := b) (x := x) h11, vs_f (v := v) (g := g) (b := b) (x := x) h16, vs_f (v := v) (g := g) (b := b) (x := x) h17]
  exact h
theorem okR.p {v : Rl} (hv : okR v) {b x : Nat} (hx : x < 20) : okR (vs v 22 b x) := by
  obtain ⟨⟨h0, h1, h2, h3, h4, h5, h6⟩, hJ, hT⟩ := hv
  unfold okR okV okJ
  simp only [vs_f (v := v) (g := 22) (b := b) (x := x) (f := 0) (by decide), vs_f (v := v) (g := 22) (b := b) (x := x) (f := 1) (by decide), vs_f (v := v) (g := 22) (b := b) (x := x) (f := 2) (by decide), vs_f (v := v) (g := 22) (b := b) (x := x) (f := 3) (by decide), vs_f (v := v) (g := 22) (b := b) (x := x) (f := 4) (by decide), vs_f (v := v) (g := 22) (b := b) (x := x) (f := 5) (by decide), vs_f (v := v) (g := 22) (b := b) (x := x) (f := 6) (by decide), vs_f (v := v) (g := 22) (b := b) (x := x) (f := 7) (by decide), vs_f (v := v) (g := 22) (b := b) (x := x) (f := 8) (by decide), vs_f (v := v) (g := 22) (b := b) (x := x) (f := 9) (by decide), vs_f (v := v) (g := 22) (b := b) (x := x) (f := 10) (by decide), vs_f (v := v) (g := 22) (b := b) (x := x) (f := 11) (by decide), vs_f (v := v) (g := 22) (b := b) (x := x) (f := 12) (by decide), vs_f (v := v) (g := 22) (b := b) (x := x) (f := 13) (by decide), vs_f (v := v) (g := 22) (b := b) (x := x) (f := 14) (by decide), vs_f (v := v) (g := 22) (b := b) (x := x) (f := 15) (by decide), vs_f (v := v) (g := 22) (b := b) (x := x) (f := 16) (by decide), vs_f (v := v) (g := 22) (b := b) (x := x) (f := 17) (by decide), vs_f (v := v) (g := 22) (b := b) (x := x) (f := 18) (by decide), vs_f (v := v) (g := 22) (b := b) (x := x) (f := 19) (by decide), vs_f (v := v) (g := 22) (b := b) (x := x) (f := 20) (by decide), vs_f (v := v) (g := 22) (b := b) (x := x) (f := 21) (by decide), vs_f (v := v) (g := 22) (b := b) (x := x) (f := 23) (by decide), vs_f (v := v) (g := 22) (b := b) (x := x) (f := 24) (by decide), vs_f (v := v) (g := 22) (b := b) (x := x) (f := 25) (by decide), vs_f (v := v) (g := 22) (b := b) (x := x) (f := 26) (by decide), vs_f (v := v) (g := 22) (b := b) (x := x) (f := 27) (by decide), vs_f (v := v) (g := 22) (b := b) (x := x) (f := 28) (by decide), vs_f (v := v) (g := 22) (b := b) (x := x) (f := 29) (by decide)]
  refine ⟨⟨h0, h1, h2, h3, fun k hk => ?_, h5, h6⟩, hJ, hT⟩
  obtain ⟨a, b', c, d, e⟩ := h4 k hk
  rw [vs_at]
  refine ⟨a, b', ?_, d, e⟩
  split
  · exact hx
  · exact c
theorem RelC.p {v : Rl} {rs : A1} {ra : A2} (hR : RelC v rs ra) (b x : Nat) : RelC (vs v 22 b x) rs (va_up ra 6 (upd (ra 6) b (nI x))) := by
  obtain ⟨r0, r1, r2, r3, r4, r5, r6, r7⟩ := hR
  unfold RelC
  simp only [vs_f (v := v) (g := 22) (b := b) (x := x) (f := 11) (by decide), vs_f (v := v) (g := 22) (b := b) (x := x) (f := 12) (by decide), vs_f (v := v) (g := 22) (b := b) (x := x) (f := 13) (by decide), vs_f (v := v) (g := 22) (b := b) (x := x) (f := 14) (by decide), vs_f (v := v) (g := 22) (b := b) (x := x) (f := 15) (by decide), vs_f (v := v) (g := 22) (b := b) (x := x) (f := 16) (by decide), vs_f (v := v) (g := 22) (b := b) (x := x) (f := 17) (by decide), vs_f (v := v) (g := 22) (b := b) (x := x) (f := 18) (by decide), vs_f (v := v) (g := 22) (b := b) (x := x) (f := 19) (by decide), vs_f (v := v) (g := 22) (b := b) (x := x) (f := 20) (by decide), vs_f (v := v) (g := 22) (b := b) (x := x) (f := 21) (by decide), vs_f (v := v) (g := 22) (b := b) (x := x) (f := 23) (by decide), vs_f (v := v) (g := 22) (b := b) (x := x) (f := 24) (by decide), vs_f (v := v) (g := 22) (b := b) (x := x) (f := 25) (by decide), vs_f (v := v) (g := 22) (b := b) (x := x) (f := 26) (by decide), vs_f (v := v) (g := 22) (b := b) (x := x) (f := 27) (by decide), vs_f (v := v) (g := 22) (b := b) (x := x) (f := 28) (by decide), vs_f (v := v) (g := 22) (b := b) (x := x) (f := 29) (by decide), vs_f (v := v) (g := 22) (b := b) (x := x) (f := 30) (by decide), vs_f (v := v) (g := 22) (b := b) (x := x) (f := 31) (by decide)]
  refine ⟨fun j hj => by rw [vs_f (by omega)]; exact r0 j hj, r1, r2, r3, fun k hk => ?_, r5, r6, r7⟩
  obtain ⟨a, b', c, d, e⟩ := r4 k hk
  simp only [va_up]
  simp only [Nat.reduceEqDiff, if_false, if_true]
  rw [vs_at]
  refine ⟨a, b', ?_, d, e⟩
  by_cases q : k = b
  · rw [q, u_at, if_pos rfl]
  · rw [u_ne q, if_neg q]; exact c
theorem RelN.p {v : Rl} {ma : A2} (hN : RelN v 0 ma) (b x : Nat) : RelN (vs v 22 b x) 0 (va_up ma 11 (upd (ma 11) (5 * (10 * 0 + b) + 2) (nI x))) := by
  obtain ⟨r0, r1, r2, r3, r4⟩ := hN
  unfold RelN
  simp only [vs_f (v := v) (g := 22) (b := b) (x := x) (f := 0) (by decide), vs_f (v := v) (g := 22) (b := b) (x := x) (f := 1) (by decide), vs_f (v := v) (g := 22) (b := b) (x := x) (f := 2) (by decide), vs_f (v := v) (g := 22) (b := b) (x := x) (f := 4) (by decide), vs_f (v := v) (g := 22) (b := b) (x := x) (f := 5) (by decide), vs_f (v := v) (g := 22) (b := b) (x := x) (f := 6) (by decide), vs_f (v := v) (g := 22) (b := b) (x := x) (f := 7) (by decide), vs_f (v := v) (g := 22) (b := b) (x := x) (f := 8) (by decide), vs_f (v := v) (g := 22) (b := b) (x := x) (f := 9) (by decide), vs_f (v := v) (g := 22) (b := b) (x := x) (f := 10) (by decide), vs_f (v := v) (g := 22) (b := b) (x := x) (f := 12) (by decide), vs_f (v := v) (g := 22) (b := b) (x := x) (f := 13) (by decide), vs_f (v := v) (g := 22) (b := b) (x := x) (f := 18) (by decide), vs_f (v := v) (g := 22) (b := b) (x := x) (f := 19) (by decide), vs_f (v := v) (g := 22) (b := b) (x := x) (f := 20) (by decide), vs_f (v := v) (g := 22) (b := b) (x := x) (f := 21) (by decide), vs_f (v := v) (g := 22) (b := b) (x := x) (f := 23) (by decide), vs_f (v := v) (g := 22) (b := b) (x := x) (f := 24) (by decide)]
  simp only [va_up]
  simp only [Nat.reduceEqDiff, if_false, if_true]
  refine ⟨r0, r1, r2, fun k hk => ?_, r4⟩
  obtain ⟨a, b', c, d, e⟩ := r3 k hk
  rw [vs_at]
  refine ⟨by rw [u_ne (by omega)]; exact a, by rw [u_ne (by omega)]; exact b', ?_, by rw [u_ne (by omega)]; exact d, by rw [u_ne (by omega)]; exact e⟩
  by_cases q : k = b
  · rw [q, u_at, if_pos rfl]
  · rw [u_ne (by omega), if_neg q]; exact c
theorem RM.p {v : Rl} {ms : A1} {ma : A2} (h : RM v 0 ms ma) (b x : Nat) : RM (vs v 22 b x) 0 ms (va_up ma 11 (upd (ma 11) (5 * (10 * 0 + b) + 2) (nI x))) := by
  refine ⟨h.1.p b x, (h.2.1.vs b x (by decide) (by decide) (by decide) (by decide) (by decide) (by decide)).eq (up_ne (by decide)) (up_ne (by decide)), ?_⟩
  have := h.2.2.vs b x (g := 22) (by decide) (by decide) (by decide)
  unfold LX at this ⊢
  rw [up_ne (by decide), up_ne (by decide)]
  exact this
theorem okR.w {v : Rl} (hv : okR v) {x : Nat} (hx : x ≤ 1) : okR (vs v 10 0 x) := by
  obtain ⟨⟨h0, h1, h2, h3, h4, h5, h6⟩, hJ, hT⟩ := hv
  unfold okR okV okJ
  have b := 0
  simp only [vs_f (v := v) (g := 10) (b := 0) (x := x) (f := 0) (by decide), vs_f (v := v) (g := 10) (b := 0) (x := x) (f := 1) (by decide), vs_f (v := v) (g := 10) (b := 0) (x := x) (f := 2) (by decide), vs_f (v := v) (g := 10) (b := 0) (x := x) (f := 3) (by decide), vs_f (v := v) (g := 10) (b := 0) (x := x) (f := 4) (by decide), vs_f (v := v) (g := 10) (b := 0) (x := x) (f := 5) (by decide), vs_f (v := v) (g := 10) (b := 0) (x := x) (f := 6) (by decide), vs_f (v := v) (g := 10) (b := 0) (x := x) (f := 7) (by decide), vs_f (v := v) (g := 10) (b := 0) (x := x) (f := 8) (by decide), vs_f (v := v) (g := 10) (b := 0) (x := x) (f := 9) (by decide), vs_f (v := v) (g := 10) (b := 0) (x := x) (f := 11) (by decide), vs_f (v := v) (g := 10) (b := 0) (x := x) (f := 12) (by decide), vs_f (v := v) (g := 10) (b := 0) (x := x) (f := 13) (by decide), vs_f (v := v) (g := 10) (b := 0) (x := x) (f := 14) (by decide), vs_f (v := v) (g := 10) (b := 0) (x := x) (f := 15) (by decide), vs_f (v := v) (g := 10) (b := 0) (x := x) (f := 16) (by decide), vs_f (v := v) (g := 10) (b := 0) (x := x) (f := 17) (by decide), vs_f (v := v) (g := 10) (b := 0) (x := x) (f := 18) (by decide), vs_f (v := v) (g := 10) (b := 0) (x := x) (f := 19) (by decide), vs_f (v := v) (g := 10) (b := 0) (x := x) (f := 20) (by decide), vs_f (v := v) (g := 10) (b := 0) (x := x) (f := 21) (by decide), vs_f (v := v) (g := 10) (b := 0) (x := x) (f := 22) (by decide), vs_f (v := v) (g := 10) (b := 0) (x := x) (f := 23) (by decide), vs_f (v := v) (g := 10) (b := 0) (x := x) (f := 24) (by decide), vs_f (v := v) (g := 10) (b := 0) (x := x) (f := 25) (by decide), vs_f (v := v) (g := 10) (b := 0) (x := x) (f := 26) (by decide), vs_f (v := v) (g := 10) (b := 0) (x := x) (f := 27) (by decide), vs_f (v := v) (g := 10) (b := 0) (x := x) (f := 28) (by decide), vs_f (v := v) (g := 10) (b := 0) (x := x) (f := 29) (by decide)]
  refine ⟨⟨?_, h1, h2, h3, h4, h5, h6⟩, hJ, hT⟩
  rw [vs_at, if_pos rfl]
  obtain ⟨a0, a1, a2, a3, a4, a5, a6, a7, a8, a9, a10, a11⟩ := h0
  exact ⟨a0, a1, a2, a3, a4, a5, a6, a7, a8, a9, hx, a11⟩
theorem RelC.w {v : Rl} {rs : A1} {ra : A2} (hR : RelC v rs ra) (x : Nat) : RelC (vs v 10 0 x) (va_up rs 10 (nI x)) ra := by
  obtain ⟨r0, r1, r2, r3, r4, r5, r6, r7⟩ := hR
  unfold RelC
  simp only [vs_f (v := v) (g := 10) (b := 0) (x := x) (f := 11) (by decide), vs_f (v := v) (g := 10) (b := 0) (x := x) (f := 12) (by decide), vs_f (v := v) (g := 10) (b := 0) (x := x) (f := 13) (by decide), vs_f (v := v) (g := 10) (b := 0) (x := x) (f := 14) (by decide), vs_f (v := v) (g := 10) (b := 0) (x := x) (f := 15) (by decide), vs_f (v := v) (g := 10) (b := 0) (x := x) (f := 16) (by decide), vs_f (v := v) (g := 10) (b := 0) (x := x) (f := 17) (by decide), vs_f (v := v) (g := 10) (b := 0) (x := x) (f := 18) (by decide), vs_f (v := v) (g := 10) (b := 0) (x := x) (f := 19) (by decide), vs_f (v := v) (g := 10) (b := 0) (x := x) (f := 20) (by decide), vs_f (v := v) (g := 10) (b := 0) (x := x) (f := 21) (by decide), vs_f (v := v) (g := 10) (b := 0) (x := x) (f := 22) (by decide), vs_f (v := v) (g := 10) (b := 0) (x := x) (f := 23) (by decide), vs_f (v := v) (g := 10) (b := 0) (x := x) (f := 24) (by decide), vs_f (v := v) (g := 10) (b := 0) (x := x) (f := 25) (by decide), vs_f (v := v) (g := 10) (b := 0) (x := x) (f := 26) (by decide), vs_f (v := v) (g := 10) (b := 0) (x := x) (f := 27) (by decide), vs_f (v := v) (g := 10) (b := 0) (x := x) (f := 28) (by decide), vs_f (v := v) (g := 10) (b := 0) (x := x) (f := 29) (by decide), vs_f (v := v) (g := 10) (b := 0) (x := x) (f := 30) (by decide), vs_f (v := v) (g := 10) (b := 0) (x := x) (f := 31) (by decide)]
  refine ⟨fun j hj => ?_, r1, r2, r3, r4, r5, r6, r7⟩
  by_cases q : j = 10
  · rw [q, up_at, vs_at, if_pos rfl]
  · rw [up_ne q, vs_f q]; exact r0 j hj
theorem RelN.w {v : Rl} {ma : A2} (hN : RelN v 0 ma) (x : Nat) : RelN (vs v 10 0 x) 0 (va_up ma 14 (upd (ma 14) 6 (nI x))) := by
  obtain ⟨r0, r1, r2, r3, f1, f2, f3, f4, f5, f6, f7⟩ := hN
  unfold RelN
  simp only [vs_f (v := v) (g := 10) (b := 0) (x := x) (f := 0) (by decide), vs_f (v := v) (g := 10) (b := 0) (x := x) (f := 1) (by decide), vs_f (v := v) (g := 10) (b := 0) (x := x) (f := 2) (by decide), vs_f (v := v) (g := 10) (b := 0) (x := x) (f := 4) (by decide), vs_f (v := v) (g := 10) (b := 0) (x := x) (f := 5) (by decide), vs_f (v := v) (g := 10) (b := 0) (x := x) (f := 6) (by decide), vs_f (v := v) (g := 10) (b := 0) (x := x) (f := 7) (by decide), vs_f (v := v) (g := 10) (b := 0) (x := x) (f := 8) (by decide), vs_f (v := v) (g := 10) (b := 0) (x := x) (f := 9) (by decide), vs_f (v := v) (g := 10) (b := 0) (x := x) (f := 12) (by decide), vs_f (v := v) (g := 10) (b := 0) (x := x) (f := 13) (by decide), vs_f (v := v) (g := 10) (b := 0) (x := x) (f := 18) (by decide), vs_f (v := v) (g := 10) (b := 0) (x := x) (f := 19) (by decide), vs_f (v := v) (g := 10) (b := 0) (x := x) (f := 20) (by decide), vs_f (v := v) (g := 10) (b := 0) (x := x) (f := 21) (by decide), vs_f (v := v) (g := 10) (b := 0) (x := x) (f := 22) (by decide), vs_f (v := v) (g := 10) (b := 0) (x := x) (f := 23) (by decide), vs_f (v := v) (g := 10) (b := 0) (x := x) (f := 24) (by decide)]
  simp only [va_up]
  simp only [Nat.reduceEqDiff, if_false, if_true]
  rw [vs_at, if_pos rfl]
  refine ⟨r0, r1, r2, r3, by rw [u_ne (by decide)]; exact f1, by rw [u_ne (by decide)]; exact f2, by rw [u_ne (by decide)]; exact f3, by rw [u_ne (by decide)]; exact f4, by rw [u_ne (by decide)]; exact f5, by rw [u_ne (by decide)]; exact f6, u_at⟩
theorem RM.w {v : Rl} {ms : A1} {ma : A2} (h : RM v 0 ms ma) (x : Nat) : RM (vs v 10 0 x) 0 ms (va_up ma 14 (upd (ma 14) 6 (nI x))) := by
  refine ⟨h.1.w x, (h.2.1.vs 0 x (by decide) (by decide) (by decide) (by decide) (by decide) (by decide)).eq (up_ne (by decide)) (up_ne (by decide)), ?_⟩
  have := h.2.2.vs 0 x (g := 10) (by decide) (by decide) (by decide)
  unfold LX at this ⊢
  rw [up_ne (by decide), up_ne (by decide)]
  exact this
theorem MG.a11 {ms : A1} {ma : A2} {ml : L2} {f : Nat → Int32} (h : ∀ x, 50 ≤ x → f x = ma 11 x) : MG ms ma ml ms (va_up ma 11 f) ml := ⟨fun _ _ _ _ => rfl, fun j _ a _ _ => up_ne a, fun x hx => by rw [up_at]; exact h x hx, fun x _ => by rw [up_ne (by decide)], rfl⟩
theorem MG.a14 {ms : A1} {ma : A2} {ml : L2} {f : Nat → Int32} (h : ∀ x, 7 ≤ x → f x = ma 14 x) : MG ms ma ml ms (va_up ma 14 f) ml := ⟨fun _ _ _ _ => rfl, fun j _ _ a _ => up_ne a, fun x _ => by rw [up_ne (by decide)], fun x hx => by rw [up_at]; exact h x hx, rfl⟩
theorem MG.b {ms : A1} {ma : A2} {ml : L2} {b : Nat} (hb : b < 10) (x : Int32) : MG ms ma ml ms (va_up ma 11 (upd (ma 11) (5 * (10 * 0 + b) + 2) x)) ml := MG.a11 (fun y hy => u_ne (by omega))
theorem MG.s {ms : A1} {ma : A2} {ml : L2} (x : Int32) : MG ms ma ml ms (va_up ma 14 (upd (ma 14) 6 x)) ml := MG.a14 (fun y hy => u_ne (by omega))
/-! who stands at a place -/
def stF (v : Rl) (p : Nat) : Nat := fa_first (fun b => v 22 b == p) (v 13 0)
def stI (v : Rl) (p : Nat) : Int32 := if stF v p < v 13 0 then nI (stF v p) else -1
theorem stF_at {v : Rl} {p i : Nat} (hi : i ≤ stF v p) (hn : i < v 13 0) : (v 22 i = p → stF v p = i) ∧ (v 22 i ≠ p → i + 1 ≤ stF v p) := by
  refine ⟨fun e => ?_, fun e => ?_⟩
  · rcases Nat.lt_or_ge i (stF v p) with q | q
    · have := fa_first_no (fun b => v 22 b == p) (v 13 0) i q
      simp [e] at this
    · omega
  · rcases Nat.lt_or_ge i (stF v p) with q | q
    · exact q
    · exfalso
      have e2 : stF v p = i := by omega
      have := fa_first_yes (fun b => v 22 b == p) (v 13 0) (by unfold stF at e2; omega)
      rw [show fa_first (fun b => v 22 b == p) (v 13 0) = i from e2] at this
      simp at this
      exact e this
section ST
variable {us : A1} {ua : A2} {rs : A1} {ra ra2 sa : A2} {sl : L2} {ns : A1} {na : A2} {nl : L2} {yt : Int32} {im : Img} {ms : A1} {ma : A2} {ml : L2}
theorem c_stands {v : Rl} (hC : RelC v rs ra) (hv : okV v) {p : Nat} (hp : p < 20) {post : Int32 → Prop} (h : post (stI v p)) : P_X0_standingAt (rs 13) (ra 6) (nI p) post := by
  have h13 := ok13 hv
  have hle : stF v p ≤ v 13 0 := fa_first_le _ _
  unfold stI at h
  have L : ∀ k i, i + k = v 13 0 → i ≤ stF v p → P_X0_standingAt_2 (rs 13) (ra 6) (nI p) post (k + 1) (nI i) := by
    intro k
    induction k with
    | zero =>
      intro i hi hs
      obtain rfl : i = v 13 0 := by omega
      rw [if_neg (by omega)] at h
      exact ⟨fun _ => h, fun c => absurd ((cmp_le (rc_s hC 13) (by omega) (by omega)).mpr (Nat.le_refl _)) c⟩
    | succ k ih =>
      intro i hi hs
      have hb := (hv.2.2.2.2.1 i (by omega)).2.2.1
      obtain ⟨e1, e2⟩ := stF_at hs (by omega)
      refine ⟨fun c => absurd ((cmp_le (rc_s hC 13) (by omega) (by omega)).mp c) (by omega), fun _ => ⟨vp_in_nI (by omega) (by decide), ?_⟩⟩
      rw [nI_clamp (by omega), (hC.2.2.2.2.1 i (by omega)).2.2.1, nI_eq (by omega) (by omega), nI_1]
      refine ⟨fun c => ih (i + 1) (by omega) (e2 c), fun c => ?_⟩
      rw [e1 c, if_pos (by omega)] at h
      exact h
  exact ⟨v 13 0 + 1, L (v 13 0) 0 (by omega) (Nat.zero_le _)⟩
theorem m_stands {v : Rl} (hN : RelN v 0 ma) (hv : okV v) {p : Nat} (hp : p < 20) {post : Int32 → Prop} (h : post (stI v p)) : P_X12_standsAt ma (nI p) post := by
  have h13 := ok13 hv
  have hle : stF v p ≤ v 13 0 := fa_first_le _ _
  have e13 : ma 10 0 = nI (v 13 0) := hN.1.2.2.2.2
  unfold stI at h
  have L : ∀ k i, i + k = v 13 0 → i ≤ stF v p → P_X12_standsAt_2 ma (nI p) post (k + 1) (nI i) := by
    intro k
    induction k with
    | zero =>
      intro i hi hs
      obtain rfl : i = v 13 0 := by omega
      rw [if_neg (by omega)] at h
      exact ⟨fun _ => h, fun c => absurd ((cmp_le e13 (by omega) (by omega)).mpr (Nat.le_refl _)) c⟩
    | succ k ih =>
      intro i hi hs
      have hb := (hv.2.2.2.2.1 i (by omega)).2.2.1
      obtain ⟨e1, e2⟩ := stF_at hs (by omega)
      refine ⟨fun c => absurd ((cmp_le e13 (by omega) (by omega)).mp c) (by omega), fun _ => ?_⟩
      show vp_in ((5 : Int32) * ((10 : Int32) * nI 0 + nI i) + 2) 250 ∧ ((¬ (ma 11 (((5 : Int32) * ((10 : Int32) * nI 0 + nI i) + 2).toNatClampNeg)) = nI p → P_X12_standsAt_2 ma (nI p) post (k + 1) (nI i + 1)) ∧ ((ma 11 (((5 : Int32) * ((10 : Int32) * nI 0 + nI i) + 2).toNatClampNeg)) = nI p → post (nI i)))
      rw [show (5 : Int32) * ((10 : Int32) * nI 0 + nI i) + 2 = nI (5 * (10 * 0 + i) + 2) from ix5 0 i 2, nI_clamp (by omega), (hN.2.2.2.1 i (by omega)).2.2.1, nI_eq (by omega) (by omega), nI_1]
      refine ⟨vp_in_nI (by omega) (by decide), fun c => ih (i + 1) (by omega) (e2 c), fun c => ?_⟩
      rw [e1 c, if_pos (by omega)] at h
      exact h
  exact ⟨v 13 0 + 1, L (v 13 0) 0 (by omega) (Nat.zero_le _)⟩
theorem st_cases (v : Rl) (p : Nat) (h13 : v 13 0 ≤ 10) : stI v p = -1 ∨ ∃ c, c < v 13 0 ∧ stI v p = nI c := by
  unfold stI
  split
  · exact Or.inr ⟨_, by assumption, rfl⟩
  · exact Or.inl rfl
theorem q_move (hI : Inv us ua rs ra ra2 sa sl ns na nl yt im ms ma ml) (p w : Int32) : P_X11_move rs ra p w (fun r ra' => P_X12_move ms ma p w (fun r' mt mb => r = r' ∧ Inv us ua rs ra' ra2 sa sl ns na nl yt im mt mb ml)) := by
  obtain ⟨v, hv, hC, hM, hP, hY, hK, hB, F⟩ := hI.get
  have h13 := ok13 hv.1
  have h0 := ok0 hv.1
  have fin := F ra2 ns na nl _ _ _ (MG.refl _ _ _) hM.1 hB hK
  rcases ixs p (n := v 13 0) (by omega) with h | ⟨b, hb, rfl⟩
  · exact c_hasB0 hC h (b0f (m_isB0 hM.1 hv.1 h (b0f ⟨rfl, fin⟩)))
  · rcases ixs w (n := v 0 0) (by omega) with h | ⟨q, hq, rfl⟩
    · exact c_hasB hC hv.1 hb (b1f (c_hasP0 hC h (b0t (m_isB hM.1 hv.1 hb (b1f (m_isP0 hM.1 hv.1 h (b0t ⟨rfl, fin⟩)))))))
    · refine c_hasB hC hv.1 hb (b1f (c_hasP hC hv.1 hq (b1t (c_stands hC hv.1 (by omega) ?_))))
      have M : ∀ (Q : Int32 → A1 → A2 → Prop), ((stI v q = -1 ∨ stI v q = nI b) → P_X12_move_43 (nI b) (nI q) Q (va_up ms 0 0) ma) → (¬ stI v q = -1 → ¬ stI v q = nI b → Q (-5) (va_up ms 0 0) ma) → P_X12_move ms ma (nI b) (nI q) Q := fun Q g1 g2 => m_isB hM.1 hv.1 hb (b1f (m_isP hM.1 hv.1 hq (b1t (m_stands hM.1 hv.1 (by omega) ⟨fun c => g1 (Or.inl c), fun c => ⟨fun c2 => g1 (Or.inr c2), fun c2 => g2 c c2⟩⟩))))
      have D : (stI v q = -1 ∨ stI v q = nI b) → P_X11_move_50 rs (nI b) (nI q) (fun r ra' => P_X12_move ms ma (nI b) (nI q) (fun r' mt mb => r = r' ∧ Inv us ua rs ra' ra2 sa sl ns na nl yt im mt mb ml)) ra := by
        intro hf
        refine ⟨vp_in_nI (by omega) (by decide), fun x hx => ⟨vp_in_nI (by omega) (by decide), ?_⟩⟩
        rw [nI_clamp (by omega), (hC.2.2.2.2.1 b hb).2.2.1] at hx
        subst hx
        rw [nI_clamp (by omega)]
        refine M _ (fun _ => ?_) (fun c c2 => absurd hf (fun o => o.elim c c2))
        show vp_in ((5 : Int32) * ((10 : Int32) * nI 0 + nI b) + 2) 250 ∧ (∀ x2 : Int32, x2 = (ma 11 (((5 : Int32) * ((10 : Int32) * nI 0 + nI b) + 2).toNatClampNeg)) → (vp_in ((5 : Int32) * ((10 : Int32) * nI 0 + nI b) + 2) 250 ∧ (nI (v 22 b) = x2 ∧ Inv us ua rs (va_up ra 6 (upd (ra 6) b (nI q))) ra2 sa sl ns na nl yt im (va_up ms 0 0) (va_up ma 11 (upd (ma 11) (((5 : Int32) * ((10 : Int32) * nI 0 + nI b) + 2).toNatClampNeg) (nI q))) ml)))
        rw [show (5 : Int32) * ((10 : Int32) * nI 0 + nI b) + 2 = nI (5 * (10 * 0 + b) + 2) from ix5 0 b 2, nI_clamp (by omega), (hM.1.2.2.2.1 b hb).2.2.1]
        refine ⟨vp_in_nI (by omega) (by decide), fun x hx => ⟨vp_in_nI (by omega) (by decide), hx.symm, ?_⟩⟩
        have hM' := hM.p b q
        have hG : MG (va_up ms 0 0) ma ml (va_up ms 0 0) (va_up ma 11 (upd (ma 11) (5 * (10 * 0 + b) + 2) (nI q))) ml := MG.b (by omega) _
        exact hI.step ((MG.z ms ma ml).trans hG) (hv.p (by omega)) (hC.p b q) hM'.1 hM'.2.1 ((hP.vs b q (by decide) (by decide) (by decide)).eq (up_ne (by decide)) (up_ne (by decide))) ((hY.vs b q (by decide) (by decide) (by decide)).eq (up_ne (by decide))) hB hK
      refine ⟨fun c => D (Or.inl c), fun c => ⟨fun c2 => D (Or.inr c2), fun c2 => M _ (fun o => absurd o (fun o => o.elim c c2)) (fun _ _ => ⟨rfl, fin⟩)⟩⟩
theorem q_swap (hI : Inv us ua rs ra ra2 sa sl ns na nl yt im ms ma ml) (p w : Int32) : P_X11_swap rs ra ns na nl p w (fun r ra' ns' na' nl' => P_X12_swap ms ma ml p w (fun r' mt mb mk => r = r' ∧ Inv us ua rs ra' ra2 sa sl ns' na' nl' yt im mt mb mk)) := by
  obtain ⟨v, hv, hC, hM, hP, hY, hK, hB, F⟩ := hI.get
  have h13 := ok13 hv.1
  have fin := F ra2 ns na nl _ _ _ (MG.refl _ _ _) hM.1 hB hK
  rcases two_cases hC hM.1 hv.1 p w with ⟨h1, h2⟩ | ⟨a, b, ha, hb, hab, rfl, rfl⟩
  · exact h1 _ (b0t (h2 _ (b0t ⟨rfl, fin⟩)))
  · have ca := (hC.2.2.2.2.1 a ha).2.2.1
    have cb := (hC.2.2.2.2.1 b hb).2.2.1
    have hv2 : okR (vs (vs v 22 a (v 22 b)) 22 b (v 22 a)) := (hv.p (hv.1.2.2.2.2.1 b hb).2.2.1).p (hv.1.2.2.2.2.1 a ha).2.2.1
    refine c_two hC hv.1 ha hb hab (b1t (c_allOn (w := 1) hC hv.1 hK (by decide) (fun n1 a1 l1 hK1 => ⟨vp_in_nI (by omega) (by decide), fun x hx => ⟨vp_in_nI (by omega) (by decide), vp_in_nI (by omega) (by decide), vp_in_nI (by omega) (by decide), ?_⟩⟩)))
    rw [nI_clamp (by omega), ca] at hx
    subst hx
    rw [nI_clamp (by omega), nI_clamp (by omega), cb]
    have hC2 := (hC.p a (v 22 b)).p b (v 22 a)
    rw [up_at, bx_uu] at hC2
    have M : ∀ (Q : Int32 → A1 → A2 → L2 → Prop), (∀ mt mb mk, RM (vs (vs v 22 a (v 22 b)) 22 b (v 22 a)) 0 mt mb → MG (va_up ms 0 0) ma ml mt mb mk → ((allL v 1 ≤ allL (vs (vs v 22 a (v 22 b)) 22 b (v 22 a)) 1) → Q 0 mt mb mk) ∧ ((¬ allL v 1 ≤ allL (vs (vs v 22 a (v 22 b)) 22 b (v 22 a)) 1) → Q 1 mt mb mk)) → P_X12_swap ms ma ml (nI a) (nI b) Q := by
      intro Q g
      refine m_two hM.1 hv.1 ha hb hab (b1t (m_allNow (w := 1) hv.1 hv.2.1 hM (by decide) (fun m3 a3 l3 hF => ?_)))
      have hM3 := hF.rm hM
      have ma3 := (hM3.1.2.2.2.1 a ha).2.2.1
      have mb3 := (hM3.1.2.2.2.1 b hb).2.2.1
      show vp_in ((5 : Int32) * ((10 : Int32) * nI 0 + nI a) + 2) 250 ∧ (∀ x8 : Int32, x8 = (a3 11 (((5 : Int32) * ((10 : Int32) * nI 0 + nI a) + 2).toNatClampNeg)) → (vp_in ((5 : Int32) * ((10 : Int32) * nI 0 + nI b) + 2) 250 ∧ (vp_in ((5 : Int32) * ((10 : Int32) * nI 0 + nI a) + 2) 250 ∧ (vp_in ((5 : Int32) * ((10 : Int32) * nI 0 + nI b) + 2) 250 ∧ (P_X12_allNow m3 (va_up a3 11 (upd (upd (a3 11) (((5 : Int32) * ((10 : Int32) * nI 0 + nI a) + 2).toNatClampNeg) (a3 11 (((5 : Int32) * ((10 : Int32) * nI 0 + nI b) + 2).toNatClampNeg))) (((5 : Int32) * ((10 : Int32) * nI 0 + nI b) + 2).toNatClampNeg) x8)) l3 1 (fun (r15 : Int64) (ms_12 : Nat → Int32) (ma_13 : Nat → Nat → Int32) (ml_14 : Nat → Nat → Int64) => (((allL v 1 ≤ r15) → Q 0 ms_12 ma_13 ml_14) ∧ ((¬ allL v 1 ≤ r15) → Q 1 ms_12 ma_13 ml_14))))))))
      rw [show (5 : Int32) * ((10 : Int32) * nI 0 + nI a) + 2 = nI (5 * (10 * 0 + a) + 2) from ix5 0 a 2, show (5 : Int32) * ((10 : Int32) * nI 0 + nI b) + 2 = nI (5 * (10 * 0 + b) + 2) from ix5 0 b 2, nI_clamp (by omega), nI_clamp (by omega), ma3, mb3]
      refine ⟨vp_in_nI (by omega) (by decide), fun x8 h8 => ⟨vp_in_nI (by omega) (by decide), vp_in_nI (by omega) (by decide), vp_in_nI (by omega) (by decide), ?_⟩⟩
      subst h8
      have hM4 := (hM3.p a (v 22 b)).p b (v 22 a)
      rw [up_at, bx_uu] at hM4
      have hG4 : MG m3 a3 l3 m3 (va_up a3 11 (upd (upd (a3 11) (5 * (10 * 0 + a) + 2) (nI (v 22 b))) (5 * (10 * 0 + b) + 2) (nI (v 22 a)))) l3 := MG.a11 (fun y hy => by rw [u_ne (by omega), u_ne (by omega)])
      exact m_allNow (w := 1) hv2.1 hv2.2.1 hM4 (by decide) (fun m5 a5 l5 hF5 => g m5 a5 l5 (hF5.rm hM4) ((hF.g.trans hG4).trans hF5.g))
    have FF : ∀ (ra' : A2) (ns' : A1) (na' : A2) (nl' : L2) (mt : A1) (mb : A2) (mk : L2), RelC (vs (vs v 22 a (v 22 b)) 22 b (v 22 a)) rs ra' → NOK ns' na' nl' → RM (vs (vs v 22 a (v 22 b)) 22 b (v 22 a)) 0 mt mb → MG (va_up ms 0 0) ma ml mt mb mk → Inv us ua rs ra' ra2 sa sl ns' na' nl' yt im mt mb mk := fun ra' ns' na' nl' mt mb mk c1 c2 c3 c4 => hI.step ((MG.z ms ma ml).trans c4) hv2 c1 c3.1 c3.2.1 (((hP.vs a _ (by decide) (by decide) (by decide)).vs b _ (by decide) (by decide) (by decide)).eq (c4.2.1 6 (by decide) (by decide) (by decide) (by decide)) (c4.2.1 7 (by decide) (by decide) (by decide) (by decide))) (((hY.vs a _ (by decide) (by decide) (by decide)).vs b _ (by decide) (by decide) (by decide)).eq (c4.2.1 16 (by decide) (by decide) (by decide) (by decide))) hB c2
    refine c_allOn (w := 1) hC2 hv2.1 hK1 (by decide) (fun n2 a2 l2 hK2 => ⟨fun c => M _ (fun mt mb mk hMm hG => ⟨fun _ => ⟨rfl, FF _ _ _ _ _ _ _ hC2 hK2 hMm hG⟩, fun c2 => absurd c c2⟩), fun c => M _ (fun mt mb mk hMm hG => ⟨fun c2 => absurd c2 c, fun _ => ⟨rfl, FF _ _ _ _ _ _ _ hC2 hK2 hMm hG⟩⟩)⟩)
def wI (v : Rl) (b : Nat) : Nat → Option (Nat × Int64)
  | 0 => none
  | p + 1 => if stI v p = -1 ∨ stI v p = nI b then mn (wI v b p) p (costL (vs v 22 b p) b) else wI v b p
theorem wI_le (v : Rl) (b : Nat) : ∀ p, ∀ q, wI v b p = some q → q.1 < p
  | 0 => by intro q hq; simp [wI] at hq
  | p + 1 => by
    have ih := wI_le v b p
    unfold wI
    split
    · exact mn_le (fun q hq => Nat.lt_succ_of_lt (ih q hq)) (Nat.lt_succ_self p)
    · exact fun q hq => Nat.lt_succ_of_lt (ih q hq)
theorem q_where (hI : Inv us ua rs ra ra2 sa sl ns na nl yt im ms ma ml) (rs2 : A1) (p : Int32) : P_X11_where rs ra rs2 ra2 ns na nl p (fun r _ ra2' ns' na' nl' => P_X12_where ms ma ml p (fun r' mt mb mk => r = r' ∧ Inv us ua rs ra ra2' sa sl ns' na' nl' yt im mt mb mk)) := by
  obtain ⟨v, hv, hC, hM, hP, hY, hK, hB, F⟩ := hI.get
  have h13 := ok13 hv.1
  have h0 := ok0 hv.1
  have fin := F ra2 ns na nl _ _ _ (MG.refl _ _ _) hM.1 hB hK
  rcases ixs p (n := v 13 0) (by omega) with h | ⟨b, hb, rfl⟩
  · exact c_hasB0 hC h (b0t (m_isB0 hM.1 hv.1 h (b0t ⟨rfl, fin⟩)))
  · refine c_hasB hC hv.1 hb (b1t (c_copyFrom hC hv.1 (fun rs' ra' hC1 hB1 _ => ?_)))
    have M : ∀ (ra3 : A2) (ns' : A1) (na' : A2) (nl' : L2), BOK ra3 → NOK ns' na' nl' → P_X12_where ms ma ml (nI b) (fun r' mt mb mk => oN (-1) (wI v b (v 0 0)) = r' ∧ Inv us ua rs ra ra3 sa sl ns' na' nl' yt im mt mb mk) := by
      intro ra3 ns' na' nl' hB3 hK3
      refine m_isB hM.1 hv.1 hb (b1t ?_)
      show vp_in ((5 : Int32) * ((10 : Int32) * nI 0 + nI b) + 2) 250 ∧ (∀ x17 : Int32, x17 = (ma 11 (((5 : Int32) * ((10 : Int32) * nI 0 + nI b) + 2).toNatClampNeg)) → _)
      rw [show (5 : Int32) * ((10 : Int32) * nI 0 + nI b) + 2 = nI (5 * (10 * 0 + b) + 2) from ix5 0 b 2, nI_clamp (by omega), (hM.1.2.2.2.1 b hb).2.2.1]
      refine ⟨vp_in_nI (by omega) (by decide), fun x hx => ?_⟩
      subst hx
      have L : ∀ (k i : Nat) (my : A1) (ay : A2) (ly : L2) (u : Rl), i + k = v 0 0 → RM u 0 my ay → u 0 0 = v 0 0 → (∀ q, vs u 22 b q = vs v 22 b q) → MG (va_up ms 0 0) ma ml my ay ly → P_X12_where_37 (nI b) (fun r' mt mb mk => oN (-1) (wI v b (v 0 0)) = r' ∧ Inv us ua rs ra ra3 sa sl ns' na' nl' yt im mt mb mk) (fun (x2_ : Int32) (x3_ : Int32) (ms : Nat → Int32) (ma : Nat → Nat → Int32) (ml : Nat → Nat → Int64) => P_X12_where_134 (nI b) (fun r' mt mb mk => oN (-1) (wI v b (v 0 0)) = r' ∧ Inv us ua rs ra ra3 sa sl ns' na' nl' yt im mt mb mk) x2_ x3_ ms ma ml) (nI (v 22 b)) (k + 1) (oN (-1) (wI v b i)) (oV 0 (wI v b i)) (nI i) my ay ly := by
        intro k
        induction k with
        | zero =>
          intro i my ay ly u hi r1 r2 r3 r4
          obtain rfl : i = v 0 0 := by omega
          have e : ay 4 0 = nI (v 0 0) := by rw [r1.1.1.2.1, r2]
          refine ⟨fun _ => ?_, fun c => absurd ((cmp_le e (by omega) (by omega)).mpr (Nat.le_refl _)) c⟩
          show vp_in ((5 : Int32) * ((10 : Int32) * nI 0 + nI b) + 2) 250 ∧ (oN (-1) (wI v b (v 0 0)) = oN (-1) (wI v b (v 0 0)) ∧ Inv us ua rs ra ra3 sa sl ns' na' nl' yt im my (va_up ay 11 (upd (ay 11) (((5 : Int32) * ((10 : Int32) * nI 0 + nI b) + 2).toNatClampNeg) (nI (v 22 b)))) ly)
          rw [show (5 : Int32) * ((10 : Int32) * nI 0 + nI b) + 2 = nI (5 * (10 * 0 + b) + 2) from ix5 0 b 2, nI_clamp (by omega)]
          have hM4 := r1.p b (v 22 b)
          rw [r3, vs_self] at hM4
          exact ⟨vp_in_nI (by omega) (by decide), rfl, F _ _ _ _ _ _ _ (r4.trans (MG.b (by omega) _)) hM4.1 hB3 hK3⟩
        | succ k ih =>
          intro i my ay ly u hi r1 r2 r3 r4
          have e : ay 4 0 = nI (v 0 0) := by rw [r1.1.1.2.1, r2]
          refine ⟨fun c => absurd ((cmp_le e (by omega) (by omega)).mp c) (by omega), fun _ => ?_⟩
          show vp_in ((5 : Int32) * ((10 : Int32) * nI 0 + nI b) + 2) 250 ∧ (P_X12_standsAt (va_up ay 11 (upd (ay 11) (((5 : Int32) * ((10 : Int32) * nI 0 + nI b) + 2).toNatClampNeg) (nI (v 22 b)))) (nI i) (fun r11 => ((r11 = (-1)) → P_X12_where_84 (nI b) (nI (v 22 b)) (fun r' mt mb mk => oN (-1) (wI v b (v 0 0)) = r' ∧ Inv us ua rs ra ra3 sa sl ns' na' nl' yt im mt mb mk) _ (oN (-1) (wI v b i)) (oV 0 (wI v b i)) (nI i) my (va_up ay 11 (upd (ay 11) (((5 : Int32) * ((10 : Int32) * nI 0 + nI b) + 2).toNatClampNeg) (nI (v 22 b)))) ly) ∧ ((¬ r11 = (-1)) → ((r11 = nI b) → P_X12_where_84 (nI b) (nI (v 22 b)) (fun r' mt mb mk => oN (-1) (wI v b (v 0 0)) = r' ∧ Inv us ua rs ra ra3 sa sl ns' na' nl' yt im mt mb mk) _ (oN (-1) (wI v b i)) (oV 0 (wI v b i)) (nI i) my (va_up ay 11 (upd (ay 11) (((5 : Int32) * ((10 : Int32) * nI 0 + nI b) + 2).toNatClampNeg) (nI (v 22 b)))) ly) ∧ ((¬ r11 = nI b) → _))))
          rw [show (5 : Int32) * ((10 : Int32) * nI 0 + nI b) + 2 = nI (5 * (10 * 0 + b) + 2) from ix5 0 b 2, nI_clamp (by omega)]
          refine ⟨vp_in_nI (by omega) (by decide), ?_⟩
          have hM4 := r1.p b (v 22 b)
          rw [r3, vs_self] at hM4
          have hG4 : MG (va_up ms 0 0) ma ml my (va_up ay 11 (upd (ay 11) (5 * (10 * 0 + b) + 2) (nI (v 22 b)))) ly := r4.trans (MG.b (by omega) _)
          refine m_stands hM4.1 hv.1 (by omega) ?_
          have D : (stI v i = -1 ∨ stI v i = nI b) → P_X12_where_84 (nI b) (nI (v 22 b)) (fun r' mt mb mk => oN (-1) (wI v b (v 0 0)) = r' ∧ Inv us ua rs ra ra3 sa sl ns' na' nl' yt im mt mb mk) (P_X12_where_37 (nI b) (fun r' mt mb mk => oN (-1) (wI v b (v 0 0)) = r' ∧ Inv us ua rs ra ra3 sa sl ns' na' nl' yt im mt mb mk) (fun (x2_ : Int32) (x3_ : Int32) (ms : Nat → Int32) (ma : Nat → Nat → Int32) (ml : Nat → Nat → Int64) => P_X12_where_134 (nI b) (fun r' mt mb mk => oN (-1) (wI v b (v 0 0)) = r' ∧ Inv us ua rs ra ra3 sa sl ns' na' nl' yt im mt mb mk) x2_ x3_ ms ma ml) (nI (v 22 b)) (k + 1)) (oN (-1) (wI v b i)) (oV 0 (wI v b i)) (nI i) my (va_up ay 11 (upd (ay 11) (5 * (10 * 0 + b) + 2) (nI (v 22 b)))) ly := by
            intro hf
            show vp_in ((5 : Int32) * ((10 : Int32) * nI 0 + nI b) + 2) 250 ∧ (P_X12_costNow my (va_up (va_up ay 11 (upd (ay 11) (5 * (10 * 0 + b) + 2) (nI (v 22 b)))) 11 (upd ((va_up ay 11 (upd (ay 11) (5 * (10 * 0 + b) + 2) (nI (v 22 b)))) 11) (((5 : Int32) * ((10 : Int32) * nI 0 + nI b) + 2).toNatClampNeg) (nI i))) ly (nI b) _)
            rw [show (5 : Int32) * ((10 : Int32) * nI 0 + nI b) + 2 = nI (5 * (10 * 0 + b) + 2) from ix5 0 b 2, nI_clamp (by omega)]
            refine ⟨vp_in_nI (by omega) (by decide), ?_⟩
            have hM5 := hM4.p b i
            have hv5 : okR (vs v 22 b i) := hv.p (by omega)
            refine m_costNow hv5.1 hv5.2.1 hM5 (by rw [vs_f (by decide)]; exact hb) (fun m6 a6 l6 hF => ?_)
            have go := ih (i + 1) m6 a6 l6 (vs v 22 b i) (by omega) (hF.rm hM5) (by rw [vs_f (by decide)]) (fun q => vs_vs v 22 b i q) ((hG4.trans (MG.b (by omega) _)).trans hF.g)
            rw [wI, if_pos hf] at go
            rw [nI_1]
            exact mn_m (A := fun n l => P_X12_where_37 (nI b) (fun r' mt mb mk => oN (-1) (wI v b (v 0 0)) = r' ∧ Inv us ua rs ra ra3 sa sl ns' na' nl' yt im mt mb mk) (fun (x2_ : Int32) (x3_ : Int32) (ms : Nat → Int32) (ma : Nat → Nat → Int32) (ml : Nat → Nat → Int64) => P_X12_where_134 (nI b) (fun r' mt mb mk => oN (-1) (wI v b (v 0 0)) = r' ∧ Inv us ua rs ra ra3 sa sl ns' na' nl' yt im mt mb mk) x2_ x3_ ms ma ml) (nI (v 22 b)) (k + 1) n l (nI (i + 1)) m6 a6 l6) (fun q hq => by have := wI_le v b i q hq; omega) 0 go
          refine ⟨fun c => D (Or.inl c), fun c => ⟨fun c2 => D (Or.inr c2), fun c2 => ?_⟩⟩
          have go := ih (i + 1) my _ ly v (by omega) hM4 rfl (fun _ => rfl) hG4
          rw [wI, if_neg (fun o => o.elim c c2)] at go
          rw [nI_1, show (5 : Int32) * ((10 : Int32) * 0 + nI b) + 2 = nI (5 * (10 * 0 + b) + 2) from ix5 0 b 2, nI_clamp (by omega)]
          exact go
      exact ⟨v 0 0 + 1, L (v 0 0) 0 _ _ _ v (by omega) hM rfl (fun _ => rfl) (MG.refl _ _ _)⟩
    have L : ∀ (k i : Nat) (ry : A2) (ny : A1) (ay : A2) (ly : L2) (u : Rl), i + k = v 0 0 → RelC u rs' ry → (∀ q, vs u 22 b q = vs v 22 b q) → NOK ny ay ly → P_X11_where_34 rs ra (nI b) (fun r _ ra2' ns' na' nl' => P_X12_where ms ma ml (nI b) (fun r' mt mb mk => r = r' ∧ Inv us ua rs ra ra2' sa sl ns' na' nl' yt im mt mb mk)) rs' (k + 1) (oN (-1) (wI v b i)) (oV 9223372036854775807 (wI v b i)) (nI i) ry ny ay ly := by
      intro k
      induction k with
      | zero =>
        intro i ry ny ay ly u hi r1 r2 r3
        obtain rfl : i = v 0 0 := by omega
        exact ⟨fun _ => M ry ny ay ly r1.bok r3, fun c => absurd ((cmp_le (rc_s hC 0) (by omega) (by omega)).mpr (Nat.le_refl _)) c⟩
      | succ k ih =>
        intro i ry ny ay ly u hi r1 r2 r3
        refine ⟨fun c => absurd ((cmp_le (rc_s hC 0) (by omega) (by omega)).mp c) (by omega), fun _ => c_stands hC hv.1 (by omega) ?_⟩
        have D : (stI v i = -1 ∨ stI v i = nI b) → P_X11_where_75 rs ra (nI b) rs' (fun r _ ra2' ns' na' nl' => P_X12_where ms ma ml (nI b) (fun r' mt mb mk => r = r' ∧ Inv us ua rs ra ra2' sa sl ns' na' nl' yt im mt mb mk)) (P_X11_where_34 rs ra (nI b) (fun r _ ra2' ns' na' nl' => P_X12_where ms ma ml (nI b) (fun r' mt mb mk => r = r' ∧ Inv us ua rs ra ra2' sa sl ns' na' nl' yt im mt mb mk)) rs' (k + 1)) (oN (-1) (wI v b i)) (oV 9223372036854775807 (wI v b i)) (nI i) ry ny ay ly := by
          intro hf
          refine ⟨vp_in_nI (by omega) (by decide), ?_⟩
          rw [nI_clamp (by omega)]
          have hC5 := r1.p b i
          rw [r2] at hC5
          have hv5 : okR (vs v 22 b i) := hv.p (by omega)
          have hb5 : b < vs v 22 b i 13 0 := by rw [vs_f (by decide)]; exact hb
          refine c_costOn hC5 hv5.1 r3 hb5 (fun n6 a6 l6 hK6 => ?_)
          have go := ih (i + 1) _ n6 a6 l6 (vs v 22 b i) (by omega) hC5 (fun q => vs_vs v 22 b i q) hK6
          rw [wI, if_pos hf] at go
          rw [nI_1]
          exact mn_c (lt_top (by have := cost_rng hv5.1 hb5; omega)) (-1) (A := fun n l => P_X11_where_34 rs ra (nI b) (fun r _ ra2' ns' na' nl' => P_X12_where ms ma ml (nI b) (fun r' mt mb mk => r = r' ∧ Inv us ua rs ra ra2' sa sl ns' na' nl' yt im mt mb mk)) rs' (k + 1) n l (nI (i + 1)) (va_up ry 6 (upd (ry 6) b (nI i))) n6 a6 l6) go
        refine ⟨fun c => D (Or.inl c), fun c => ⟨fun c2 => D (Or.inr c2), fun c2 => ?_⟩⟩
        have go := ih (i + 1) ry ny ay ly u (by omega) r1 r2 r3
        rw [wI, if_neg (fun o => o.elim c c2)] at go
        rw [nI_1]
        exact go
    exact ⟨v 0 0 + 1, L (v 0 0) 0 ra' ns na nl v (by omega) hC1 (fun _ => rfl) hK⟩
end ST
end
section
/-! promises 35 to 38: one lamp more, the watchman -/
def xl (v : Rl) (p r : Nat) : Rl := fun f k => if f = 11 ∧ k = 0 then v 11 0 + 1 else if f = 16 ∧ k = v 11 0 then p else if f = 17 ∧ k = v 11 0 then r else v f k
theorem xl_f {v : Rl} {p r f : Nat} (h1 : f ≠ 11) (h2 : f ≠ 16) (h3 : f ≠ 17) : xl v p r f = v f := by
  funext k
  unfold xl
  rw [if_neg (fun q => h1 q.1), if_neg (fun q => h2 q.1), if_neg (fun q => h3 q.1)]
theorem xl_11 (v : Rl) (p r : Nat) : xl v p r 11 0 = v 11 0 + 1 := by unfold xl; simp
theorem xl_16 (v : Rl) (p r k : Nat) : xl v p r 16 k = if k = v 11 0 then p else v 16 k := by
  unfold xl
  by_cases c : k = v 11 0
  · simp [c]
  · simp [c]
theorem xl_17 (v : Rl) (p r k : Nat) : xl v p r 17 k = if k = v 11 0 then r else v 17 k := by
  unfold xl
  by_cases c : k = v 11 0
  · simp [c]
  · simp [c]
theorem okR.x {v : Rl} (hv : okR v) (h4 : v 11 0 ≤ 4) {p r : Nat} (hp : p < 20) (hr : r ≤ 99) : okR (xl v p r) := by
  obtain ⟨⟨h0, h1, h2, h3, h5, h6, h7⟩, hJ, hT⟩ := hv
  unfold okR okV okJ
  simp only [xl_f (v := v) (p := p) (r := r) (f := 0) (by decide) (by decide) (by decide), xl_f (v := v) (p := p) (r := r) (f := 1) (by decide) (by decide) (by decide), xl_f (v := v) (p := p) (r := r) (f := 2) (by decide) (by decide) (by decide), xl_f (v := v) (p := p) (r := r) (f := 3) (by decide) (by decide) (by decide), xl_f (v := v) (p := p) (r := r) (f := 4) (by decide) (by decide) (by decide), xl_f (v := v) (p := p) (r := r) (f := 5) (by decide) (by decide) (by decide), xl_f (v := v) (p := p) (r := r) (f := 6) (by decide) (by decide) (by decide), xl_f (v := v) (p := p) (r := r) (f := 7) (by decide) (by decide) (by decide), xl_f (v := v) (p := p) (r := r) (f := 8) (by decide) (by decide) (by decide), xl_f (v := v) (p := p) (r := r) (f := 9) (by decide) (by decide) (by decide), xl_f (v := v) (p := p) (r := r) (f := 10) (by decide) (by decide) (by decide), xl_f (v := v) (p := p) (r := r) (f := 12) (by decide) (by decide) (by decide), xl_f (v := v) (p := p) (r := r) (f := 13) (by decide) (by decide) (by decide), xl_f (v := v) (p := p) (r := r) (f := 14) (by decide) (by decide) (by decide), xl_f (v := v) (p := p) (r := r) (f := 15) (by decide) (by decide) (by decide), xl_f (v := v) (p := p) (r := r) (f := 18) (by decide) (by decide) (by decide), xl_f (v := v) (p := p) (r := r) (f := 19) (by decide) (by decide) (by decide), xl_f (v := v) (p := p) (r := r) (f := 20) (by decide) (by decide) (by decide), xl_f (v := v) (p := p) (r := r) (f := 21) (by decide) (by decide) (by decide), xl_f (v := v) (p := p) (r := r) (f := 22) (by decide) (by decide) (by decide), xl_f (v := v) (p := p) (r := r) (f := 23) (by decide) (by decide) (by decide), xl_f (v := v) (p := p) (r := r) (f := 24) (by decide) (by decide) (by decide), xl_f (v := v) (p := p) (r := r) (f := 25) (by decide) (by decide) (by decide), xl_f (v := v) (p := p) (r := r) (f := 26) (by decide) (by decide) (by decide), xl_f (v := v) (p := p) (r := r) (f := 27) (by decide) (by decide) (by decide), xl_f (v := v) (p := p) (r := r) (f := 28) (by decide) (by decide) (by decide), xl_f (v := v) (p := p) (r := r) (f := 29) (by decide) (by decide) (by decide), xl_11]
  obtain ⟨a0, a1, a2, a3, a4, a5, a6, a7, a8, a9, a10, a11, a12⟩ := h0
  refine ⟨⟨⟨a0, a1, a2, a3, a4, a5, a6, a7, a8, a9, a10, by omega, a12⟩, fun k hk => ?_, h2, h3, h5, h6, h7⟩, hJ, hT⟩
  rw [xl_16, xl_17]
  by_cases c : k = v 11 0
  · rw [if_pos c, if_pos c]; exact ⟨hp, hr⟩
  · rw [if_neg c, if_neg c]; exact h1 k (by omega)
theorem RelC.x {v : Rl} {rs : A1} {ra : A2} (hR : RelC v rs ra) (p r : Nat) : RelC (xl v p r) (va_up rs 11 (nI (v 11 0 + 1))) (va_up (va_up ra 0 (upd (ra 0) (v 11 0) (nI p))) 1 (upd (ra 1) (v 11 0) (nI r))) := by
  obtain ⟨r0, r1, r2, r3, r4, r5, r6, r7⟩ := hR
  unfold RelC
  simp only [xl_f (v := v) (p := p) (r := r) (f := 12) (by decide) (by decide) (by decide), xl_f (v := v) (p := p) (r := r) (f := 13) (by decide) (by decide) (by decide), xl_f (v := v) (p := p) (r := r) (f := 14) (by decide) (by decide) (by decide), xl_f (v := v) (p := p) (r := r) (f := 15) (by decide) (by decide) (by decide), xl_f (v := v) (p := p) (r := r) (f := 18) (by decide) (by decide) (by decide), xl_f (v := v) (p := p) (r := r) (f := 19) (by decide) (by decide) (by decide), xl_f (v := v) (p := p) (r := r) (f := 20) (by decide) (by decide) (by decide), xl_f (v := v) (p := p) (r := r) (f := 21) (by decide) (by decide) (by decide), xl_f (v := v) (p := p) (r := r) (f := 22) (by decide) (by decide) (by decide), xl_f (v := v) (p := p) (r := r) (f := 23) (by decide) (by decide) (by decide), xl_f (v := v) (p := p) (r := r) (f := 24) (by decide) (by decide) (by decide), xl_f (v := v) (p := p) (r := r) (f := 25) (by decide) (by decide) (by decide), xl_f (v := v) (p := p) (r := r) (f := 26) (by decide) (by decide) (by decide), xl_f (v := v) (p := p) (r := r) (f := 27) (by decide) (by decide) (by decide), xl_f (v := v) (p := p) (r := r) (f := 28) (by decide) (by decide) (by decide), xl_f (v := v) (p := p) (r := r) (f := 29) (by decide) (by decide) (by decide), xl_f (v := v) (p := p) (r := r) (f := 30) (by decide) (by decide) (by decide), xl_f (v := v) (p := p) (r := r) (f := 31) (by decide) (by decide) (by decide), xl_11]
  refine ⟨fun j hj => ?_, fun k hk => ?_, ?_⟩
  · by_cases q : j = 11
    · rw [q, up_at, xl_11]
    · rw [up_ne q, xl_f q (by omega) (by omega)]; exact r0 j hj
  · rw [xl_16, xl_17, up_ne (by decide), up_at, up_at]
    by_cases c : k = v 11 0
    · rw [if_pos c, if_pos c, c, u_at, u_at]; exact ⟨rfl, rfl⟩
    · rw [if_neg c, if_neg c, u_ne c, u_ne c]; exact r1 k (by omega)
  · simp only [va_up]
    simp only [Nat.reduceEqDiff, if_false]
    exact ⟨r2, r3, r4, r5, r6, r7⟩
theorem RelN.x {v : Rl} {j : Nat} {ma : A2} (hN : RelN v j ma) (p r : Nat) : RelN (xl v p r) j ma := by
  unfold RelN at hN ⊢
  simp only [xl_f (v := v) (p := p) (r := r) (f := 0) (by decide) (by decide) (by decide), xl_f (v := v) (p := p) (r := r) (f := 1) (by decide) (by decide) (by decide), xl_f (v := v) (p := p) (r := r) (f := 2) (by decide) (by decide) (by decide), xl_f (v := v) (p := p) (r := r) (f := 4) (by decide) (by decide) (by decide), xl_f (v := v) (p := p) (r := r) (f := 5) (by decide) (by decide) (by decide), xl_f (v := v) (p := p) (r := r) (f := 6) (by decide) (by decide) (by decide), xl_f (v := v) (p := p) (r := r) (f := 7) (by decide) (by decide) (by decide), xl_f (v := v) (p := p) (r := r) (f := 8) (by decide) (by decide) (by decide), xl_f (v := v) (p := p) (r := r) (f := 9) (by decide) (by decide) (by decide), xl_f (v := v) (p := p) (r := r) (f := 10) (by decide) (by decide) (by decide), xl_f (v := v) (p := p) (r := r) (f := 12) (by decide) (by decide) (by decide), xl_f (v := v) (p := p) (r := r) (f := 13) (by decide) (by decide) (by decide), xl_f (v := v) (p := p) (r := r) (f := 18) (by decide) (by decide) (by decide), xl_f (v := v) (p := p) (r := r) (f := 19) (by decide) (by decide) (by decide), xl_f (v := v) (p := p) (r := r) (f := 20) (by decide) (by decide) (by decide), xl_f (v := v) (p := p) (r := r) (f := 21) (by decide) (by decide) (by decide), xl_f (v := v) (p := p) (r := r) (f := 22) (by decide) (by decide) (by decide), xl_f (v := v) (p := p) (r := r) (f := 23) (by decide) (by decide) (by decide), xl_f (v := v) (p := p) (r := r) (f := 24) (by decide) (by decide) (by decide)]
  exact hN
theorem RelT.x {v : Rl} {j : Nat} {ma : A2} (hT : RelT v j ma) (p r : Nat) : RelT (xl v p r) j ma := by
  unfold RelT at hT ⊢
  simp only [xl_f (v := v) (p := p) (r := r) (f := 14) (by decide) (by decide) (by decide), xl_f (v := v) (p := p) (r := r) (f := 25) (by decide) (by decide) (by decide), xl_f (v := v) (p := p) (r := r) (f := 26) (by decide) (by decide) (by decide), xl_f (v := v) (p := p) (r := r) (f := 27) (by decide) (by decide) (by decide), xl_f (v := v) (p := p) (r := r) (f := 28) (by decide) (by decide) (by decide), xl_f (v := v) (p := p) (r := r) (f := 29) (by decide) (by decide) (by decide)]
  exact hT
theorem LX.x {v : Rl} (hv : okV v) {j : Nat} {ms : A1} {ma : A2} (hP : RelP v j ma) {p r : Nat} (hp : p < 20) (hr : r ≤ 99) (h10 : ms 10 = nI p) (h11 : ms 11 = nI r) : LX (xl v p r) j ms ma := by
  obtain ⟨h1, h2, h3⟩ := hP
  refine ⟨v 11 0, v 16, v 17, p, r, h1, h2, fun k hk => ⟨(h3 k hk).1, (h3 k hk).2, hv.2.1 k hk⟩, h10, h11, hp, hr, fun q _ => ?_⟩
  rw [xl_11, sumN, xl_16, xl_17, if_pos rfl, if_pos rfl]
  congr 1
  exact sumN_cong (fun k hk => by rw [xl_16, xl_17, if_neg (by omega), if_neg (by omega)])
section LA
variable {us : A1} {ua : A2} {rs : A1} {ra ra2 sa : A2} {sl : L2} {ns : A1} {na : A2} {nl : L2} {yt : Int32} {im : Img} {ms : A1} {ma : A2} {ml : L2}
theorem c_lossLit {v : Rl} (hv : okR v) (h4 : v 11 0 ≤ 4) (hC : RelC v rs ra) (hK : NOK ns na nl) (rs2 : A1) {p r : Nat} (hp : p < 20) (hr : r ≤ 99) {post : Int64 → A1 → A2 → A1 → A2 → L2 → Prop} (h : ∀ rs' ra' ns' na' nl', BOK ra' → NOK ns' na' nl' → post (allL (xl v p r) 1) rs' ra' ns' na' nl') : P_X11_lossLit rs ra rs2 ra2 ns na nl (nI p) (nI r) post := by
  refine c_copyFrom hC hv.1 (fun rs' ra' hC1 hB1 _ => ?_)
  unfold P_X1_add
  rw [rc_s hC1 11]
  refine ⟨fun c => absurd ((nI_ltI (a := 4) (by decide) (by omega)).mp c) (by omega), fun _ => ⟨vp_in_nI (by omega) (by decide), vp_in_nI (by omega) (by decide), fun x hx => ?_⟩⟩
  rw [nI_1] at hx
  subst hx
  rw [nI_clamp (by omega)]
  have hC2 := hC1.x p r
  exact c_allOn (w := 1) hC2 (hv.x h4 hp hr).1 hK (by decide) (fun n1 a1 l1 hK1 => h _ _ _ _ _ hC2.bok hK1)
theorem m_litBy {v : Rl} (hv : okR v) (hM : RM v 0 ms ma) (hP : RelP v 0 ma) (h10 : ms 10 = 0) (h11 : ms 11 = 0) {p r : Nat} (hp : p < 20) (hr : r ≤ 99) {post : Int64 → A1 → A2 → L2 → Prop} (h : ∀ mt mb mk, RM v 0 mt mb → MG ms ma ml mt mb mk → post (allL (xl v p r) 1) mt mb mk) : P_X12_litBy ms ma ml (nI p) (nI r) post := by
  have hv' := hv.x hP.2.1 hp hr
  have hM2 : RM (xl v p r) 0 (va_up (va_up ms 10 (nI p)) 11 (nI r)) ma := ⟨hM.1.x p r, hM.2.1.x p r, LX.x hv.1 hP hp hr (by rw [up_ne (by decide), up_at]) up_at⟩
  refine m_allNow (w := 1) hv'.1 hv'.2.1 hM2 (by decide) (fun mt mb mk hF => h _ _ _ ⟨hM.1.fr (fun i _ _ => hF.2.1 i (by omega) (by omega)), hM.2.1.fr (fun i _ _ => hF.2.1 i (by omega) (by omega)), LX.of hv.1 (hP.fr (fun i _ _ => hF.2.1 i (by omega) (by omega))) (by rw [up_ne (by decide), up_at]) up_at⟩ ⟨fun j j0 j12 j13 => ?_, hF.g.2⟩)
  by_cases c11 : j = 11
  · rw [c11, up_at, h11]
  · rw [up_ne c11]
    by_cases c10 : j = 10
    · rw [c10, up_at, h10]
    · rw [up_ne c10, hF.1 j j12, up_ne c11, up_ne c10]
theorem c_bright {r : Nat} (h : r < 100) {post : Int32 → Prop} (hp : post 1) : P_X11_isBright (nI r) post := ⟨fun c => absurd c (nI_pos (by omega)), fun _ => ⟨fun c => absurd ((nI_ltI (a := 99) (by decide) (by omega)).mp c) (by omega), fun _ => hp⟩⟩
theorem c_bright0 {x : Int32} (h : x < 0 ∨ nI 100 ≤ x) {post : Int32 → Prop} (hp : post 0) : P_X11_isBright x post := by
  refine ⟨fun _ => hp, fun c => ⟨fun _ => hp, fun c2 => absurd ?_ c2⟩⟩
  have h2 := h.resolve_left c
  rw [Int32.le_iff_toInt_le, nI_toInt (by decide)] at h2
  rw [Int32.lt_iff_toInt_lt, show (99 : Int32).toInt = 99 from rfl]
  omega
theorem m_bright {r : Nat} (h : r < 100) {post : Int32 → Prop} (hp : post 1) : P_X12_isBright (nI r) post := m_inL_ok (m := 99) (by omega) (by decide) ⟨Or.inr rfl, hp⟩
theorem m_bright0 {x : Int32} (h : x < 0 ∨ nI 100 ≤ x) {post : Int32 → Prop} (hp : post 0) : P_X12_isBright x post := m_inL_bad (m := 99) h (by decide) ⟨Or.inl rfl, hp⟩
theorem q_lit (hI : Inv us ua rs ra ra2 sa sl ns na nl yt im ms ma ml) (rs2 : A1) (p w : Int32) : P_X11_lit rs ra rs2 ra2 ns na nl p w (fun r _ ra2' ns' na' nl' => P_X12_lit ms ma ml p w (fun r' mt mb mk => r = r' ∧ Inv us ua rs ra ra2' sa sl ns' na' nl' yt im mt mb mk)) := by
  have h1011 := hI.2.2.2.2.2.2.1
  obtain ⟨v, hv, hC, hM, hP, hY, hK, hB, F⟩ := hI.get
  have h0 := ok0 hv.1
  have fin := F ra2 ns na nl _ _ _ (MG.refl _ _ _) hM.1 hB hK
  rcases ixs p (n := v 0 0) (by omega) with h | ⟨q, hq, rfl⟩
  · exact c_hasP0 hC h (b0f (m_isP0 hM.1 hv.1 h (b0f ⟨rfl, fin⟩)))
  · rcases ixs w (n := 100) (by decide) with h | ⟨r, hr, rfl⟩
    · exact c_hasP hC hv.1 hq (b1f (c_bright0 h (b0f (m_isP hM.1 hv.1 hq (b1f (m_bright0 h (b0f ⟨rfl, fin⟩)))))))
    · refine c_hasP hC hv.1 hq (b1f (c_bright hr (b1f (c_lossLit hv hP.2.1 hC hK rs2 (by omega) (by omega) (fun rs' ra' ns' na' nl' hB' hK' => ?_)))))
      exact m_isP hM.1 hv.1 hq (b1f (m_bright hr (b1f (m_litBy hv hM hP (by rw [up_ne (by decide)]; exact h1011.1) (by rw [up_ne (by decide)]; exact h1011.2) (by omega) (by omega) (fun mt mb mk hM' hG => ⟨rfl, F _ _ _ _ _ _ _ hG hM'.1 hB' hK'⟩)))))
def lpI (v : Rl) (r : Nat) : Nat → Option (Nat × Int64)
  | 0 => none
  | p + 1 => mn (lpI v r p) p (allL (xl v p r) 1)
theorem lpI_le (v : Rl) (r : Nat) : ∀ p, ∀ q, lpI v r p = some q → q.1 < p
  | 0 => by intro q hq; simp [lpI] at hq
  | p + 1 => by
    rw [lpI]
    exact mn_le (fun q hq => Nat.lt_succ_of_lt (lpI_le v r p q hq)) (Nat.lt_succ_self p)
theorem q_lamp (hI : Inv us ua rs ra ra2 sa sl ns na nl yt im ms ma ml) (rs2 : A1) (w : Int32) : P_X11_lamp rs ra rs2 ra2 ns na nl w (fun r _ ra2' ns' na' nl' => P_X12_lamp ms ma ml w (fun r' mt mb mk => r = r' ∧ Inv us ua rs ra ra2' sa sl ns' na' nl' yt im mt mb mk)) := by
  have h1011 := hI.2.2.2.2.2.2.1
  obtain ⟨v, hv, hC, hM, hP, hY, hK, hB, F⟩ := hI.get
  have h0 := ok0 hv.1
  have fin := F ra2 ns na nl _ _ _ (MG.refl _ _ _) hM.1 hB hK
  rcases Nat.eq_zero_or_pos (v 2 0) with z | z
  · exact c_told0 hC z (b0f (m_rail0 hM.1 hv.1 z (b0f ⟨rfl, fin⟩)))
  · rcases ixs w (n := 100) (by decide) with h | ⟨r, hr, rfl⟩
    · exact c_told hC hv.1 z (b1f (c_bright0 h (b0t (m_rail hM.1 hv.1 z (b1f (m_bright0 h (b0t ⟨rfl, fin⟩)))))))
    · have M : ∀ (ra3 : A2) (ns' : A1) (na' : A2) (nl' : L2), BOK ra3 → NOK ns' na' nl' → P_X12_lamp ms ma ml (nI r) (fun r' mt mb mk => oN (-1) (lpI v r (v 0 0)) = r' ∧ Inv us ua rs ra ra3 sa sl ns' na' nl' yt im mt mb mk) := by
        intro ra3 ns' na' nl' hB3 hK3
        have L : ∀ (k i : Nat) (my : A1) (ay : A2) (ly : L2), i + k = v 0 0 → RM v 0 my ay → MG (va_up ms 0 0) ma ml my ay ly → P_X12_lamp_29 (nI r) (fun r' mt mb mk => oN (-1) (lpI v r (v 0 0)) = r' ∧ Inv us ua rs ra ra3 sa sl ns' na' nl' yt im mt mb mk) (k + 1) (oN (-1) (lpI v r i)) (oV 0 (lpI v r i)) (nI i) my ay ly := by
          intro k
          induction k with
          | zero =>
            intro i my ay ly hi r1 r2
            obtain rfl : i = v 0 0 := by omega
            exact ⟨fun _ => ⟨rfl, F _ _ _ _ _ _ _ r2 r1.1 hB3 hK3⟩, fun c => absurd ((cmp_le r1.1.1.2.1 (by omega) (by omega)).mpr (Nat.le_refl _)) c⟩
          | succ k ih =>
            intro i my ay ly hi r1 r2
            refine ⟨fun c => absurd ((cmp_le r1.1.1.2.1 (by omega) (by omega)).mp c) (by omega), fun _ => ?_⟩
            refine m_litBy hv r1 (hP.eq (r2.2.1 6 (by decide) (by decide) (by decide) (by decide)) (r2.2.1 7 (by decide) (by decide) (by decide) (by decide))) (by rw [r2.1 10 (by decide) (by decide) (by decide), up_ne (by decide)]; exact h1011.1) (by rw [r2.1 11 (by decide) (by decide) (by decide), up_ne (by decide)]; exact h1011.2) (by omega) (by omega) (fun mt mb mk hM' hG => ?_)
            have go := ih (i + 1) mt mb mk (by omega) hM' (r2.trans hG)
            rw [lpI] at go
            rw [nI_1]
            exact mn_m (A := fun n l => P_X12_lamp_29 (nI r) (fun r' mt mb mk => oN (-1) (lpI v r (v 0 0)) = r' ∧ Inv us ua rs ra ra3 sa sl ns' na' nl' yt im mt mb mk) (k + 1) n l (nI (i + 1)) mt mb mk) (fun q hq => by have := lpI_le v r i q hq; omega) 0 go
        exact m_rail hM.1 hv.1 z (b1f (m_bright hr (b1t ⟨v 0 0 + 1, L (v 0 0) 0 _ _ _ (by omega) hM (MG.refl _ _ _)⟩)))
      have L : ∀ (k i : Nat) (sx : A1) (ry : A2) (ny : A1) (ay : A2) (ly : L2), i + k = v 0 0 → BOK ry → NOK ny ay ly → P_X11_lamp_29 rs ra (nI r) (fun r' _ ra2' ns' na' nl' => P_X12_lamp ms ma ml (nI r) (fun r'' mt mb mk => r' = r'' ∧ Inv us ua rs ra ra2' sa sl ns' na' nl' yt im mt mb mk)) (k + 1) (oN (-1) (lpI v r i)) (oV 9223372036854775807 (lpI v r i)) (nI i) sx ry ny ay ly := by
        intro k
        induction k with
        | zero =>
          intro i sx ry ny ay ly hi r1 r2
          obtain rfl : i = v 0 0 := by omega
          exact ⟨fun _ => M ry ny ay ly r1 r2, fun c => absurd ((cmp_le (rc_s hC 0) (by omega) (by omega)).mpr (Nat.le_refl _)) c⟩
        | succ k ih =>
          intro i sx ry ny ay ly hi r1 r2
          refine ⟨fun c => absurd ((cmp_le (rc_s hC 0) (by omega) (by omega)).mp c) (by omega), fun _ => ?_⟩
          refine c_lossLit hv hP.2.1 hC r2 sx (by omega) (by omega) (fun rs' ra' ns' na' nl' hB' hK' => ?_)
          have go := ih (i + 1) rs' ra' ns' na' nl' (by omega) hB' hK'
          rw [lpI] at go
          rw [nI_1]
          exact mn_c (lt_top (by have := all_rng (hv.x hP.2.1 (show i < 20 by omega) (show r ≤ 99 by omega)).1 1; omega)) (-1) (A := fun n l => P_X11_lamp_29 rs ra (nI r) (fun r' _ ra2' ns' na' nl' => P_X12_lamp ms ma ml (nI r) (fun r'' mt mb mk => r' = r'' ∧ Inv us ua rs ra ra2' sa sl ns' na' nl' yt im mt mb mk)) (k + 1) n l (nI (i + 1)) rs' ra' ns' na' nl') go
      exact c_told hC hv.1 z (b1f (c_bright hr (b1t ⟨v 0 0 + 1, L (v 0 0) 0 rs2 ra2 ns na nl (by omega) hB hK⟩)))
/-! the watchman -/
theorem q_watch (hI : Inv us ua rs ra ra2 sa sl ns na nl yt im ms ma ml) (p : Int32) (hp : p = 0 ∨ p = 1) : P_X11_watch rs p (fun r rs' => P_X12_watch ms ma p (fun r' mt mb => r = r' ∧ Inv us ua rs' ra ra2 sa sl ns na nl yt im mt mb ml)) := by
  obtain ⟨v, hv, hC, hM, hP, hY, hK, hB, F⟩ := hI.get
  have h7 := ok7 hv.1
  have h10 := ok10 hv.1
  have fin := F ra2 ns na nl _ _ _ (MG.refl _ _ _) hM.1 hB hK
  have e7 : ma 14 3 = nI (v 7 0) := hM.1.2.2.2.2.2.2.2.1
  have e10 : ma 14 6 = nI (v 10 0) := hM.1.2.2.2.2.2.2.2.2.2.2
  obtain ⟨x, hx1, hx⟩ : ∃ x, x ≤ 1 ∧ p = nI x := by
    rcases hp with h | h
    · exact ⟨0, by decide, h⟩
    · exact ⟨1, by decide, h⟩
  have FF : Inv us ua (va_up rs 10 p) ra ra2 sa sl ns na nl yt im (va_up ms 0 0) (va_up ma 14 (upd (ma 14) 6 p)) ml := by
    rw [hx]
    have hM' := hM.w x
    have hG : MG (va_up ms 0 0) ma ml (va_up ms 0 0) (va_up ma 14 (upd (ma 14) 6 (nI x))) ml := MG.s _
    exact hI.step ((MG.z ms ma ml).trans hG) (hv.w hx1) (hC.w x) hM'.1 hM'.2.1 ((hP.vs 0 x (by decide) (by decide) (by decide)).eq (up_ne (by decide)) (up_ne (by decide))) ((hY.vs 0 x (by decide) (by decide) (by decide)).eq (up_ne (by decide))) hB hK
  have M : ¬ v 7 0 = 0 → ∀ r : Int32, r = nI (v 10 0) → P_X12_watch ms ma p (fun r' mt mb => r = r' ∧ Inv us ua (va_up rs 10 p) ra ra2 sa sl ns na nl yt im mt mb ml) := by
    intro h7n r hr
    refine ⟨fun _ y hy => ⟨fun c => ?_, fun c => ?_⟩, fun c => absurd ((cmp_eq (i := 0) e7 (by omega) (by decide)).mp c) h7n⟩
    · rw [e10] at hy
      rw [c] at FF ⊢
      exact ⟨hr.trans hy.symm, FF⟩
    · rw [e10] at hy
      have : p = 1 := hp.resolve_left c
      rw [this] at FF ⊢
      exact ⟨hr.trans hy.symm, FF⟩
  unfold P_X11_watch
  rw [rc_s hC 7, rc_s hC 10, show (0 : Int32) = nI 0 from rfl, nI_eq (by omega) (by decide), nI_eq (by omega) (by decide)]
  refine ⟨fun c => ⟨fun c2 => ⟨hp, M c _ (by rw [c2])⟩, fun c2 => ⟨hp, M c _ ?_⟩⟩, fun c => ?_⟩
  · have : v 10 0 = 1 := by omega
    rw [this]
    rfl
  · exact ⟨fun c2 => absurd (by rw [e7, c]; rfl) c2, fun _ => ⟨rfl, fin⟩⟩
/-! his penny -/
theorem sumL_sub (f g : Nat → Int64) : ∀ n : Nat, sumL (fun k => f k - g k) n = sumL f n - sumL g n
  | 0 => by simp [sumL]
  | n + 1 => by rw [sumL, sumL, sumL, sumL_sub f g n]; grind
def lsW (v : Rl) (b : Nat) : Int64 := lossL (vs v 10 0 0) b - lossL (vs v 10 0 1) b
theorem MG.l6 (x : Nat → Int64) : MG ms ma ml ms ma (va_up ml 6 x) := ⟨fun _ _ _ _ => rfl, fun _ _ _ _ _ => rfl, fun _ _ => rfl, fun _ _ => rfl, up_ne (by decide)⟩
theorem vs_ww (v : Rl) (x y : Nat) : vs (vs v 10 0 x) 10 0 y = vs v 10 0 y := vs_vs v 10 0 x y
theorem m_laysWatch {v : Rl} (hv : okR v) (hM : RM v 0 ms ma) {post : A1 → A2 → L2 → Prop} (h : ∀ mt mb mk, RM v 0 mt mb → MG ms ma ml mt mb mk → (∀ b, b < v 13 0 → mk 6 b = lsW v b) → post mt mb mk) : P_X12_laysWatch ms ma ml post := by
  have h13 := ok13 hv.1
  have hv0 := hv.w (x := 0) (by decide)
  have hv1 := hv.w (x := 1) (by decide)
  intro x8 h8
  rw [show ma 14 6 = nI (v 10 0) from hM.1.2.2.2.2.2.2.2.2.2.2] at h8
  subst h8
  have hMa := hM.w 0
  refine m_nightF hv0.1 hv0.2.1 hMa (fun m1 a1 l1 hF1 hP1 => ?_)
  have hM1 := hF1.rm hMa
  have hG1 : MG ms ma ml m1 a1 l1 := (MG.s _).trans hF1.g
  have LL : ∀ (m2 : A1) (a2 : A2), RM (vs v 10 0 1) 0 m2 a2 → ∀ (k i : Nat) (lx : L2), i + k = v 13 0 → MP (vs v 10 0 1) lx → MG ms ma ml m2 a2 lx → (∀ x, x < i → lx 6 x = lsW v x) → (∀ x, i ≤ x → x < v 13 0 → lx 6 x = lossL (vs v 10 0 0) x) → P_X12_laysWatch_63 post (nI (v 10 0)) m2 a2 (k + 1) (nI i) lx := by
    intro m2 a2 hM2 k
    have e : a2 10 0 = nI (v 13 0) := by rw [hM2.1.1.2.2.2.2, vs_f (by decide)]
    induction k with
    | zero =>
      intro i lx hi q0 qG q1 q2
      obtain rfl : i = v 13 0 := by omega
      refine ⟨fun _ => ?_, fun c => absurd ((cmp_le e (by omega) (by omega)).mpr (Nat.le_refl _)) c⟩
      have hM3 := hM2.w (v 10 0)
      rw [vs_ww, vs_self] at hM3
      exact h _ _ _ hM3 (qG.trans (MG.s _)) q1
    | succ k ih =>
      intro i lx hi q0 qG q1 q2
      refine ⟨fun c => absurd ((cmp_le e (by omega) (by omega)).mp c) (by omega), fun _ => ⟨vp_in_nI (by omega) (by decide), ?_⟩⟩
      refine m_lossOf hv1.1 hM2.1 q0 (by rw [vs_f (by decide)]; omega) ⟨vp_in_nI (by omega) (by decide), ?_⟩
      rw [nI_1, nI_clamp (by omega), q2 i (Nat.le_refl _) (by omega)]
      refine ih (i + 1) _ (by omega) ?_ (qG.trans (MG.l6 _)) (fun x hx => ?_) (fun x h1 h2 => by rw [up_at, uL_ne (by omega)]; exact q2 x (by omega) h2)
      · unfold MP at q0 ⊢
        rw [up_ne (by decide), up_ne (by decide)]
        exact q0
      · rw [up_at]
        by_cases c : x = i
        · rw [c, uL_at]; rfl
        · rw [uL_ne c]; exact q1 x (by omega)
  have e1 : a1 10 0 = nI (v 13 0) := by rw [hM1.1.1.2.2.2.2, vs_f (by decide)]
  have L1 : ∀ (k i : Nat) (lx : L2), i + k = v 13 0 → MP (vs v 10 0 0) lx → MG ms ma ml m1 a1 lx → (∀ x, x < i → lx 6 x = lossL (vs v 10 0 0) x) → P_X12_laysWatch_22 post (fun (x1_ : Int32) (ms : Nat → Int32) (ma : Nat → Nat → Int32) (ml : Nat → Nat → Int64) => P_X12_laysWatch_49 post x1_ ms ma ml) (nI (v 10 0)) m1 a1 (k + 1) (nI i) lx := by
    intro k
    induction k with
    | zero =>
      intro i lx hi q0 qG q1
      obtain rfl : i = v 13 0 := by omega
      refine ⟨fun _ => ?_, fun c => absurd ((cmp_le e1 (by omega) (by omega)).mpr (Nat.le_refl _)) c⟩
      have hMb := hM1.w 1
      rw [vs_ww] at hMb
      refine m_nightF hv1.1 hv1.2.1 hMb (fun m3 a3 l3 hF3 hP3 => ?_)
      exact ⟨v 13 0 + 1, LL m3 a3 (hF3.rm hMb) (v 13 0) 0 l3 (by omega) hP3 ((qG.trans (MG.s _)).trans hF3.g) (fun x hx => by omega) (fun x _ hx => by rw [hF3.2.2 6 (by decide) (by decide) (by decide)]; exact q1 x hx)⟩
    | succ k ih =>
      intro i lx hi q0 qG q1
      refine ⟨fun c => absurd ((cmp_le e1 (by omega) (by omega)).mp c) (by omega), fun _ => ?_⟩
      refine m_lossOf hv0.1 hM1.1 q0 (by rw [vs_f (by decide)]; omega) ⟨vp_in_nI (by omega) (by decide), ?_⟩
      rw [nI_1, nI_clamp (by omega)]
      refine ih (i + 1) _ (by omega) ?_ (qG.trans (MG.l6 _)) (fun x hx => ?_)
      · unfold MP at q0 ⊢
        rw [up_ne (by decide), up_ne (by decide)]
        exact q0
      · rw [up_at]
        by_cases c : x = i
        · rw [c, uL_at]
        · rw [uL_ne c]; exact q1 x (by omega)
  exact ⟨v 13 0 + 1, L1 (v 13 0) 0 l1 (by omega) hP1 hG1 (fun x hx => by omega)⟩
theorem q_penny (hI : Inv us ua rs ra ra2 sa sl ns na nl yt im ms ma ml) (rs2 : A1) : P_X11_penny rs ra rs2 ra2 ns na nl (fun r _ ra2' ns' na' nl' => P_X12_penny ms ma ml (fun r' mt mb mk => r = r' ∧ Inv us ua rs ra ra2' sa sl ns' na' nl' yt im mt mb mk)) := by
  obtain ⟨v, hv, hC, hM, hP, hY, hK, hB, F⟩ := hI.get
  have h7 := ok7 hv.1
  have h13 := ok13 hv.1
  have hv0 := hv.w (x := 0) (by decide)
  have hv1 := hv.w (x := 1) (by decide)
  have fin := F ra2 ns na nl _ _ _ (MG.refl _ _ _) hM.1 hB hK
  have e7 : ma 14 3 = nI (v 7 0) := hM.1.2.2.2.2.2.2.2.1
  unfold P_X11_penny
  rw [rc_s hC 7, show (0 : Int32) = nI 0 from rfl, nI_eq (by omega) (by decide)]
  refine ⟨fun c => c_copyFrom hC hv.1 (fun rs' ra' hC1 hB1 _ => ?_), fun c => ⟨fun c2 => absurd (by rw [e7, c]; rfl) c2, fun _ => ⟨rfl, fin⟩⟩⟩
  have hC1a := hC1.w 0
  have hC1b := hC1.w 1
  refine c_allOn (w := 1) hC1a hv0.1 hK (by decide) (fun n1 a1 l1 hK1 => c_allOn (w := 1) hC1b hv1.1 hK1 (by decide) (fun n2 a2 l2 hK2 => c_wages hC hv.1 ?_))
  have e0 : allL (vs v 10 0 0) 1 = sumL (fun b => lossL (vs v 10 0 0) b) (v 13 0) := by unfold allL; rw [vs_f (by decide)]; rfl
  have e1 : allL (vs v 10 0 1) 1 = sumL (fun b => lossL (vs v 10 0 1) b) (v 13 0) := by unfold allL; rw [vs_f (by decide)]; rfl
  have eS : sumL (fun b => lsW v b) (v 13 0) = allL (vs v 10 0 0) 1 - allL (vs v 10 0 1) 1 := by rw [e0, e1, ← sumL_sub]; rfl
  refine ⟨fun _ => m_laysWatch hv hM (fun mt mb mk hM' hG h6 => m_wages hv.1 hM'.1 (fun x hx => ?_)), fun c2 => absurd ((cmp_eq (i := 0) e7 (by omega) (by decide)).mp c2) c⟩
  have e13 : mb 10 0 = nI (v 13 0) := hM'.1.1.2.2.2.2
  have fin2 := F ra' n2 a2 l2 mt mb mk hG hM'.1 hB1 hK2
  have L : ∀ k i, i + k = v 13 0 → P_X12_penny_30 (fun r' mt mb mk => allL (vs v 10 0 0) 1 - allL (vs v 10 0 1) 1 - lN (wagesZ v) = r' ∧ Inv us ua rs ra ra' sa sl n2 a2 l2 yt im mt mb mk) mt mb mk (k + 1) (x + sumL (fun b => lsW v b) i) (nI i) := by
    intro k
    induction k with
    | zero =>
      intro i hi
      obtain rfl : i = v 13 0 := by omega
      refine ⟨fun _ => ⟨?_, fin2⟩, fun c => absurd ((cmp_le e13 (by omega) (by omega)).mpr (Nat.le_refl _)) c⟩
      rw [eS, hx]
      grind
    | succ k ih =>
      intro i hi
      have go := ih (i + 1) (by omega)
      rw [sumL, ← Int64.add_assoc] at go
      refine ⟨fun c => absurd ((cmp_le e13 (by omega) (by omega)).mp c) (by omega), fun _ => ⟨vp_in_nI (by omega) (by decide), fun y hy => ?_⟩⟩
      rw [nI_clamp (by omega), h6 i (by omega)] at hy
      rw [hy, nI_1]
      exact go
  have := L (v 13 0) 0 (by omega)
  rw [show sumL (fun b => lsW v b) 0 = 0 from rfl, Int64.add_zero] at this
  exact ⟨v 13 0 + 1, this⟩
end LA
end
section
/-! promise 39: enough -/
def cG (X : Nat → Int) (c : Int) : Nat → Nat := sumN (fun b => if c ≤ X b then 1 else 0)
theorem cG_le (X : Nat → Int) (c : Int) (n : Nat) : cG X c n ≤ n := by
  have := sumN_le (f := fun b => if c ≤ X b then 1 else 0) (c := 1) (n := n) (fun b _ => by split <;> omega)
  unfold cG
  omega
theorem cG_succ (X : Nat → Int) (c : Int) (n : Nat) : cG X c (n + 1) = cG X c n + if c ≤ X n then 1 else 0 := rfl
theorem sumN_mono {f g : Nat → Nat} : ∀ {n : Nat}, (∀ b, b < n → f b ≤ g b) → sumN f n ≤ sumN g n
  | 0, _ => Nat.le_refl 0
  | n + 1, h => by
    have h1 := sumN_mono (n := n) (fun b hb => h b (by omega))
    have h2 := h n (by omega)
    rw [sumN, sumN]
    omega
theorem sumN_lt {f g : Nat → Nat} {p : Nat} : ∀ {n : Nat}, (∀ b, b < n → f b ≤ g b) → p < n → f p < g p → sumN f n < sumN g n
  | 0, _, hp, _ => by omega
  | n + 1, h, hp, hlt => by
    have h2 := h n (by omega)
    rw [sumN, sumN]
    by_cases e : p = n
    · have h1 := sumN_mono (n := n) (fun b hb => h b (by omega))
      rw [e] at hlt
      omega
    · have h1 := sumN_lt (n := n) (fun b hb => h b (by omega)) (by omega) hlt
      omega
theorem sumN_off {T b : Nat} : ∀ {n : Nat}, b < n → T.testBit b = false → sumN (fun c => if (T ||| 2 ^ b).testBit c then 1 else 0) n = sumN (fun c => if T.testBit c then 1 else 0) n + 1
  | 0, h, _ => by omega
  | n + 1, h, ht => by
    rw [sumN, sumN]
    by_cases e : b = n
    · rw [sumN_cong (g := fun c => if T.testBit c then 1 else 0) (fun c hc => by rw [tb_or, show decide (b = c) = false by simp; omega, Bool.or_false])]
      rw [tb_or, e, ← e, ht]
      simp
    · rw [sumN_off (n := n) (by omega) ht, tb_or, show decide (b = n) = false by simp; omega, Bool.or_false]
      omega
def Sx (s : Nat → Int) : Nat → Int
  | 0 => 0
  | k + 1 => Sx s k + s k
theorem Sx_rng {s : Nat → Int} : ∀ {k : Nat}, (∀ i, i < k → -20000000000 ≤ s i ∧ s i ≤ 20000000000) → -(k * 20000000000 : Int) ≤ Sx s k ∧ Sx s k ≤ (k * 20000000000 : Int)
  | 0, _ => by simp [Sx]
  | k + 1, h => by
    have h1 := Sx_rng (k := k) (fun i hi => h i (by omega))
    have h2 := h k (by omega)
    rw [Sx]
    omega
def XW (v : Rl) (b : Nat) : Int := (lsW v b).toInt
theorem lsW_int (v : Rl) (b : Nat) : XW v b = (lossL (vs v 10 0 0) b).toInt - (lossL (vs v 10 0 1) b).toInt ∧ -20000000000 ≤ XW v b ∧ XW v b ≤ 20000000000 := by
  have h1 := loss_rng (vs v 10 0 0) b
  have h2 := loss_rng (vs v 10 0 1) b
  have e : XW v b = (lossL (vs v 10 0 0) b).toInt - (lossL (vs v 10 0 1) b).toInt := by
    unfold XW lsW
    rw [fb_subL (by omega) (by omega)]
  exact ⟨e, by omega, by omega⟩
/-- s is what is spared, the most first -/
def srtd (v : Rl) (s : Nat → Int) : Prop := ∀ k, k < v 13 0 → ∀ c : Int, c ≤ s k ↔ k < cG (XW v) c (v 13 0)
theorem srtd_rng {v : Rl} {s : Nat → Int} (h : srtd v s) {k : Nat} (hk : k < v 13 0) : -20000000000 ≤ s k ∧ s k ≤ 20000000000 := by
  refine ⟨(h k hk _).mpr ?_, ?_⟩
  · have : cG (XW v) (-20000000000) (v 13 0) = v 13 0 := by
      unfold cG
      rw [sumN_cong (g := fun _ => 1) (fun b _ => by rw [if_pos (lsW_int v b).2.1])]
      generalize v 13 0 = n
      induction n with
      | zero => rfl
      | succ n ih => rw [sumN, ih]
    omega
  · rcases Int.lt_or_le 20000000000 (s k) with c | c
    · exfalso
      have h1 := (h k hk 20000000001).mp (by omega)
      have : cG (XW v) 20000000001 (v 13 0) = 0 := by
        unfold cG
        rw [sumN_cong (g := fun _ => 0) (fun b _ => by rw [if_neg (by have := (lsW_int v b).2.2; omega)])]
        generalize v 13 0 = n
        induction n with
        | zero => rfl
        | succ n ih => rw [sumN, ih]
      omega
    · exact c
def enF (v : Rl) (s : Nat → Int) : Nat := fa_first (fun m => decide ((wagesZ v : Int) ≤ Sx s m)) (v 13 0 + 1)
def enI (v : Rl) (s : Nat → Int) : Int32 := if enF v s ≤ v 13 0 then nI (enF v s) else -1
theorem enF_at {v : Rl} {s : Nat → Int} {i : Nat} (hi : i ≤ enF v s) (hn : i ≤ v 13 0) : ((wagesZ v : Int) ≤ Sx s i → enF v s = i) ∧ (¬ (wagesZ v : Int) ≤ Sx s i → i + 1 ≤ enF v s) := by
  refine ⟨fun e => ?_, fun e => ?_⟩
  · rcases Nat.lt_or_ge i (enF v s) with q | q
    · have := fa_first_no (fun m => decide ((wagesZ v : Int) ≤ Sx s m)) (v 13 0 + 1) i q
      simp [e] at this
    · omega
  · rcases Nat.lt_or_ge i (enF v s) with q | q
    · exact q
    · exfalso
      have e2 : enF v s = i := by omega
      have := fa_first_yes (fun m => decide ((wagesZ v : Int) ≤ Sx s m)) (v 13 0 + 1) (by unfold enF at e2; omega)
      rw [show fa_first (fun m => decide ((wagesZ v : Int) ≤ Sx s m)) (v 13 0 + 1) = i from e2] at this
      simp at this
      exact e this
section EN
variable {us : A1} {ua : A2} {rs : A1} {ra ra2 sa : A2} {sl : L2} {ns : A1} {na : A2} {nl : L2} {yt : Int32} {im : Img} {ms : A1} {ma : A2} {ml : L2}
theorem c_findSpared {v : Rl} (hv : okR v) (hC : RelC v rs ra) (hK : NOK ns na nl) (rs2 : A1) (o_of : Nat → Int64) {post : A1 → A2 → A1 → A2 → L2 → (Nat → Int64) → Prop} (h : ∀ rs' ra' ns' na' nl' of', BOK ra' → NOK ns' na' nl' → srtd v (fun k => (of' k).toInt) → post rs' ra' ns' na' nl' of') : P_X11_findSpared rs ra rs2 ra2 ns na nl o_of post := by
  have h13 := ok13 hv.1
  have hv0 := hv.w (x := 0) (by decide)
  have hv1 := hv.w (x := 1) (by decide)
  refine c_copyFrom hC hv.1 (fun rs' ra' hC1 hB1 _ => ?_)
  have hCa := hC1.w 0
  have hCb := (hC1.w 0).w 1
  rw [vs_ww] at hCb
  have ea : va_up rs' 10 0 13 = nI (v 13 0) := by rw [up_ne (by decide), rc_s hC1 13]
  have eb : va_up (va_up rs' 10 0) 10 1 13 = nI (v 13 0) := by rw [up_ne (by decide), ea]
  refine c_play hCa hv0.1 hK (fun n1 a1 l1 hPl => ?_)
  -- one more, put to its place
  have I : ∀ (n2 : A1) (a2 : A2) (l2 : L2) (R92 : Int32 → (Nat → Int64) → Prop) (i : Nat) (x : Int64), i < v 13 0 → x.toInt = XW v i → ∀ (of0 : Nat → Int64), (∀ k, k < i → ∀ c : Int, c ≤ (of0 k).toInt ↔ k < cG (XW v) c i) → (∀ of1 : Nat → Int64, (∀ k, k < i + 1 → ∀ c : Int, c ≤ (of1 k).toInt ↔ k < cG (XW v) c (i + 1)) → (∀ k, i < k → of1 k = of0 k) → R92 (nI (i + 1)) of1) → ∀ (a : Nat) (of : Nat → Int64), a ≤ i → (∀ k, k < a → of k = of0 k) → (∀ k, a < k → k ≤ i → of k = of0 (k - 1)) → (∀ k, i < k → of k = of0 k) → (∀ k, a ≤ k → k < i → (of0 k).toInt < XW v i) → P_X11_findSpared_130 rs ra (va_up (va_up rs' 10 0) 10 1) ra' n2 a2 l2 post R92 (nI i) x (a + 1) (nI a) of := by
    intro n2 a2 l2 R92 i x hi hx of0 g0 kk a
    have fin : ∀ (a : Nat) (of : Nat → Int64), a ≤ i → (∀ k, k < a → of k = of0 k) → (∀ k, a < k → k ≤ i → of k = of0 (k - 1)) → (∀ k, i < k → of k = of0 k) → (∀ k, a ≤ k → k < i → (of0 k).toInt < XW v i) → (∀ k, k < a → XW v i ≤ (of0 k).toInt) → R92 (nI (i + 1)) (vp_updL of a x) := by
      intro a of ha q1 q2 q3 q4 q5
      refine kk _ (fun k hk c => ?_) (fun k hk => by rw [uL_ne (by omega), q3 k hk])
      have hG := cG_succ (XW v) c i
      have hGle := cG_le (XW v) c i
      rcases Nat.lt_trichotomy k a with e | e | e
      · rw [uL_ne (by omega), q1 k e]
        have g := g0 k (by omega) c
        have q := q5 k e
        by_cases cx : c ≤ XW v i
        · rw [if_pos cx] at hG
          constructor
          · intro c1; have := g.mp c1; omega
          · intro _; omega
        · rw [if_neg cx] at hG
          rw [hG]; exact g
      · subst e
        rw [uL_at, hx]
        constructor
        · intro cx
          rw [if_pos cx] at hG
          rcases Nat.eq_zero_or_pos k with z | z
          · omega
          · have := (g0 (k - 1) (by omega) c).mp (by have := q5 (k - 1) (by omega); omega)
            omega
        · intro c1
          rcases Int.lt_or_le (XW v i) c with cx | cx
          · exfalso
            rw [if_neg (by omega)] at hG
            have hki : k < i := by omega
            have := (g0 k hki c).mpr (by omega)
            have := q4 k (Nat.le_refl _) hki
            omega
          · exact cx
      · rw [uL_ne (by omega), q2 k e (by omega)]
        have g := g0 (k - 1) (by omega) c
        have q := q4 (k - 1) (by omega) (by omega)
        by_cases cx : c ≤ XW v i
        · rw [if_pos cx] at hG
          constructor
          · intro c1; have := g.mp c1; omega
          · intro c1; exact g.mpr (by omega)
        · rw [if_neg cx] at hG
          constructor
          · intro c1; omega
          · intro c1; exact g.mpr (by omega)
    have hsort : ∀ j k, j ≤ k → k < i → (of0 k).toInt ≤ (of0 j).toInt := by
      intro j k hjk hk
      have := (g0 k hk (of0 k).toInt).mp (Int.le_refl _)
      exact (g0 j (by omega) _).mpr (by omega)
    induction a with
    | zero =>
      intro of ha q1 q2 q3 q4
      refine ⟨fun _ => ⟨vp_in_nI (by omega) (by decide), ?_⟩, fun c => absurd (by decide) c⟩
      rw [nI_1, nI_clamp (by omega)]
      exact fin 0 of ha q1 q2 q3 q4 (fun k hk => by omega)
    | succ a ih =>
      intro of ha q1 q2 q3 q4
      refine ⟨fun c => absurd c (nI_nle (by omega) (by omega)), fun _ => ?_⟩
      rw [nI_pred, nI_1]
      refine ⟨vp_in_nI (by omega) (by decide), ?_⟩
      rw [nI_clamp (by omega), nI_clamp (by omega), q1 a (by omega), Int64.le_iff_toInt_le, hx]
      refine ⟨fun c => ⟨vp_in_nI (by omega) (by decide), fin (a + 1) of ha q1 q2 q3 q4 (fun k hk => ?_)⟩, fun c => ⟨vp_in_nI (by omega) (by decide), vp_in_nI (by omega) (by decide), ?_⟩⟩
      · have := hsort k a (by omega) (by omega)
        omega
      · rw [pk_m1]
        refine ih _ (by omega) (fun k hk => by rw [uL_ne (by omega), q1 k (by omega)]) (fun k h1 h2 => ?_) (fun k hk => by rw [uL_ne (by omega), q3 k hk]) (fun k h1 h2 => ?_)
        · by_cases e : k = a + 1
          · rw [e, uL_at, show a + 1 - 1 = a by omega]
          · rw [uL_ne e, q2 k (by omega) h2]
        · by_cases e : k = a
          · rw [e]; omega
          · exact q4 k (by omega) h2
  have LL : ∀ (n2 : A1) (a2 : A2) (l2 : L2), NOK n2 a2 l2 → HadR (vs v 10 0 1) l2 → ∀ (k i : Nat) (of : Nat → Int64), i + k = v 13 0 → (∀ j, j < i → ∀ c : Int, c ≤ (of j).toInt ↔ j < cG (XW v) c i) → (∀ x, i ≤ x → x < v 13 0 → of x = lossL (vs v 10 0 0) x) → P_X11_findSpared_92 rs ra post (va_up (va_up rs' 10 0) 10 1) ra' n2 a2 l2 (k + 1) (nI i) of := by
    intro n2 a2 l2 hK2 hH2 k
    induction k with
    | zero =>
      intro i of hi q1 q2
      obtain rfl : i = v 13 0 := by omega
      exact ⟨fun _ => h _ _ _ _ _ _ hB1 hK2 q1, fun c => absurd ((cmp_le eb (by omega) (by omega)).mpr (Nat.le_refl _)) c⟩
    | succ k ih =>
      intro i of hi q1 q2
      refine ⟨fun c => absurd ((cmp_le eb (by omega) (by omega)).mp c) (by omega), fun _ => ⟨vp_in_nI (by omega) (by decide), ?_⟩⟩
      refine c_costOf (w := 1) hCb hv1.1 hH2 (by rw [vs_f (by decide)]; omega) (by decide) (fun x hx => ?_)
      rw [nI_clamp (by omega), q2 i (Nat.le_refl _) (by omega)] at hx
      have hx' : x = lsW v i := hx
      refine ⟨i + 1, I n2 a2 l2 _ i x (by omega) (by rw [hx']; rfl) of q1 (fun of1 r1 r2 => ih (i + 1) of1 (by omega) r1 (fun y h1 h2 => by rw [r2 y (by omega)]; exact q2 y (by omega) h2)) i of (Nat.le_refl _) (fun _ _ => rfl) (fun y h1 h2 => by omega) (fun _ _ => rfl) (fun y h1 h2 => by omega)⟩
  have L1 : ∀ (k i : Nat) (of : Nat → Int64), i + k = v 13 0 → (∀ x, x < i → of x = lossL (vs v 10 0 0) x) → P_X11_findSpared_32 rs ra post (fun (rs2 : Nat → Int32) (ra2 : Nat → Nat → Int32) (ns : Nat → Int32) (na : Nat → Nat → Int32) (nl : Nat → Nat → Int64) (o_of : Nat → Int64) => P_X11_findSpared_71 rs ra post rs2 ra2 ns na nl o_of) (va_up rs' 10 0) ra' n1 a1 l1 (k + 1) (nI i) of := by
    intro k
    induction k with
    | zero =>
      intro i of hi q1
      obtain rfl : i = v 13 0 := by omega
      refine ⟨fun _ => c_play hCb hv1.1 hPl.2.1 (fun n2 a2 l2 hPl2 => ?_), fun c => absurd ((cmp_le ea (by omega) (by omega)).mpr (Nat.le_refl _)) c⟩
      exact ⟨v 13 0 + 1, LL n2 a2 l2 hPl2.2.1 hPl2.2.2.2 (v 13 0) 0 of (by omega) (fun j hj => by omega) (fun x _ hx => q1 x hx)⟩
    | succ k ih =>
      intro i of hi q1
      refine ⟨fun c => absurd ((cmp_le ea (by omega) (by omega)).mp c) (by omega), fun _ => ?_⟩
      refine c_costOf (w := 1) hCa hv0.1 hPl.2.2.2 (by rw [vs_f (by decide)]; omega) (by decide) ⟨vp_in_nI (by omega) (by decide), ?_⟩
      rw [nI_1, nI_clamp (by omega)]
      refine ih (i + 1) _ (by omega) (fun x hx => ?_)
      by_cases c : x = i
      · rw [c, uL_at]; rfl
      · rw [uL_ne c]; exact q1 x (by omega)
  exact ⟨v 13 0 + 1, L1 (v 13 0) 0 o_of (by omega) (fun x hx => by omega)⟩
theorem m_enough {v : Rl} (hv : okR v) (hM : RM v 0 ms ma) {s : Nat → Int} (hs : srtd v s) (h6 : ∀ b, b < v 13 0 → ml 6 b = lsW v b) {post : Int32 → A1 → A2 → L2 → Prop} (h : post (enI v s) ms ma ml) : ∃ n, P_X12_enough_31 post ms ma ml n (lN (wagesZ v)) 0 0 := by
  have h13 := ok13 hv.1
  have hw := wages_le hv.1
  have e13 : ma 10 0 = nI (v 13 0) := hM.1.1.2.2.2.2
  have hle : enF v s ≤ v 13 0 + 1 := fa_first_le _ _
  have hSr : ∀ k, k ≤ v 13 0 → -(k * 20000000000 : Int) ≤ Sx s k ∧ Sx s k ≤ (k * 20000000000 : Int) := fun k hk => Sx_rng (fun i hi => srtd_rng hs (by omega))
  unfold enI at h
  -- the greatest of those that are left
  have I : ∀ (k : Nat) (T : Nat), k ≤ v 13 0 → T < 1024 → sumN (fun b => if T.testBit b then 1 else 0) (v 13 0) = k → (∀ b c, b < v 13 0 → c < v 13 0 → T.testBit b = true → T.testBit c = false → XW v c ≤ XW v b) → ∀ (x1 : Int64) (K111 : Int64 → Int32 → Int32 → Int32 → Prop), (k = v 13 0 → K111 x1 (nI T) (nI k) (-1)) → (∀ b, k < v 13 0 → b < v 13 0 → T.testBit b = false → XW v b = s k → (∀ c, c < v 13 0 → T.testBit c = false → XW v c ≤ XW v b) → K111 x1 (nI T) (nI k) (nI b)) → ∃ n, P_X12_enough_57 ms ma ml post K111 x1 (nI T) (nI k) n (-1) 0 := by
    intro k T hk hT hc hdom x1 K111 k1 k2
    have L : ∀ (d i : Nat) (o : Option Nat), i + d = v 13 0 → (o = none → ∀ c, c < i → T.testBit c = true) → (∀ b, o = some b → b < i ∧ T.testBit b = false ∧ ∀ c, c < i → T.testBit c = false → XW v c ≤ XW v b) → P_X12_enough_57 ms ma ml post K111 x1 (nI T) (nI k) (d + 1) (oI o) (nI i) := by
      intro d
      induction d with
      | zero =>
        intro i o hi q1 q2
        obtain rfl : i = v 13 0 := by omega
        refine ⟨fun _ => ?_, fun c => absurd ((cmp_le e13 (by omega) (by omega)).mpr (Nat.le_refl _)) c⟩
        cases o with
        | none =>
          refine k1 ?_
          have : sumN (fun b => if T.testBit b then 1 else 0) (v 13 0) = sumN (fun _ => 1) (v 13 0) := sumN_cong (fun b hb => by rw [if_pos (q1 rfl b hb)])
          rw [hc] at this
          have e1 : ∀ n, sumN (fun _ => 1) n = n := by
            intro n
            induction n with
            | zero => rfl
            | succ n ih => rw [sumN, ih]
          rw [this, e1]
        | some b =>
          obtain ⟨b1, b2, b3⟩ := q2 b rfl
          have hcnt : ∀ c : Int, c ≤ XW v b ↔ k < cG (XW v) c (v 13 0) := by
            intro c
            constructor
            · intro hcb
              rw [← hc]
              unfold cG
              refine sumN_lt (p := b) (fun y hy => ?_) b1 ?_
              · by_cases ty : T.testBit y = true
                · rw [if_pos ty, if_pos (by have := hdom y b hy b1 ty b2; omega)]
                  exact Nat.le_refl _
                · rw [if_neg ty]; omega
              · rw [b2, if_pos hcb]
                simp
            · intro hk2
              rcases Int.lt_or_le (XW v b) c with q | q
              · exfalso
                have : cG (XW v) c (v 13 0) ≤ k := by
                  rw [← hc]
                  unfold cG
                  refine sumN_mono (fun y hy => ?_)
                  by_cases ty : T.testBit y = true
                  · rw [if_pos ty]; split <;> omega
                  · rw [if_neg (show ¬ c ≤ XW v y by have := b3 y hy (by simpa using ty); omega)]
                    omega
                omega
              · exact q
          have hkn : k < v 13 0 := by
            have := (hcnt (XW v b)).mp (Int.le_refl _)
            have := cG_le (XW v) (XW v b) (v 13 0)
            omega
          refine k2 b hkn b1 b2 ?_ b3
          have h1 := (hs k hkn (XW v b)).mpr ((hcnt _).mp (Int.le_refl _))
          have h2 := (hcnt (s k)).mpr ((hs k hkn _).mp (Int.le_refl _))
          omega
      | succ d ih =>
        intro i o hi q1 q2
        refine ⟨fun c => absurd ((cmp_le e13 (by omega) (by omega)).mp c) (by omega), fun _ => ?_⟩
        rw [bit_z (by omega) (by omega), nI_1]
        refine ⟨fun c => ?_, fun c => ?_⟩
        · have ct : T.testBit i = true := by simpa using c
          refine ih (i + 1) o (by omega) (fun e y hy => ?_) (fun b e => ?_)
          · by_cases z : y = i
            · rw [z]; exact ct
            · exact q1 e y (by omega)
          · obtain ⟨b1, b2, b3⟩ := q2 b e
            refine ⟨by omega, b2, fun y hy ty => ?_⟩
            by_cases z : y = i
            · rw [z, ct] at ty; exact absurd ty (by simp)
            · exact b3 y (by omega) ty
        · cases o with
          | none =>
            refine ⟨fun _ => ?_, fun z => absurd rfl z⟩
            refine ih (i + 1) (some i) (by omega) (fun e => absurd e (by simp)) (fun b e => ?_)
            simp at e
            subst e
            refine ⟨by omega, c, fun y hy ty => ?_⟩
            by_cases z : y = i
            · rw [z]; exact Int.le_refl _
            · have := q1 rfl y (by omega)
              rw [this] at ty
              exact absurd ty (by simp)
          | some b =>
            obtain ⟨b1, b2, b3⟩ := q2 b rfl
            refine ⟨fun z => absurd z (nI_nm1 (by omega)), fun _ => ⟨vp_in_nI (by omega) (by decide), vp_in_nI (by omega) (by decide), ?_⟩⟩
            rw [show oI (some b) = nI b from rfl, nI_clamp (by omega), nI_clamp (by omega), h6 i (by omega), h6 b (by omega), Int64.le_iff_toInt_le]
            refine ⟨fun c2 => ?_, fun c2 => ?_⟩
            · refine ih (i + 1) (some b) (by omega) (fun e => absurd e (by simp)) (fun b' e => ?_)
              simp at e
              subst e
              refine ⟨by omega, b2, fun y hy ty => ?_⟩
              by_cases z : y = i
              · rw [z]; exact c2
              · exact b3 y (by omega) ty
            · refine ih (i + 1) (some i) (by omega) (fun e => absurd e (by simp)) (fun b' e => ?_)
              simp at e
              subst e
              refine ⟨by omega, c, fun y hy ty => ?_⟩
              by_cases z : y = i
              · rw [z]; exact Int.le_refl _
              · have h3 := b3 y (by omega) ty
                have h4 : XW v b < XW v i := by unfold XW; omega
                omega
    exact ⟨v 13 0 + 1, L (v 13 0) 0 none (by omega) (fun _ c hc => by omega) (fun b e => absurd e (by simp))⟩
  have L : ∀ (d k : Nat) (T : Nat) (x : Int64), k + d = v 13 0 → k ≤ enF v s → T < 1024 → sumN (fun b => if T.testBit b then 1 else 0) (v 13 0) = k → (∀ b c, b < v 13 0 → c < v 13 0 → T.testBit b = true → T.testBit c = false → XW v c ≤ XW v b) → x.toInt = (wagesZ v : Int) - Sx s k → P_X12_enough_31 post ms ma ml (d + 1) x (nI T) (nI k) := by
    intro d
    induction d with
    | zero =>
      intro k T x hk hen hT hc hdom hx
      obtain rfl : k = v 13 0 := by omega
      obtain ⟨e1, e2⟩ := enF_at hen (Nat.le_refl _)
      refine ⟨fun c => absurd ((nI_ltI (by omega) (by omega)).mp (by rw [e13] at c; exact c)) (Nat.lt_irrefl (v 13 0)), fun _ => ⟨fun c => ?_, fun c => ?_⟩⟩
      · rw [Int64.lt_iff_toInt_lt, hx, show (0 : Int64).toInt = 0 from rfl] at c
        refine I (v 13 0) T (Nat.le_refl _) hT hc hdom x _ (fun _ => ?_) (fun b hkb => by omega)
        have := e2 (by omega)
        rw [if_neg (by omega)] at h
        exact ⟨fun z => absurd rfl z, fun _ => h⟩
      · rw [Int64.lt_iff_toInt_lt, hx, show (0 : Int64).toInt = 0 from rfl] at c
        have := e1 (by omega)
        rw [this, if_pos (Nat.le_refl _)] at h
        exact h
    | succ d ih =>
      intro k T x hk hen hT hc hdom hx
      obtain ⟨e1, e2⟩ := enF_at (v := v) (s := s) hen (by omega)
      have hS := hSr k (by omega)
      refine ⟨fun c => absurd (by rw [e13] at c; exact (nI_ltI (by omega) (by omega)).mp c) (by omega), fun _ => ⟨fun c => ?_, fun c => ?_⟩⟩
      · rw [Int64.lt_iff_toInt_lt, hx, show (0 : Int64).toInt = 0 from rfl] at c
        refine I k T (by omega) hT hc hdom x _ (fun e => by omega) (fun b _ hb tb hbs hmax => ?_)
        refine ⟨fun _ y hy => ⟨vp_in_nI (by omega) (by decide), fun w hw => ?_⟩, fun z => absurd z (nI_nm1 (by omega))⟩
        rw [sh1 (by omega), fa_or] at hy
        rw [nI_clamp (by omega), h6 b hb] at hw
        have hrb := srtd_rng hs (show k < v 13 0 by omega)
        have hxw : (lsW v b).toInt = s k := hbs
        rw [hy, nI_1]
        refine ih (k + 1) (T ||| 2 ^ b) w (by omega) (e2 (by omega)) (or_ltN (n := 10) hT (by omega)) ?_ ?_ ?_
        · have := sumN_off (T := T) (b := b) (n := v 13 0) hb tb
          rw [this, hc]
        · intro y c hy1 hc1 ty tc
          rw [tb_or] at ty tc
          simp at ty tc
          rcases ty with ty | ty
          · exact hdom y c hy1 hc1 ty (by simpa using tc.1)
          · rw [← ty]; exact hmax c hc1 (by simpa using tc.1)
        · rw [hw, fb_subL (by rw [hx, hxw]; omega) (by rw [hx, hxw]; omega), hx, hxw, Sx]
          omega
      · rw [Int64.lt_iff_toInt_lt, hx, show (0 : Int64).toInt = 0 from rfl] at c
        have := e1 (by omega)
        rw [this, if_pos (by omega)] at h
        exact h
  refine ⟨v 13 0 + 1, L (v 13 0) 0 0 _ (by omega) (Nat.zero_le _) (by decide) ?_ (fun b c _ _ tb => by simp at tb) ?_⟩
  · rw [sumN_cong (g := fun _ => 0) (fun b _ => by simp)]
    generalize v 13 0 = n
    induction n with
    | zero => rfl
    | succ n ih => rw [sumN, ih]
  · rw [pk_lT (by omega), Sx]
    omega
theorem q_enough (hI : Inv us ua rs ra ra2 sa sl ns na nl yt im ms ma ml) (rs2 : A1) (o_of : Nat → Int64) : P_X11_enough rs ra rs2 ra2 ns na nl o_of (fun r _ ra2' ns' na' nl' _ => P_X12_enough ms ma ml (fun r' mt mb mk => r = r' ∧ Inv us ua rs ra ra2' sa sl ns' na' nl' yt im mt mb mk)) := by
  obtain ⟨v, hv, hC, hM, hP, hY, hK, hB, F⟩ := hI.get
  have h7 := ok7 hv.1
  have h13 := ok13 hv.1
  have hw := wages_le hv.1
  have fin := F ra2 ns na nl _ _ _ (MG.refl _ _ _) hM.1 hB hK
  have e7 : ma 14 3 = nI (v 7 0) := hM.1.2.2.2.2.2.2.2.1
  unfold P_X11_enough
  rw [rc_s hC 7, show (nI (v 7 0) = (0 : Int32)) = (nI (v 7 0) = nI 0) from rfl, nI_eq (by omega) (by decide)]
  refine ⟨fun c => c_findSpared hv hC hK rs2 o_of (fun rs3 ra3 ns3 na3 nl3 of3 hB3 hK3 hs => ?_), fun c => ⟨fun c2 => absurd (by rw [e7, c]; rfl) c2, fun _ => ⟨rfl, fin⟩⟩⟩
  have hle : enF v (fun k => (of3 k).toInt) ≤ v 13 0 + 1 := fa_first_le _ _
  have hSr : ∀ k, k ≤ v 13 0 → -(k * 20000000000 : Int) ≤ Sx (fun k => (of3 k).toInt) k ∧ Sx (fun k => (of3 k).toInt) k ≤ (k * 20000000000 : Int) := fun k hk => Sx_rng (fun i hi => srtd_rng hs (by omega))
  have M : P_X12_enough ms ma ml (fun r' mt mb mk => enI v (fun k => (of3 k).toInt) = r' ∧ Inv us ua rs ra ra3 sa sl ns3 na3 nl3 yt im mt mb mk) := by
    refine ⟨fun _ => m_laysWatch hv hM (fun mt mb mk hM' hG h6 => m_wages hv.1 hM'.1 (m_enough hv hM' hs h6 ⟨rfl, F _ _ _ _ _ _ _ hG hM'.1 hB3 hK3⟩)), fun c2 => absurd ((cmp_eq (i := 0) e7 (by omega) (by decide)).mp c2) c⟩
  have eW : (lN (wagesZ v)).toInt = (wagesZ v : Int) := pk_lT (by omega)
  have K : ∀ (i : Nat) (x : Int64), i ≤ v 13 0 → x.toInt = Sx (fun k => (of3 k).toInt) i → i ≤ enF v (fun k => (of3 k).toInt) → (i = v 13 0 ∨ (wagesZ v : Int) ≤ Sx (fun k => (of3 k).toInt) i) → P_X11_enough_70 rs ra (fun r _ ra2' ns' na' nl' _ => P_X12_enough ms ma ml (fun r' mt mb mk => r = r' ∧ Inv us ua rs ra ra2' sa sl ns' na' nl' yt im mt mb mk)) (nI i) x rs3 ra3 ns3 na3 nl3 of3 := by
    intro i x hi hx hen ho
    obtain ⟨e1, e2⟩ := enF_at hen hi
    refine c_wages hC hv.1 ⟨fun c2 => ?_, fun c2 => ?_⟩
    · rw [Int64.lt_iff_toInt_lt, hx, eW] at c2
      have := e2 (by omega)
      have e : enI v (fun k => (of3 k).toInt) = -1 := by unfold enI; rw [if_neg (by omega)]
      rw [e] at M
      exact M
    · rw [Int64.lt_iff_toInt_lt, hx, eW] at c2
      have := e1 (by omega)
      have e : enI v (fun k => (of3 k).toInt) = nI i := by unfold enI; rw [this, if_pos hi]
      rw [e] at M
      exact M
  have L : ∀ (k i : Nat) (x : Int64), i + k = v 13 0 → x.toInt = Sx (fun k => (of3 k).toInt) i → i ≤ enF v (fun k => (of3 k).toInt) → P_X11_enough_24 rs ra (fun r _ ra2' ns' na' nl' _ => P_X12_enough ms ma ml (fun r' mt mb mk => r = r' ∧ Inv us ua rs ra ra2' sa sl ns' na' nl' yt im mt mb mk)) (fun (x1_ : Int32) (x2_ : Int64) (rs2 : Nat → Int32) (ra2 : Nat → Nat → Int32) (ns : Nat → Int32) (na : Nat → Nat → Int32) (nl : Nat → Nat → Int64) (o_of : Nat → Int64) => P_X11_enough_70 rs ra (fun r _ ra2' ns' na' nl' _ => P_X12_enough ms ma ml (fun r' mt mb mk => r = r' ∧ Inv us ua rs ra ra2' sa sl ns' na' nl' yt im mt mb mk)) x1_ x2_ rs2 ra2 ns na nl o_of) rs3 ra3 ns3 na3 nl3 of3 (k + 1) (nI i) x (nI i) := by
    intro k
    induction k with
    | zero =>
      intro i x hi hx hen
      obtain rfl : i = v 13 0 := by omega
      exact ⟨fun _ => K _ x (Nat.le_refl _) hx hen (Or.inl rfl), fun c => absurd ((cmp_le (rc_s hC 13) (by omega) (by omega)).mpr (Nat.le_refl _)) c⟩
    | succ k ih =>
      intro i x hi hx hen
      obtain ⟨e1, e2⟩ := enF_at (v := v) hen (by omega)
      have hS := hSr i (by omega)
      have hr := srtd_rng hs (show i < v 13 0 by omega)
      refine ⟨fun c => absurd ((cmp_le (rc_s hC 13) (by omega) (by omega)).mp c) (by omega), fun _ => c_wages hC hv.1 ⟨fun c2 => ?_, fun c2 => ⟨vp_in_nI (by omega) (by decide), fun y hy => ?_⟩⟩⟩
      · rw [Int64.le_iff_toInt_le, hx, eW] at c2
        exact K i x (by omega) hx hen (Or.inr c2)
      · rw [Int64.le_iff_toInt_le, hx, eW] at c2
        rw [nI_clamp (by omega)] at hy
        rw [nI_1]
        refine ih (i + 1) y (by omega) ?_ (e2 c2)
        rw [hy, fb_addL (by rw [hx]; omega) (by rw [hx]; omega), hx, Sx]
  exact ⟨v 13 0 + 1, L (v 13 0) 0 0 (by omega) (by rw [Sx]; rfl) (Nat.zero_le _)⟩
end EN
end
section
/-! promises 40, 41: marks -/
def vm (v : Rl) (S : Nat → Bool) : Rl := fun f k => if f = 24 ∧ k < v 13 0 then (if S k then 1 else 0) else v f k
theorem vm_f {v : Rl} {S : Nat → Bool} {f : Nat} (h : f ≠ 24) : vm v S f = v f := by
  funext k
  unfold vm
  rw [if_neg (fun q => h q.1)]
theorem vm_24 {v : Rl} {S : Nat → Bool} {k : Nat} (h : k < v 13 0) : vm v S 24 k = if S k then 1 else 0 := by
  unfold vm
  rw [if_pos ⟨rfl, h⟩]
theorem vm_so (v : Rl) (S : Nat → Bool) : SO (vm v S) v := fun f k q => by
  unfold vm
  rw [if_neg (by omega)]
theorem okR.m {v : Rl} (hv : okR v) (S : Nat → Bool) : okR (vm v S) := by
  obtain ⟨⟨h0, h1, h2, h3, h4, h5, h6⟩, hJ, hT⟩ := hv
  unfold okR okV okJ
  simp only [vm_f (v := v) (S := S) (f := 0) (by decide), vm_f (v := v) (S := S) (f := 1) (by decide), vm_f (v := v) (S := S) (f := 2) (by decide), vm_f (v := v) (S := S) (f := 3) (by decide), vm_f (v := v) (S := S) (f := 4) (by decide), vm_f (v := v) (S := S) (f := 5) (by decide), vm_f (v := v) (S := S) (f := 6) (by decide), vm_f (v := v) (S := S) (f := 7) (by decide), vm_f (v := v) (S := S) (f := 8) (by decide), vm_f (v := v) (S := S) (f := 9) (by decide), vm_f (v := v) (S := S) (f := 10) (by decide), vm_f (v := v) (S := S) (f := 11) (by decide), vm_f (v := v) (S := S) (f := 12) (by decide), vm_f (v := v) (S := S) (f := 13) (by decide), vm_f (v := v) (S := S) (f := 14) (by decide), vm_f (v := v) (S := S) (f := 15) (by decide), vm_f (v := v) (S := S) (f := 16) (by decide), vm_f (v := v) (S := S) (f := 17) (by decide), vm_f (v := v) (S := S) (f := 18) (by decide), vm_f (v := v) (S := S) (f := 19) (by decide), vm_f (v := v) (S := S) (f := 20) (by decide), vm_f (v := v) (S := S) (f := 21) (by decide), vm_f (v := v) (S := S) (f := 22) (by decide), vm_f (v := v) (S := S) (f := 23) (by decide), vm_f (v := v) (S := S) (f := 25) (by decide), vm_f (v := v) (S := S) (f := 26) (by decide), vm_f (v := v) (S := S) (f := 27) (by decide), vm_f (v := v) (S := S) (f := 28) (by decide), vm_f (v := v) (S := S) (f := 29) (by decide)]
  refine ⟨⟨h0, h1, h2, h3, fun k hk => ?_, h5, h6⟩, hJ, hT⟩
  obtain ⟨a, b', c, d, e⟩ := h4 k hk
  rw [vm_24 hk]
  refine ⟨a, b', c, d, ?_⟩
  split <;> omega
theorem RelC.m {u v : Rl} {rs : A1} {rx ry : A2} (hR : RelC u rs rx) (hu : ∀ f, f ≠ 24 → u f = v f) {S : Nat → Bool} (hj : ∀ j, j ≠ 8 → ry j = rx j) (hm : ∀ k, k < v 13 0 → ry 8 k = nI (if S k then 1 else 0)) (hb : BOK ry) : RelC (vm v S) rs ry := by
  obtain ⟨r0, r1, r2, r3, r4, r5, r6, r7⟩ := hR
  simp only [hu 11 (by decide), hu 12 (by decide), hu 13 (by decide), hu 14 (by decide), hu 15 (by decide), hu 16 (by decide), hu 17 (by decide), hu 18 (by decide), hu 19 (by decide), hu 20 (by decide), hu 21 (by decide), hu 22 (by decide), hu 23 (by decide), hu 25 (by decide), hu 26 (by decide), hu 27 (by decide), hu 28 (by decide), hu 29 (by decide), hu 30 (by decide), hu 31 (by decide)] at r1 r2 r3 r4 r5 r6
  unfold RelC
  simp only [vm_f (v := v) (S := S) (f := 11) (by decide), vm_f (v := v) (S := S) (f := 12) (by decide), vm_f (v := v) (S := S) (f := 13) (by decide), vm_f (v := v) (S := S) (f := 14) (by decide), vm_f (v := v) (S := S) (f := 15) (by decide), vm_f (v := v) (S := S) (f := 16) (by decide), vm_f (v := v) (S := S) (f := 17) (by decide), vm_f (v := v) (S := S) (f := 18) (by decide), vm_f (v := v) (S := S) (f := 19) (by decide), vm_f (v := v) (S := S) (f := 20) (by decide), vm_f (v := v) (S := S) (f := 21) (by decide), vm_f (v := v) (S := S) (f := 22) (by decide), vm_f (v := v) (S := S) (f := 23) (by decide), vm_f (v := v) (S := S) (f := 25) (by decide), vm_f (v := v) (S := S) (f := 26) (by decide), vm_f (v := v) (S := S) (f := 27) (by decide), vm_f (v := v) (S := S) (f := 28) (by decide), vm_f (v := v) (S := S) (f := 29) (by decide), vm_f (v := v) (S := S) (f := 30) (by decide), vm_f (v := v) (S := S) (f := 31) (by decide)]
  simp only [hj 0 (by decide), hj 1 (by decide), hj 2 (by decide), hj 3 (by decide), hj 4 (by decide), hj 5 (by decide), hj 6 (by decide), hj 7 (by decide), hj 9 (by decide), hj 10 (by decide), hj 11 (by decide), hj 12 (by decide), hj 13 (by decide), hj 14 (by decide), hj 15 (by decide)]
  refine ⟨fun j h => by rw [vm_f (by omega), ← hu j (by omega)]; exact r0 j h, r1, r2, r3, fun k hk => ?_, r5, r6, hb⟩
  obtain ⟨a, b', c, d, -⟩ := r4 k hk
  rw [vm_24 hk]
  exact ⟨a, b', c, d, hm k hk⟩
theorem RelN.m {u v : Rl} {ma mb : A2} (hN : RelN u 0 ma) (hu : ∀ f, f ≠ 24 → u f = v f) {S : Nat → Bool} (hj : ∀ j, j ≠ 11 → mb j = ma j) (hx : ∀ x, (∀ b, b < v 13 0 → x ≠ 5 * (10 * 0 + b) + 4) → mb 11 x = ma 11 x) (hm : ∀ k, k < v 13 0 → mb 11 (5 * (10 * 0 + k) + 4) = nI (if S k then 1 else 0)) : RelN (vm v S) 0 mb := by
  obtain ⟨r0, r1, r2, r3, r4⟩ := hN
  simp only [hu 0 (by decide), hu 1 (by decide), hu 2 (by decide), hu 4 (by decide), hu 5 (by decide), hu 6 (by decide), hu 7 (by decide), hu 8 (by decide), hu 9 (by decide), hu 10 (by decide), hu 12 (by decide), hu 13 (by decide), hu 18 (by decide), hu 19 (by decide), hu 20 (by decide), hu 21 (by decide), hu 22 (by decide), hu 23 (by decide)] at r0 r1 r2 r3 r4
  unfold RelN
  simp only [vm_f (v := v) (S := S) (f := 0) (by decide), vm_f (v := v) (S := S) (f := 1) (by decide), vm_f (v := v) (S := S) (f := 2) (by decide), vm_f (v := v) (S := S) (f := 4) (by decide), vm_f (v := v) (S := S) (f := 5) (by decide), vm_f (v := v) (S := S) (f := 6) (by decide), vm_f (v := v) (S := S) (f := 7) (by decide), vm_f (v := v) (S := S) (f := 8) (by decide), vm_f (v := v) (S := S) (f := 9) (by decide), vm_f (v := v) (S := S) (f := 10) (by decide), vm_f (v := v) (S := S) (f := 12) (by decide), vm_f (v := v) (S := S) (f := 13) (by decide), vm_f (v := v) (S := S) (f := 18) (by decide), vm_f (v := v) (S := S) (f := 19) (by decide), vm_f (v := v) (S := S) (f := 20) (by decide), vm_f (v := v) (S := S) (f := 21) (by decide), vm_f (v := v) (S := S) (f := 22) (by decide), vm_f (v := v) (S := S) (f := 23) (by decide)]
  simp only [hj 3 (by decide), hj 4 (by decide), hj 5 (by decide), hj 8 (by decide), hj 9 (by decide), hj 10 (by decide), hj 14 (by decide)]
  refine ⟨r0, r1, r2, fun k hk => ?_, r4⟩
  obtain ⟨a, b', c, d, -⟩ := r3 k hk
  rw [vm_24 hk, hx _ (fun b _ => by omega), hx _ (fun b _ => by omega), hx _ (fun b _ => by omega), hx _ (fun b _ => by omega)]
  exact ⟨a, b', c, d, hm k hk⟩
theorem RelT.so {u v : Rl} (hu : ∀ f, f ≠ 24 → u f = v f) {j : Nat} {ma : A2} (hT : RelT u j ma) (S : Nat → Bool) : RelT (vm v S) j ma := by
  unfold RelT at hT ⊢
  simp only [hu 14 (by decide), hu 25 (by decide), hu 26 (by decide), hu 27 (by decide), hu 28 (by decide), hu 29 (by decide)] at hT
  simp only [vm_f (v := v) (S := S) (f := 14) (by decide), vm_f (v := v) (S := S) (f := 25) (by decide), vm_f (v := v) (S := S) (f := 26) (by decide), vm_f (v := v) (S := S) (f := 27) (by decide), vm_f (v := v) (S := S) (f := 28) (by decide), vm_f (v := v) (S := S) (f := 29) (by decide)]
  exact hT
theorem LX.so {u v : Rl} (hu : ∀ f, f ≠ 24 → u f = v f) {j : Nat} {ms : A1} {ma : A2} (hX : LX u j ms ma) (S : Nat → Bool) : LX (vm v S) j ms ma := by
  unfold LX at hX ⊢
  simp only [hu 11 (by decide), hu 16 (by decide), hu 17 (by decide)] at hX
  simp only [vm_f (v := v) (S := S) (f := 11) (by decide), vm_f (v := v) (S := S) (f := 16) (by decide), vm_f (v := v) (S := S) (f := 17) (by decide)]
  exact hX
theorem bitv {g c : Nat} (hg : g < 2 ^ 31) (hc : c < 32) : ((nI g >>> (nI c &&& 31)) &&& 1) = nI (if g.testBit c then 1 else 0) := by
  rw [pk_shrN hg _ c (sh_c c hc), bit_and1 (Nat.lt_of_le_of_lt (Nat.div_le_self _ _) hg), Nat.testBit_eq_decide_div_mod_eq]
  congr 1
  by_cases h : g / 2 ^ c % 2 = 1
  · simp [h]
  · have : g / 2 ^ c % 2 = 0 := by omega
    simp [this]
section MK
variable {us : A1} {ua : A2} {rs : A1} {ra ra2 sa : A2} {sl : L2} {ns : A1} {na : A2} {nl : L2} {yt : Int32} {im : Img} {ms : A1} {ma : A2} {ml : L2}
theorem m_marksSet {u v : Rl} (h13 : v 13 0 ≤ 10) (hM : RM u 0 ms ma) (hu : ∀ f, f ≠ 24 → u f = v f) {s : Nat} (hs : s < 2 ^ 31) {S : Nat → Bool} (hS : ∀ b, b < v 13 0 → s.testBit b = S b) {post : A2 → Prop} (h : ∀ mb : A2, RM (vm v S) 0 ms mb → (∀ (ms : A1) (ml : L2), MG ms ma ml ms mb ml) → mb 20 = ma 20 → post mb) : P_X12_marksSet ma (nI s) post := by
  have e13 : ma 10 0 = nI (v 13 0) := by rw [hM.1.1.2.2.2.2, hu 13 (by decide)]
  have L : ∀ (k i : Nat) (mb : A2), i + k = v 13 0 → (∀ j, j ≠ 11 → mb j = ma j) → (∀ x, (∀ b, b < v 13 0 → x ≠ 5 * (10 * 0 + b) + 4) → mb 11 x = ma 11 x) → (∀ c, c < i → mb 11 (5 * (10 * 0 + c) + 4) = nI (if S c then 1 else 0)) → P_X12_marksSet_2 (nI s) post (k + 1) (nI i) mb := by
    intro k
    induction k with
    | zero =>
      intro i mb hi q1 q2 q3
      obtain rfl : i = v 13 0 := by omega
      refine ⟨fun _ => h mb ⟨hM.1.m hu q1 q2 q3, (hM.2.1.so hu S).eq (q1 12 (by decide)) (q1 13 (by decide)), ?_⟩ (fun a b => ⟨fun _ _ _ _ => rfl, fun j _ h11 _ _ => q1 j h11, fun x hx => q2 x (fun b hb => by omega), fun x _ => by rw [q1 14 (by decide)], rfl⟩) (q1 20 (by decide)), fun c => absurd ((cmp_le ((congrFun (q1 10 (by decide)) 0).trans e13) (by omega) (by omega)).mpr (Nat.le_refl _)) c⟩
      have := hM.2.2.so hu S
      unfold LX at this ⊢
      rw [q1 6 (by decide), q1 7 (by decide)]
      exact this
    | succ k ih =>
      intro i mb hi q1 q2 q3
      refine ⟨fun c => absurd ((cmp_le ((congrFun (q1 10 (by decide)) 0).trans e13) (by omega) (by omega)).mp c) (by omega), fun _ => ?_⟩
      show vp_in ((5 : Int32) * ((10 : Int32) * nI 0 + nI i) + 4) 250 ∧ (P_X12_marksSet_2 (nI s) post (k + 1) (nI i + 1) (va_up mb 11 (upd (mb 11) (((5 : Int32) * ((10 : Int32) * nI 0 + nI i) + 4).toNatClampNeg) ((nI s >>> (nI i &&& 31)) &&& 1))))
      rw [show (5 : Int32) * ((10 : Int32) * nI 0 + nI i) + 4 = nI (5 * (10 * 0 + i) + 4) from ix5 0 i 4, nI_clamp (by omega), bitv hs (by omega), hS i (by omega), nI_1]
      refine ⟨vp_in_nI (by omega) (by decide), ih (i + 1) _ (by omega) (fun j hj => by rw [up_ne hj, q1 j hj]) (fun x hx => ?_) (fun c hc => ?_)⟩
      · rw [up_at, u_ne (hx i (by omega))]
        exact q2 x hx
      · rw [up_at]
        by_cases e : c = i
        · rw [e, u_at]
        · rw [u_ne (by omega)]; exact q3 c (by omega)
  exact ⟨v 13 0 + 1, L (v 13 0) 0 ma (by omega) (fun _ _ => rfl) (fun _ _ => rfl) (fun c hc => by omega)⟩
/-- does some thief want one -/
def awF (u : Rl) : Nat := fa_first (fun t => decide (0 < wantN u t)) (u 14 0)
def aw (u : Rl) : Bool := decide (awF u < u 14 0)
theorem awF_at {u : Rl} {i : Nat} (hi : i ≤ awF u) (hn : i < u 14 0) : (0 < wantN u i → awF u = i) ∧ (¬ 0 < wantN u i → i + 1 ≤ awF u) := by
  refine ⟨fun e => ?_, fun e => ?_⟩
  · rcases Nat.lt_or_ge i (awF u) with q | q
    · have := fa_first_no (fun t => decide (0 < wantN u t)) (u 14 0) i q
      simp at this
      omega
    · omega
  · rcases Nat.lt_or_ge i (awF u) with q | q
    · exact q
    · exfalso
      have e2 : awF u = i := by omega
      have := fa_first_yes (fun t => decide (0 < wantN u t)) (u 14 0) (by unfold awF at e2; omega)
      rw [show fa_first (fun t => decide (0 < wantN u t)) (u 14 0) = i from e2] at this
      simp at this
      exact e this
theorem want_le (u : Rl) (h13 : u 13 0 ≤ 10) (t : Nat) : wantN u t ≤ 10 := by
  have := sumN_le (f := fun b => if 0 < net u t b then 1 else 0) (c := 1) (n := u 13 0) (fun b _ => by split <;> omega)
  unfold wantN
  omega
theorem c_anyWanted {u : Rl} (hu : okR u) {rx : A2} {rs0 : A1} (hC : RelC u rs0 rx) {post : Int32 → A1 → A2 → Prop} (h : ∀ nb : A2, (∀ j, 5 ≤ j → nb j = na j) → post (bI (aw u)) (va_up ns 0 (nI (u 13 0))) nb) : P_X11_anyWanted rs0 rx ns na post := by
  have h14 := ok14 hu.1
  have h13 := ok13 hu.1
  have hle : awF u ≤ u 14 0 := fa_first_le _ _
  refine c_lookAt hC hu.1 (fun nb hN hb => ?_)
  have hh := h nb hb
  have L : ∀ k i, i + k = u 14 0 → i ≤ awF u → P_X11_anyWanted_10 rs0 rx post (va_up ns 0 (nI (u 13 0))) nb (k + 1) (nI i) := by
    intro k
    induction k with
    | zero =>
      intro i hi hs
      obtain rfl : i = u 14 0 := by omega
      have e : aw u = false := by unfold aw; simp; omega
      rw [e] at hh
      exact ⟨fun _ => hh, fun c => absurd ((cmp_le (rc_s hC 14) (by omega) (by omega)).mpr (Nat.le_refl _)) c⟩
    | succ k ih =>
      intro i hi hs
      obtain ⟨e1, e2⟩ := awF_at hs (by omega)
      have hw := want_le u h13 i
      refine ⟨fun c => absurd ((cmp_le (rc_s hC 14) (by omega) (by omega)).mp c) (by omega), fun _ => c_wantedBy hC hu.1 hN (by omega) ?_⟩
      rw [show (0 : Int32) = nI 0 from rfl, nI_leI (by omega) (by decide), nI_1]
      refine ⟨fun c => ih (i + 1) (by omega) (e2 (by omega)), fun c => ?_⟩
      have e : aw u = true := by unfold aw; rw [e1 (by omega)]; simp; omega
      rw [e] at hh
      exact hh
  exact ⟨u 14 0 + 1, L (u 14 0) 0 (by omega) (Nat.zero_le _)⟩
theorem m_isWanted {u : Rl} (hu : okR u) (hM : RM u 0 ms ma) {post : Int32 → A1 → A2 → Prop} (h : ∀ mt mb, RM u 0 mt mb → (∀ ml : L2, MG ms ma ml mt mb ml) → mb 20 = ma 20 → post (bI (aw u)) mt mb) : P_X12_isWanted ms ma post := by
  have h14 := ok14 hu.1
  have h13 := ok13 hu.1
  have hle : awF u ≤ u 14 0 := fa_first_le _ _
  refine m_lays hu.1 hM none (by decide) (fun mb hL hmb => ?_)
  have hF : ∀ ml : L2, MF ms ma ml (va_up ms 12 (nI (thO u none))) mb ml := fun ml => ⟨fun j hj => up_ne hj, hmb, fun _ _ _ _ => rfl⟩
  have hM2 := (hF (fun _ _ => 0)).rm hM
  have hh := h _ mb hM2 (fun ml => (hF ml).g) (hmb 20 (by decide) (by decide))
  have L : ∀ k i, i + k = u 14 0 → i ≤ awF u → P_X12_isWanted_7 post (va_up ms 12 (nI (thO u none))) mb (k + 1) (nI i) := by
    intro k
    induction k with
    | zero =>
      intro i hi hs
      obtain rfl : i = u 14 0 := by omega
      have e : aw u = false := by unfold aw; simp; omega
      rw [e] at hh
      exact ⟨fun _ => hh, fun c => absurd ((cmp_le hM2.2.1.1 (by omega) (by omega)).mpr (Nat.le_refl _)) c⟩
    | succ k ih =>
      intro i hi hs
      obtain ⟨e1, e2⟩ := awF_at hs (by omega)
      have hw := want_le u h13 i
      refine ⟨fun c => absurd ((cmp_le hM2.2.1.1 (by omega) (by omega)).mp c) (by omega), fun _ => m_wantsOf (s := 0) hu.1 (by decide) hM2.1 hL (by omega) ?_⟩
      rw [show (0 : Int32) = nI 0 from rfl, nI_leI (by omega) (by decide), nI_1]
      refine ⟨fun c => ih (i + 1) (by omega) (e2 (by omega)), fun c => ?_⟩
      have e : aw u = true := by unfold aw; rw [e1 (by omega)]; simp; omega
      rw [e] at hh
      exact hh
  exact ⟨u 14 0 + 1, L (u 14 0) 0 (by omega) (Nat.zero_le _)⟩
def sK (k : Nat) : Nat → Bool := fun b => decide (b < k)
def mkF (v : Rl) : Nat := fa_first (fun k => !aw (vm v (sK k))) (v 13 0 + 1)
def mkI (v : Rl) : Int32 := if mkF v ≤ v 13 0 then nI (mkF v) else -1
theorem mkF_at {v : Rl} {i : Nat} (hi : i ≤ mkF v) (hn : i ≤ v 13 0) : (aw (vm v (sK i)) = false → mkF v = i) ∧ (aw (vm v (sK i)) = true → i + 1 ≤ mkF v) := by
  refine ⟨fun e => ?_, fun e => ?_⟩
  · rcases Nat.lt_or_ge i (mkF v) with q | q
    · have := fa_first_no (fun k => !aw (vm v (sK k))) (v 13 0 + 1) i q
      simp [e] at this
    · omega
  · rcases Nat.lt_or_ge i (mkF v) with q | q
    · exact q
    · exfalso
      have e2 : mkF v = i := by omega
      have := fa_first_yes (fun k => !aw (vm v (sK k))) (v 13 0 + 1) (by unfold mkF at e2; omega)
      rw [show fa_first (fun k => !aw (vm v (sK k))) (v 13 0 + 1) = i from e2] at this
      simp [e] at this
theorem q_marks (hI : Inv us ua rs ra ra2 sa sl ns na nl yt im ms ma ml) (rs2 : A1) : P_X11_marks rs ra rs2 ra2 ns na (fun r _ ra2' ns' na' => P_X12_marks ms ma (fun r' mt mb => r = r' ∧ Inv us ua rs ra ra2' sa sl ns' na' nl yt im mt mb ml)) := by
  obtain ⟨v, hv, hC, hM, hP, hY, hK, hB, F⟩ := hI.get
  have h13 := ok13 hv.1
  have fin := F ra2 ns na nl _ _ _ (MG.refl _ _ _) hM.1 hB hK
  have hle : mkF v ≤ v 13 0 + 1 := fa_first_le _ _
  rcases Nat.eq_zero_or_pos (v 2 0) with z | z
  · exact c_told0 hC z (b0t (m_rail0 hM.1 hv.1 z (b0t ⟨rfl, fin⟩)))
  · refine c_told hC hv.1 z (b1t (c_copyFrom hC hv.1 (fun rs' ra' hC1 hB1 _ => ?_)))
    have M : ∀ (ra3 : A2) (ns' : A1) (na' : A2), BOK ra3 → NOK ns' na' nl → P_X12_marks ms ma (fun r' mt mb => mkI v = r' ∧ Inv us ua rs ra ra3 sa sl ns' na' nl yt im mt mb ml) := by
      intro ra3 ns' na' hB3 hK3
      refine m_rail hM.1 hv.1 z (b1t (m_laysAside hv.1 hM (fun m0 h1 h2 => ?_)))
      have E : ∀ (x : Int32) (mt : A1) (mb : A2) (u : Rl), x = mkI v → RM u 0 mt mb → SO u v → MG (va_up ms 0 0) ma ml mt mb ml → mb 20 = m0 20 → P_X12_marks_66 (fun r' mt mb => mkI v = r' ∧ Inv us ua rs ra ra3 sa sl ns' na' nl yt im mt mb ml) x mt mb := by
        intro x mt mb u hx q1 q2 q3 q4
        refine m_takesBack hv.1 q2 q1 (fun b hb => by rw [q4]; exact h2 b hb) (fun md hMd hGd => ⟨hx.symm, F _ _ _ _ _ _ _ (q3.trans (hGd _ _)) hMd.1 hB3 hK3⟩)
      have L : ∀ (d k : Nat) (mt : A1) (mb : A2) (u : Rl), k + d = v 13 0 + 1 → k ≤ mkF v → RM u 0 mt mb → (∀ f, f ≠ 24 → u f = v f) → SO u v → MG (va_up ms 0 0) ma ml mt mb ml → mb 20 = m0 20 → P_X12_marks_23 (fun r' mt mb => mkI v = r' ∧ Inv us ua rs ra ra3 sa sl ns' na' nl yt im mt mb ml) (fun (x1_ : Int32) (ms : Nat → Int32) (ma : Nat → Nat → Int32) => P_X12_marks_66 (fun r' mt mb => mkI v = r' ∧ Inv us ua rs ra ra3 sa sl ns' na' nl yt im mt mb ml) x1_ ms ma) (d + 2) (-1) (nI k) mt mb := by
        intro d
        induction d with
        | zero =>
          intro k mt mb u hk hs q1 q2 q3 q4 q5
          obtain rfl : k = v 13 0 + 1 := by omega
          have e13 : mb 10 0 = nI (v 13 0) := by rw [q1.1.1.2.2.2.2, q3.n]
          refine ⟨fun _ => E _ mt mb u ?_ q1 q3 q4 q5, fun c => absurd (by rw [e13]; exact nI_lt (by omega) (by omega)) c⟩
          unfold mkI
          rw [if_neg (by omega)]
        | succ d ih =>
          intro k mt mb u hk hs q1 q2 q3 q4 q5
          have e13 : mb 10 0 = nI (v 13 0) := by rw [q1.1.1.2.2.2.2, q3.n]
          obtain ⟨e1, e2⟩ := mkF_at hs (by omega)
          have hpk : 2 ^ k ≤ 2 ^ 10 := Nat.pow_le_pow_right (by decide) (by omega)
          have hp0 : 0 < 2 ^ k := Nat.two_pow_pos _
          refine ⟨fun c => absurd (by rw [e13] at c; exact (nI_ltI (by omega) (by omega)).mp c) (by omega), fun _ => ⟨fun c => absurd rfl c, fun _ => ?_⟩⟩
          rw [sh1 (by omega), nI_pre hp0]
          refine m_marksSet h13 q1 q2 (s := 2 ^ k - 1) (by omega) (S := sK k) (fun b _ => by rw [Nat.testBit_two_pow_sub_one]; rfl) (fun mc r1 r2 r3 => ?_)
          have hu' := hv.m (sK k)
          refine m_isWanted hu' r1 (fun mt2 md s1 s2 s3 => ?_)
          rw [nI_1]
          have hG2 := (q4.trans (r2 _ _)).trans (s2 ml)
          have h20 := (s3.trans r3).trans q5
          cases hst : aw (vm v (sK k)) with
          | true =>
            refine ⟨fun c => absurd c (by decide), fun _ => ih (k + 1) mt2 md (vm v (sK k)) (by omega) (e2 hst) s1 (fun f hf => vm_f hf) (vm_so v _) hG2 h20⟩
          | false =>
            refine ⟨fun _ => ?_, fun c => absurd rfl c⟩
            have hE := E (nI k) mt2 md (vm v (sK k)) (by unfold mkI; rw [e1 hst, if_pos (by omega)]) s1 (vm_so v _) hG2 h20
            exact ⟨fun _ => hE, fun _ => ⟨fun _ => hE, fun c => absurd c (nI_nm1 (by omega))⟩⟩
      exact ⟨v 13 0 + 1 + 2, L (v 13 0 + 1) 0 _ m0 v (by omega) (Nat.zero_le _) (hM.fr (fun i _ _ => h1 i (by omega)) rfl rfl) (fun _ _ => rfl) (SO.refl v) (MG.of20 h1) rfl⟩
    -- marks on the trial
    have I : ∀ (k : Nat), k ≤ v 13 0 → ∀ (K84 : Int32 → A2 → A1 → A2 → Prop) (rx : A2) (nx : A1) (ax : A2) (u : Rl), RelC u rs' rx → (∀ f, f ≠ 24 → u f = v f) → (∀ ry, RelC (vm v (sK k)) rs' ry → K84 (nI k) ry nx ax) → ∃ m, P_X11_marks_42 rs ra rs' (fun r _ ra2' ns' na' => P_X12_marks ms ma (fun r' mt mb => r = r' ∧ Inv us ua rs ra ra2' sa sl ns' na' nl yt im mt mb ml)) K84 (nI k) nx ax m 0 rx := by
      intro k hk K84 rx nx ax u q1 q2 kk
      have L : ∀ (d i : Nat) (ry : A2), i + d = v 13 0 → (∀ j, j ≠ 8 → ry j = rx j) → (∀ c, c < i → ry 8 c = nI (if sK k c then 1 else 0)) → BOK ry → P_X11_marks_42 rs ra rs' (fun r _ ra2' ns' na' => P_X12_marks ms ma (fun r' mt mb => r = r' ∧ Inv us ua rs ra ra2' sa sl ns' na' nl yt im mt mb ml)) K84 (nI k) nx ax (d + 1) (nI i) ry := by
        intro d
        induction d with
        | zero =>
          intro i ry hi r1 r2 r3
          obtain rfl : i = v 13 0 := by omega
          exact ⟨fun _ => kk ry (q1.m q2 r1 r2 r3), fun c => absurd ((cmp_le (rc_s hC1 13) (by omega) (by omega)).mpr (Nat.le_refl _)) c⟩
        | succ d ih =>
          intro i ry hi r1 r2 r3
          refine ⟨fun c => absurd ((cmp_le (rc_s hC1 13) (by omega) (by omega)).mp c) (by omega), fun _ => ?_⟩
          rw [nI_leI (by omega) (by omega), nI_1, nI_clamp (by omega)]
          have st : ∀ y : Int32, (y = 0 ∨ y = 1) → y = nI (if sK k i then 1 else 0) → P_X11_marks_42 rs ra rs' (fun r _ ra2' ns' na' => P_X12_marks ms ma (fun r' mt mb => r = r' ∧ Inv us ua rs ra ra2' sa sl ns' na' nl yt im mt mb ml)) K84 (nI k) nx ax (d + 1) (nI (i + 1)) (va_up ry 8 (upd (ry 8) i y)) := by
            intro y hy01 hy
            refine ih (i + 1) _ (by omega) (fun j hj => by rw [up_ne hj, r1 j hj]) (fun c hc => ?_) (fun c hc => ?_)
            · rw [up_at]
              by_cases e : c = i
              · rw [e, u_at, hy]
              · rw [u_ne e]; exact r2 c (by omega)
            · rw [up_at]
              by_cases e : c = i
              · rw [e, u_at]; exact hy01
              · rw [u_ne e]; exact r3 c hc
          refine ⟨fun c => ⟨vp_in_nI (by omega) (by decide), st 0 (Or.inl rfl) ?_⟩, fun c => ⟨vp_in_nI (by omega) (by decide), st 1 (Or.inr rfl) ?_⟩⟩
          · unfold sK
            rw [if_neg (by simp; omega)]
            rfl
          · unfold sK
            rw [if_pos (by simp; omega)]
            rfl
      exact ⟨v 13 0 + 1, L (v 13 0) 0 rx (by omega) (fun _ _ => rfl) (fun c hc => by omega) q1.bok⟩
    have L : ∀ (d k : Nat) (rx : A2) (nx : A1) (ax : A2) (u : Rl), k + d = v 13 0 + 1 → k ≤ mkF v → RelC u rs' rx → (∀ f, f ≠ 24 → u f = v f) → NOK nx ax nl → P_X11_marks_26 rs ra (fun r _ ra2' ns' na' => P_X12_marks ms ma (fun r' mt mb => r = r' ∧ Inv us ua rs ra ra2' sa sl ns' na' nl yt im mt mb ml)) rs' (d + 1) (nI k) rx nx ax := by
      intro d
      induction d with
      | zero =>
        intro k rx nx ax u hk hs q1 q2 q3
        obtain rfl : k = v 13 0 + 1 := by omega
        refine ⟨fun _ => ?_, fun c => absurd (by rw [rc_s hC1 13]; exact nI_lt (by omega) (by omega)) c⟩
        have := M rx nx ax q1.bok q3
        unfold mkI at this
        rw [if_neg (by omega)] at this
        exact this
      | succ d ih =>
        intro k rx nx ax u hk hs q1 q2 q3
        obtain ⟨e1, e2⟩ := mkF_at hs (by omega)
        refine ⟨fun c => absurd (by rw [rc_s hC1 13] at c; exact (nI_ltI (by omega) (by omega)).mp c) (by omega), fun _ => ?_⟩
        refine I k (by omega) _ rx nx ax u q1 q2 (fun ry hCy => ?_)
        have hu' := hv.m (sK k)
        refine c_anyWanted hu' hCy (fun nb hb => ?_)
        rw [nI_1]
        have hK' := q3.look hb (nI (vm v (sK k) 13 0))
        cases hst : aw (vm v (sK k)) with
        | true => exact ⟨fun _ => ih (k + 1) ry _ nb (vm v (sK k)) (by omega) (e2 hst) hCy (fun f hf => vm_f hf) hK', fun c => absurd c (by decide)⟩
        | false =>
          refine ⟨fun c => absurd rfl c, fun _ => ?_⟩
          have := M ry _ nb hCy.bok hK'
          unfold mkI at this
          rw [e1 hst, if_pos (by omega)] at this
          exact this
    exact ⟨v 13 0 + 1 + 1, L (v 13 0 + 1) 0 ra' ns na v (by omega) (Nat.zero_le _) hC1 (fun _ _ => rfl) hK⟩
/-! hides -/
theorem c_markOthers {u v : Rl} (h13 : v 13 0 ≤ 10) {rs0 : A1} {rx : A2} (hC : RelC u rs0 rx) (hu : ∀ f, f ≠ 24 → u f = v f) {b : Nat} (hb : b < v 13 0) {x : Nat} (hx : x ≤ 1) {post : (Nat → Int32) → Prop} (h : ∀ mar, RelC (vm v (fun c => decide (x = 1) && decide (c ≠ b))) rs0 (va_up rx 8 mar) → post mar) : P_X0_markOthers (rs0 13) (rx 8) (nI b) (nI x) post := by
  have e13 : rs0 13 = nI (v 13 0) := by rw [rc_s hC 13, hu 13 (by decide)]
  have L : ∀ (d i : Nat) (mar : Nat → Int32), i + d = v 13 0 → (∀ c, c < i → mar c = nI (if (decide (x = 1) && decide (c ≠ b)) then 1 else 0)) → (∀ c, c < 10 → mar c = 0 ∨ mar c = 1) → P_X0_markOthers_2 (rs0 13) (nI b) (nI x) post (d + 1) (nI i) mar := by
    intro d
    induction d with
    | zero =>
      intro i mar hi r1 r2
      obtain rfl : i = v 13 0 := by omega
      exact ⟨fun _ => h mar (hC.m hu (fun j hj => up_ne hj) (fun k hk => by rw [up_at]; exact r1 k hk) (fun c hc => by rw [up_at]; exact r2 c hc)), fun c => absurd ((cmp_le e13 (by omega) (by omega)).mpr (Nat.le_refl _)) c⟩
    | succ d ih =>
      intro i mar hi r1 r2
      have st : ∀ y : Int32, (y = 0 ∨ y = 1) → y = nI (if (decide (x = 1) && decide (i ≠ b)) then 1 else 0) → P_X0_markOthers_2 (rs0 13) (nI b) (nI x) post (d + 1) (nI (i + 1)) (upd mar i y) := by
        intro y hy01 hy
        refine ih (i + 1) _ (by omega) (fun c hc => ?_) (fun c hc => ?_)
        · by_cases e : c = i
          · rw [e, u_at, hy]
          · rw [u_ne e]; exact r1 c (by omega)
        · by_cases e : c = i
          · rw [e, u_at]; exact hy01
          · rw [u_ne e]; exact r2 c hc
      refine ⟨fun c => absurd ((cmp_le e13 (by omega) (by omega)).mp c) (by omega), fun _ => ?_⟩
      rw [nI_1, nI_clamp (by omega), show (nI x = (0 : Int32)) = (nI x = nI 0) from rfl, nI_eq (by omega) (by decide), nI_eq (by omega) (by omega)]
      refine ⟨fun c => ⟨vp_in_nI (by omega) (by decide), st 0 (Or.inl rfl) (by simp [c]; rfl)⟩, fun c => ⟨fun c2 => ⟨vp_in_nI (by omega) (by decide), st 0 (Or.inl rfl) (by simp [c2]; rfl)⟩, fun c2 => ⟨vp_in_nI (by omega) (by decide), st 1 (Or.inr rfl) ?_⟩⟩⟩
      have : x = 1 := by omega
      simp [this, c2]
      rfl
  exact ⟨v 13 0 + 1, L (v 13 0) 0 (rx 8) (by omega) (fun c hc => by omega) hC.bok⟩
theorem hid_dec : ∀ n, n ≤ 10 → ∀ b, b < n → (nI (2 ^ n) - 1) &&& (nI (2 ^ b) ^^^ (-1)) = nI (2 ^ n - 1 - 2 ^ b) := by decide
theorem hid_bit : ∀ n, n ≤ 10 → ∀ b, b < n → ∀ c, c < n → (2 ^ n - 1 - 2 ^ b).testBit c = decide (c ≠ b) := by decide
theorem q_hides (hI : Inv us ua rs ra ra2 sa sl ns na nl yt im ms ma ml) (rs2 : A1) (p : Int32) : P_X11_hides rs ra rs2 ra2 ns na nl p (fun r _ ra2' ns' na' nl' => P_X12_hides ms ma ml p (fun r' mt mb mk => r = r' ∧ Inv us ua rs ra ra2' sa sl ns' na' nl' yt im mt mb mk)) := by
  obtain ⟨v, hv, hC, hM, hP, hY, hK, hB, F⟩ := hI.get
  have h13 := ok13 hv.1
  have fin := F ra2 ns na nl _ _ _ (MG.refl _ _ _) hM.1 hB hK
  rcases ixs p (n := v 13 0) (by omega) with h | ⟨b, hb, rfl⟩
  · exact c_hasB0 hC h (b0t (m_isB0 hM.1 hv.1 h (b0t ⟨rfl, fin⟩)))
  · have hp13 := pow13 h13
    have hp0 : 0 < 2 ^ v 13 0 := Nat.two_pow_pos _
    refine c_hasB hC hv.1 hb (b1t (c_copyFrom hC hv.1 (fun rs' ra' hC1 hB1 _ => ?_)))
    refine c_markOthers (x := 0) h13 hC1 (fun _ _ => rfl) hb (by decide) (fun mar hC2 => ?_)
    have hv2 := hv.m (fun c => decide (0 = 1) && decide (c ≠ b))
    refine c_lossOn hC2 hv2.1 hK (by rw [vm_f (by decide)]; exact hb) (fun n1 a1 l1 hK1 => ?_)
    have e8 : (va_up ra' 8 mar) 8 = mar := up_at
    have hmk := c_markOthers (x := 1) (rx := va_up ra' 8 mar) h13 hC2 (fun f hf => vm_f hf) hb (by decide) (post := fun mar_11 => P_X11_lossOn rs' (va_up ra' 8 mar_11) n1 a1 l1 (nI b) (fun (r16 : Int64) (ns_13 : Nat → Int32) (na_14 : Nat → Nat → Int32) (nl_15 : Nat → Nat → Int64) => P_X12_hides ms ma ml (nI b) (fun r' mt mb mk => lossL (vm v (fun c => decide (0 = 1) && decide (c ≠ b))) b - r16 = r' ∧ Inv us ua rs ra (va_up ra' 8 mar_11) sa sl ns_13 na_14 nl_15 yt im mt mb mk)))
    rw [e8] at hmk
    refine hmk (fun mar2 hC3 => ?_)
    rw [bx_uu] at hC3
    have hv3 := hv.m (fun c => decide (1 = 1) && decide (c ≠ b))
    refine c_lossOn hC3 hv3.1 hK1 (by rw [vm_f (by decide)]; exact hb) (fun n2 a2 l2 hK2 => ?_)
    refine m_isB hM.1 hv.1 hb (b1t (m_laysAside hv.1 hM (fun m0 h1 h2 => ?_)))
    have hM0 : RM v 0 (va_up ms 0 0) m0 := hM.fr (fun i _ _ => h1 i (by omega)) rfl rfl
    refine m_marksSet (s := 0) h13 hM0 (fun _ _ => rfl) (by decide) (S := fun c => decide (0 = 1) && decide (c ≠ b)) (fun c _ => by simp) (fun m1 r1 r2 r3 => ?_)
    refine m_nightF hv2.1 hv2.2.1 r1 (fun mt3 m3 l3 hF3 hP3 => m_lossOf hv2.1 (hF3.rm r1).1 hP3 (by rw [vm_f (by decide)]; exact hb) ?_)
    have hM3 := hF3.rm r1
    rw [show m3 10 0 = nI (v 13 0) by rw [hM3.1.1.2.2.2.2, vm_f (by decide)], sh1 (by omega), sh1 (by omega), hid_dec _ h13 b hb]
    refine m_marksSet (u := vm v (fun c => decide (0 = 1) && decide (c ≠ b))) h13 hM3 (fun f hf => vm_f hf) (s := 2 ^ v 13 0 - 1 - 2 ^ b) (Nat.lt_of_le_of_lt (Nat.le_trans (Nat.sub_le _ _) (Nat.sub_le _ _)) (by omega)) (S := fun c => decide (1 = 1) && decide (c ≠ b)) (fun c hc => by rw [hid_bit _ h13 b hb c hc]; simp) (fun m4 s1 s2 s3 => ?_)
    refine m_nightF hv3.1 hv3.2.1 s1 (fun mt5 m5 l5 hF5 hP5 => m_lossOf hv3.1 (hF5.rm s1).1 hP5 (by rw [vm_f (by decide)]; exact hb) (fun x hx => ?_))
    refine m_takesBack hv.1 (vm_so v _) (hF5.rm s1) (fun c hc => by rw [hF5.2.1 20 (by decide) (by decide), s3, hF3.2.1 20 (by decide) (by decide), r3]; exact h2 c hc) (fun md hMd hGd => ?_)
    exact ⟨hx.symm, F _ _ _ _ _ _ _ ((((((MG.of20 h1).trans (r2 _ _)).trans hF3.g).trans (s2 _ _)).trans hF5.g).trans (hGd _ _)) hMd.1 hC3.bok hK2⟩
end MK
end
