/-! promises 32 to 38: places, lamps, the watchman -/
def vs (v : Rl) (g b x : Nat) : Rl := fun f k => if f = g ∧ k = b then x else v f k
theorem vs_f {v : Rl} {g b x f : Nat} (h : f ≠ g) : vs v g b x f = v f := by
  funext k
  unfold vs
  rw [if_neg (fun q => h q.1)]
theorem vs_at (v : Rl) (g b x k : Nat) : vs v g b x g k = if k = b then x else v g k := by
  unfold vs
  by_cases c : k = b
  · simp [c]
  · simp [c]
theorem vs_vs (v : Rl) (g b x y : Nat) : vs (vs v g b x) g b y = vs v g b y := by
  funext f k
  unfold vs
  by_cases c : f = g ∧ k = b
  · rw [if_pos c, if_pos c]
  · rw [if_neg c, if_neg c, if_neg c]
theorem vs_self (v : Rl) (g b : Nat) : vs v g b (v g b) = v := by
  funext f k
  unfold vs
  by_cases c : f = g ∧ k = b
  · rw [if_pos c, c.1, c.2]
  · rw [if_neg c]
theorem RelT.vs {v : Rl} {j g : Nat} {ma : A2} (h : RelT v j ma) (b x : Nat) (h14 : 14 ≠ g) (h25 : 25 ≠ g) (h26 : 26 ≠ g) (h27 : 27 ≠ g) (h28 : 28 ≠ g) (h29 : 29 ≠ g) : RelT (vs v g b x) j ma := by
  unfold RelT at h ⊢
  simp only [vs_f (v := v) (g := g) (b := b) (x := x) h14, vs_f (v := v) (g := g) (b := b) (x := x) h25, vs_f (v := v) (g := g) (b := b) (x := x) h26, vs_f (v := v) (g := g) (b := b) (x := x) h27, vs_f (v := v) (g := g) (b := b) (x := x) h28, vs_f (v := v) (g := g) (b := b) (x := x) h29]
  exact h
theorem RelP.vs {v : Rl} {j g : Nat} {ma : A2} (h : RelP v j ma) (b x : Nat) (h11 : 11 ≠ g) (h16 : 16 ≠ g) (h17 : 17 ≠ g) : RelP (vs v g b x) j ma := by
  unfold RelP at h ⊢
  simp only [vs_f (v := v) (g := g) (b := b) (x := x) h11, vs_f (v := v) (g := g) (b := b) (x := x) h16, vs_f (v := v) (g := g) (b := b) (x := x) h17]
  exact h
theorem RelY.vs {v : Rl} {j g : Nat} {ma : A2} (h : RelY v j ma) (b x : Nat) (h15 : 15 ≠ g) (h30 : 30 ≠ g) (h31 : 31 ≠ g) : RelY (vs v g b x) j ma := by
  unfold RelY at h ⊢
  simp only [vs_f (v := v) (g := g) (b := b) (x := x) h15, vs_f (v := v) (g := g) (b := b) (x := x) h30, vs_f (v := v) (g := g) (b := b) (x := x) h31]
  exact h
theorem LX.vs {v : Rl} {j g : Nat} {ms : A1} {ma : A2} (h : LX v j ms ma) (b x : Nat) (h11 : 11 ≠ g) (h16 : 16 ≠ g) (h17 : 17 ≠ g) : LX (vs v g b x) j ms ma := by
  unfold LX at h ⊢
  simp only [vs_f (v := v) (g := g) (b := b) (x := x) h11, vs_f (v := v) (g := g) (b := b) (x := x) h16, vs_f (v := v) (g := g) (b := b) (x := x) h17]
  exact h
theorem okR.p {v : Rl} (hv : okR v) {b x : Nat} (hx : x < 20) : okR (vs v 22 b x) := by
  obtain ⟨⟨h0, h1, h2, h3, h4, h5, h6⟩, hJ, hT⟩ := hv
  unfold okR okV okJ
  simp only [vs_f (v := v) (g := 22) (b := b) (x := x) (f := 0) (by decide), vs_f (v := v) (g := 22) (b := b) (x := x) (f := 1) (by decide), vs_f (v := v) (g := 22) (b := b) (x := x) (f := 2) (by decide), vs_f (v := v) (g := 22) (b := b) (x := x) (f := 3) (by decide), vs_f (v := v) (g := 22) (b := b) (x := x) (f := 4) (by decide), vs_f (v := v) (g := 22) (b := b) (x := x) (f := 5) (by decide), vs_f (v := v) (g := 22) (b := b) (x := x) (f := 6) (by decide), vs_f (v := v) (g := 22) (b := b) (x := x) (f := 7) (by decide), vs_f (v := v) (g := 22) (b := b) (x := x) (f := 8) (by decide), vs_f (v := v) (g := 22) (b := b) (x := x) (f := 9) (by decide), vs_f (v := v) (g := 22) (b := b) (x := x) (f := 10) (by decide), vs_f (v := v) (g := 22) (b := b) (x := x) (f := 11) (by decide), vs_f (v := v) (g := 22) (b := b) (x := x) (f := 12) (by decide), vs_f (v := v) (g := 22) (b := b) (x := x) (f := 13) (by decide), vs_f (v := v) (g := 22) (b := b) (x := x) (f := 14) (by decide), vs_f (v := v) (g := 22) (b := b) (x := x) (f := 15) (by decide), vs_f (v := v) (g := 22) (b := b) (x := x) (f := 16) (by decide), vs_f (v := v) (g := 22) (b := b) (x := x) (f := 17) (by decide), vs_f (v := v) (g := 22) (b := b) (x := x) (f := 18) (by decide), vs_f (v := v) (g := 22) (b := b) (x := x) (f := 19) (by decide), vs_f (v := v) (g := 22) (b := b) (x := x) (f := 20) (by decide), vs_f (v := v) (g := 22) (b := b) (x := x) (f := 21) (by decide), vs_f (v := v) (g := 22) (b := b) (x := x) (f := 23) (by decide), vs_f (v := v) (g := 22) (b := b) (x := x) (f := 24) (by decide), vs_f (v := v) (g := 22) (b := b) (x := x) (f := 25) (by decide), vs_f (v := v) (g := 22) (b := b) (x := x) (f := 26) (by decide), vs_f (v := v) (g := 22) (b := b) (x := x) (f := 27) (by decide), vs_f (v := v) (g := 22) (b := b) (x := x) (f := 28) (by decide), vs_f (v := v) (g := 22) (b := b) (x := x) (f := 29) (by decide)]
  refine ⟨⟨h0, h1, h2, h3, fun k hk => ?_, h5, h6⟩, hJ, hT⟩
  obtain ⟨a, b', c, d, e⟩ := h4 k hk
  rw [vs_at]
  refine ⟨a, b', ?_, d, e⟩
  split
  · exact hx
  · exact c
theorem RelC.p {v : Rl} {rs : A1} {ra : A2} (hR : RelC v rs ra) (b x : Nat) : RelC (vs v 22 b x) rs (va_up ra 6 (upd (ra 6) b (nI x))) := by
  obtain ⟨r0, r1, r2, r3, r4, r5, r6, r7⟩ := hR
  unfold RelC
  simp only [vs_f (v := v) (g := 22) (b := b) (x := x) (f := 11) (by decide), vs_f (v := v) (g := 22) (b := b) (x := x) (f := 12) (by decide), vs_f (v := v) (g := 22) (b := b) (x := x) (f := 13) (by decide), vs_f (v := v) (g := 22) (b := b) (x := x) (f := 14) (by decide), vs_f (v := v) (g := 22) (b := b) (x := x) (f := 15) (by decide), vs_f (v := v) (g := 22) (b := b) (x := x) (f := 16) (by decide), vs_f (v := v) (g := 22) (b := b) (x := x) (f := 17) (by decide), vs_f (v := v) (g := 22) (b := b) (x := x) (f := 18) (by decide), vs_f (v := v) (g := 22) (b := b) (x := x) (f := 19) (by decide), vs_f (v := v) (g := 22) (b := b) (x := x) (f := 20) (by decide), vs_f (v := v) (g := 22) (b := b) (x := x) (f := 21) (by decide), vs_f (v := v) (g := 22) (b := b) (x := x) (f := 23) (by decide), vs_f (v := v) (g := 22) (b := b) (x := x) (f := 24) (by decide), vs_f (v := v) (g := 22) (b := b) (x := x) (f := 25) (by decide), vs_f (v := v) (g := 22) (b := b) (x := x) (f := 26) (by decide), vs_f (v := v) (g := 22) (b := b) (x := x) (f := 27) (by decide), vs_f (v := v) (g := 22) (b := b) (x := x) (f := 28) (by decide), vs_f (v := v) (g := 22) (b := b) (x := x) (f := 29) (by decide), vs_f (v := v) (g := 22) (b := b) (x := x) (f := 30) (by decide), vs_f (v := v) (g := 22) (b := b) (x := x) (f := 31) (by decide)]
  refine ⟨fun j hj => by rw [vs_f (by omega)]; exact r0 j hj, r1, r2, r3, fun k hk => ?_, r5, r6, r7⟩
  obtain ⟨a, b', c, d, e⟩ := r4 k hk
  simp only [va_up]
  simp only [Nat.reduceEqDiff, if_false, if_true]
  rw [vs_at]
  refine ⟨a, b', ?_, d, e⟩
  by_cases q : k = b
  · rw [q, u_at, if_pos rfl]
  · rw [u_ne q, if_neg q]; exact c
theorem RelN.p {v : Rl} {ma : A2} (hN : RelN v 0 ma) (b x : Nat) : RelN (vs v 22 b x) 0 (va_up ma 11 (upd (ma 11) (5 * (10 * 0 + b) + 2) (nI x))) := by
  obtain ⟨r0, r1, r2, r3, r4⟩ := hN
  unfold RelN
  simp only [vs_f (v := v) (g := 22) (b := b) (x := x) (f := 0) (by decide), vs_f (v := v) (g := 22) (b := b) (x := x) (f := 1) (by decide), vs_f (v := v) (g := 22) (b := b) (x := x) (f := 2) (by decide), vs_f (v := v) (g := 22) (b := b) (x := x) (f := 4) (by decide), vs_f (v := v) (g := 22) (b := b) (x := x) (f := 5) (by decide), vs_f (v := v) (g := 22) (b := b) (x := x) (f := 6) (by decide), vs_f (v := v) (g := 22) (b := b) (x := x) (f := 7) (by decide), vs_f (v := v) (g := 22) (b := b) (x := x) (f := 8) (by decide), vs_f (v := v) (g := 22) (b := b) (x := x) (f := 9) (by decide), vs_f (v := v) (g := 22) (b := b) (x := x) (f := 10) (by decide), vs_f (v := v) (g := 22) (b := b) (x := x) (f := 12) (by decide), vs_f (v := v) (g := 22) (b := b) (x := x) (f := 13) (by decide), vs_f (v := v) (g := 22) (b := b) (x := x) (f := 18) (by decide), vs_f (v := v) (g := 22) (b := b) (x := x) (f := 19) (by decide), vs_f (v := v) (g := 22) (b := b) (x := x) (f := 20) (by decide), vs_f (v := v) (g := 22) (b := b) (x := x) (f := 21) (by decide), vs_f (v := v) (g := 22) (b := b) (x := x) (f := 23) (by decide), vs_f (v := v) (g := 22) (b := b) (x := x) (f := 24) (by decide)]
  simp only [va_up]
  simp only [Nat.reduceEqDiff, if_false, if_true]
  refine ⟨r0, r1, r2, fun k hk => ?_, r4⟩
  obtain ⟨a, b', c, d, e⟩ := r3 k hk
  rw [vs_at]
  refine ⟨by rw [u_ne (by omega)]; exact a, by rw [u_ne (by omega)]; exact b', ?_, by rw [u_ne (by omega)]; exact d, by rw [u_ne (by omega)]; exact e⟩
  by_cases q : k = b
  · rw [q, u_at, if_pos rfl]
  · rw [u_ne (by omega), if_neg q]; exact c
theorem RM.p {v : Rl} {ms : A1} {ma : A2} (h : RM v 0 ms ma) (b x : Nat) : RM (vs v 22 b x) 0 ms (va_up ma 11 (upd (ma 11) (5 * (10 * 0 + b) + 2) (nI x))) := by
  refine ⟨h.1.p b x, (h.2.1.vs b x (by decide) (by decide) (by decide) (by decide) (by decide) (by decide)).eq (up_ne (by decide)) (up_ne (by decide)), ?_⟩
  have := h.2.2.vs b x (g := 22) (by decide) (by decide) (by decide)
  unfold LX at this ⊢
  rw [up_ne (by decide), up_ne (by decide)]
  exact this
theorem okR.w {v : Rl} (hv : okR v) {x : Nat} (hx : x ≤ 1) : okR (vs v 10 0 x) := by
  obtain ⟨⟨h0, h1, h2, h3, h4, h5, h6⟩, hJ, hT⟩ := hv
  unfold okR okV okJ
  have b := 0
  simp only [vs_f (v := v) (g := 10) (b := 0) (x := x) (f := 0) (by decide), vs_f (v := v) (g := 10) (b := 0) (x := x) (f := 1) (by decide), vs_f (v := v) (g := 10) (b := 0) (x := x) (f := 2) (by decide), vs_f (v := v) (g := 10) (b := 0) (x := x) (f := 3) (by decide), vs_f (v := v) (g := 10) (b := 0) (x := x) (f := 4) (by decide), vs_f (v := v) (g := 10) (b := 0) (x := x) (f := 5) (by decide), vs_f (v := v) (g := 10) (b := 0) (x := x) (f := 6) (by decide), vs_f (v := v) (g := 10) (b := 0) (x := x) (f := 7) (by decide), vs_f (v := v) (g := 10) (b := 0) (x := x) (f := 8) (by decide), vs_f (v := v) (g := 10) (b := 0) (x := x) (f := 9) (by decide), vs_f (v := v) (g := 10) (b := 0) (x := x) (f := 11) (by decide), vs_f (v := v) (g := 10) (b := 0) (x := x) (f := 12) (by decide), vs_f (v := v) (g := 10) (b := 0) (x := x) (f := 13) (by decide), vs_f (v := v) (g := 10) (b := 0) (x := x) (f := 14) (by decide), vs_f (v := v) (g := 10) (b := 0) (x := x) (f := 15) (by decide), vs_f (v := v) (g := 10) (b := 0) (x := x) (f := 16) (by decide), vs_f (v := v) (g := 10) (b := 0) (x := x) (f := 17) (by decide), vs_f (v := v) (g := 10) (b := 0) (x := x) (f := 18) (by decide), vs_f (v := v) (g := 10) (b := 0) (x := x) (f := 19) (by decide), vs_f (v := v) (g := 10) (b := 0) (x := x) (f := 20) (by decide), vs_f (v := v) (g := 10) (b := 0) (x := x) (f := 21) (by decide), vs_f (v := v) (g := 10) (b := 0) (x := x) (f := 22) (by decide), vs_f (v := v) (g := 10) (b := 0) (x := x) (f := 23) (by decide), vs_f (v := v) (g := 10) (b := 0) (x := x) (f := 24) (by decide), vs_f (v := v) (g := 10) (b := 0) (x := x) (f := 25) (by decide), vs_f (v := v) (g := 10) (b := 0) (x := x) (f := 26) (by decide), vs_f (v := v) (g := 10) (b := 0) (x := x) (f := 27) (by decide), vs_f (v := v) (g := 10) (b := 0) (x := x) (f := 28) (by decide), vs_f (v := v) (g := 10) (b := 0) (x := x) (f := 29) (by decide)]
  refine ⟨⟨?_, h1, h2, h3, h4, h5, h6⟩, hJ, hT⟩
  rw [vs_at, if_pos rfl]
  obtain ⟨a0, a1, a2, a3, a4, a5, a6, a7, a8, a9, a10, a11⟩ := h0
  exact ⟨a0, a1, a2, a3, a4, a5, a6, a7, a8, a9, hx, a11⟩
theorem RelC.w {v : Rl} {rs : A1} {ra : A2} (hR : RelC v rs ra) (x : Nat) : RelC (vs v 10 0 x) (va_up rs 10 (nI x)) ra := by
  obtain ⟨r0, r1, r2, r3, r4, r5, r6, r7⟩ := hR
  unfold RelC
  simp only [vs_f (v := v) (g := 10) (b := 0) (x := x) (f := 11) (by decide), vs_f (v := v) (g := 10) (b := 0) (x := x) (f := 12) (by decide), vs_f (v := v) (g := 10) (b := 0) (x := x) (f := 13) (by decide), vs_f (v := v) (g := 10) (b := 0) (x := x) (f := 14) (by decide), vs_f (v := v) (g := 10) (b := 0) (x := x) (f := 15) (by decide), vs_f (v := v) (g := 10) (b := 0) (x := x) (f := 16) (by decide), vs_f (v := v) (g := 10) (b := 0) (x := x) (f := 17) (by decide), vs_f (v := v) (g := 10) (b := 0) (x := x) (f := 18) (by decide), vs_f (v := v) (g := 10) (b := 0) (x := x) (f := 19) (by decide), vs_f (v := v) (g := 10) (b := 0) (x := x) (f := 20) (by decide), vs_f (v := v) (g := 10) (b := 0) (x := x) (f := 21) (by decide), vs_f (v := v) (g := 10) (b := 0) (x := x) (f := 22) (by decide), vs_f (v := v) (g := 10) (b := 0) (x := x) (f := 23) (by decide), vs_f (v := v) (g := 10) (b := 0) (x := x) (f := 24) (by decide), vs_f (v := v) (g := 10) (b := 0) (x := x) (f := 25) (by decide), vs_f (v := v) (g := 10) (b := 0) (x := x) (f := 26) (by decide), vs_f (v := v) (g := 10) (b := 0) (x := x) (f := 27) (by decide), vs_f (v := v) (g := 10) (b := 0) (x := x) (f := 28) (by decide), vs_f (v := v) (g := 10) (b := 0) (x := x) (f := 29) (by decide), vs_f (v := v) (g := 10) (b := 0) (x := x) (f := 30) (by decide), vs_f (v := v) (g := 10) (b := 0) (x := x) (f := 31) (by decide)]
  refine ⟨fun j hj => ?_, r1, r2, r3, r4, r5, r6, r7⟩
  by_cases q : j = 10
  · rw [q, up_at, vs_at, if_pos rfl]
  · rw [up_ne q, vs_f q]; exact r0 j hj
theorem RelN.w {v : Rl} {ma : A2} (hN : RelN v 0 ma) (x : Nat) : RelN (vs v 10 0 x) 0 (va_up ma 14 (upd (ma 14) 6 (nI x))) := by
  obtain ⟨r0, r1, r2, r3, f1, f2, f3, f4, f5, f6, f7⟩ := hN
  unfold RelN
  simp only [vs_f (v := v) (g := 10) (b := 0) (x := x) (f := 0) (by decide), vs_f (v := v) (g := 10) (b := 0) (x := x) (f := 1) (by decide), vs_f (v := v) (g := 10) (b := 0) (x := x) (f := 2) (by decide), vs_f (v := v) (g := 10) (b := 0) (x := x) (f := 4) (by decide), vs_f (v := v) (g := 10) (b := 0) (x := x) (f := 5) (by decide), vs_f (v := v) (g := 10) (b := 0) (x := x) (f := 6) (by decide), vs_f (v := v) (g := 10) (b := 0) (x := x) (f := 7) (by decide), vs_f (v := v) (g := 10) (b := 0) (x := x) (f := 8) (by decide), vs_f (v := v) (g := 10) (b := 0) (x := x) (f := 9) (by decide), vs_f (v := v) (g := 10) (b := 0) (x := x) (f := 12) (by decide), vs_f (v := v) (g := 10) (b := 0) (x := x) (f := 13) (by decide), vs_f (v := v) (g := 10) (b := 0) (x := x) (f := 18) (by decide), vs_f (v := v) (g := 10) (b := 0) (x := x) (f := 19) (by decide), vs_f (v := v) (g := 10) (b := 0) (x := x) (f := 20) (by decide), vs_f (v := v) (g := 10) (b := 0) (x := x) (f := 21) (by decide), vs_f (v := v) (g := 10) (b := 0) (x := x) (f := 22) (by decide), vs_f (v := v) (g := 10) (b := 0) (x := x) (f := 23) (by decide), vs_f (v := v) (g := 10) (b := 0) (x := x) (f := 24) (by decide)]
  simp only [va_up]
  simp only [Nat.reduceEqDiff, if_false, if_true]
  rw [vs_at, if_pos rfl]
  refine ⟨r0, r1, r2, r3, by rw [u_ne (by decide)]; exact f1, by rw [u_ne (by decide)]; exact f2, by rw [u_ne (by decide)]; exact f3, by rw [u_ne (by decide)]; exact f4, by rw [u_ne (by decide)]; exact f5, by rw [u_ne (by decide)]; exact f6, u_at⟩
theorem RM.w {v : Rl} {ms : A1} {ma : A2} (h : RM v 0 ms ma) (x : Nat) : RM (vs v 10 0 x) 0 ms (va_up ma 14 (upd (ma 14) 6 (nI x))) := by
  refine ⟨h.1.w x, (h.2.1.vs 0 x (by decide) (by decide) (by decide) (by decide) (by decide) (by decide)).eq (up_ne (by decide)) (up_ne (by decide)), ?_⟩
  have := h.2.2.vs 0 x (g := 10) (by decide) (by decide) (by decide)
  unfold LX at this ⊢
  rw [up_ne (by decide), up_ne (by decide)]
  exact this
theorem MG.a11 {ms : A1} {ma : A2} {ml : L2} {f : Nat → Int32} (h : ∀ x, 50 ≤ x → f x = ma 11 x) : MG ms ma ml ms (va_up ma 11 f) ml := ⟨fun _ _ _ _ => rfl, fun j _ a _ _ => up_ne a, fun x hx => by rw [up_at]; exact h x hx, fun x _ => by rw [up_ne (by decide)], rfl⟩
theorem MG.a14 {ms : A1} {ma : A2} {ml : L2} {f : Nat → Int32} (h : ∀ x, 7 ≤ x → f x = ma 14 x) : MG ms ma ml ms (va_up ma 14 f) ml := ⟨fun _ _ _ _ => rfl, fun j _ _ a _ => up_ne a, fun x _ => by rw [up_ne (by decide)], fun x hx => by rw [up_at]; exact h x hx, rfl⟩
theorem MG.b {ms : A1} {ma : A2} {ml : L2} {b : Nat} (hb : b < 10) (x : Int32) : MG ms ma ml ms (va_up ma 11 (upd (ma 11) (5 * (10 * 0 + b) + 2) x)) ml := MG.a11 (fun y hy => u_ne (by omega))
theorem MG.s {ms : A1} {ma : A2} {ml : L2} (x : Int32) : MG ms ma ml ms (va_up ma 14 (upd (ma 14) 6 x)) ml := MG.a14 (fun y hy => u_ne (by omega))
/-! who stands at a place -/
def stF (v : Rl) (p : Nat) : Nat := fa_first (fun b => v 22 b == p) (v 13 0)
def stI (v : Rl) (p : Nat) : Int32 := if stF v p < v 13 0 then nI (stF v p) else -1
theorem stF_at {v : Rl} {p i : Nat} (hi : i ≤ stF v p) (hn : i < v 13 0) : (v 22 i = p → stF v p = i) ∧ (v 22 i ≠ p → i + 1 ≤ stF v p) := by
  refine ⟨fun e => ?_, fun e => ?_⟩
  · rcases Nat.lt_or_ge i (stF v p) with q | q
    · have := fa_first_no (fun b => v 22 b == p) (v 13 0) i q
      simp [e] at this
    · omega
  · rcases Nat.lt_or_ge i (stF v p) with q | q
    · exact q
    · exfalso
      have e2 : stF v p = i := by omega
      have := fa_first_yes (fun b => v 22 b == p) (v 13 0) (by unfold stF at e2; omega)
      rw [show fa_first (fun b => v 22 b == p) (v 13 0) = i from e2] at this
      simp at this
      exact e this
section ST
variable {us : A1} {ua : A2} {rs : A1} {ra ra2 sa : A2} {sl : L2} {ns : A1} {na : A2} {nl : L2} {yt : Int32} {im : Img} {ms : A1} {ma : A2} {ml : L2}
theorem c_stands {v : Rl} (hC : RelC v rs ra) (hv : okV v) {p : Nat} (hp : p < 20) {post : Int32 → Prop} (h : post (stI v p)) : P_X0_standingAt (rs 13) (ra 6) (nI p) post := by
  have h13 := ok13 hv
  have hle : stF v p ≤ v 13 0 := fa_first_le _ _
  unfold stI at h
  have L : ∀ k i, i + k = v 13 0 → i ≤ stF v p → P_X0_standingAt_2 (rs 13) (ra 6) (nI p) post (k + 1) (nI i) := by
    intro k
    induction k with
    | zero =>
      intro i hi hs
      obtain rfl : i = v 13 0 := by omega
      rw [if_neg (by omega)] at h
      exact ⟨fun _ => h, fun c => absurd ((cmp_le (rc_s hC 13) (by omega) (by omega)).mpr (Nat.le_refl _)) c⟩
    | succ k ih =>
      intro i hi hs
      have hb := (hv.2.2.2.2.1 i (by omega)).2.2.1
      obtain ⟨e1, e2⟩ := stF_at hs (by omega)
      refine ⟨fun c => absurd ((cmp_le (rc_s hC 13) (by omega) (by omega)).mp c) (by omega), fun _ => ⟨vp_in_nI (by omega) (by decide), ?_⟩⟩
      rw [nI_clamp (by omega), (hC.2.2.2.2.1 i (by omega)).2.2.1, nI_eq (by omega) (by omega), nI_1]
      refine ⟨fun c => ih (i + 1) (by omega) (e2 c), fun c => ?_⟩
      rw [e1 c, if_pos (by omega)] at h
      exact h
  exact ⟨v 13 0 + 1, L (v 13 0) 0 (by omega) (Nat.zero_le _)⟩
theorem m_stands {v : Rl} (hN : RelN v 0 ma) (hv : okV v) {p : Nat} (hp : p < 20) {post : Int32 → Prop} (h : post (stI v p)) : P_X12_standsAt ma (nI p) post := by
  have h13 := ok13 hv
  have hle : stF v p ≤ v 13 0 := fa_first_le _ _
  have e13 : ma 10 0 = nI (v 13 0) := hN.1.2.2.2.2
  unfold stI at h
  have L : ∀ k i, i + k = v 13 0 → i ≤ stF v p → P_X12_standsAt_2 ma (nI p) post (k + 1) (nI i) := by
    intro k
    induction k with
    | zero =>
      intro i hi hs
      obtain rfl : i = v 13 0 := by omega
      rw [if_neg (by omega)] at h
      exact ⟨fun _ => h, fun c => absurd ((cmp_le e13 (by omega) (by omega)).mpr (Nat.le_refl _)) c⟩
    | succ k ih =>
      intro i hi hs
      have hb := (hv.2.2.2.2.1 i (by omega)).2.2.1
      obtain ⟨e1, e2⟩ := stF_at hs (by omega)
      refine ⟨fun c => absurd ((cmp_le e13 (by omega) (by omega)).mp c) (by omega), fun _ => ?_⟩
      show vp_in ((5 : Int32) * ((10 : Int32) * nI 0 + nI i) + 2) 250 ∧ ((¬ (ma 11 (((5 : Int32) * ((10 : Int32) * nI 0 + nI i) + 2).toNatClampNeg)) = nI p → P_X12_standsAt_2 ma (nI p) post (k + 1) (nI i + 1)) ∧ ((ma 11 (((5 : Int32) * ((10 : Int32) * nI 0 + nI i) + 2).toNatClampNeg)) = nI p → post (nI i)))
      rw [show (5 : Int32) * ((10 : Int32) * nI 0 + nI i) + 2 = nI (5 * (10 * 0 + i) + 2) from ix5 0 i 2, nI_clamp (by omega), (hN.2.2.2.1 i (by omega)).2.2.1, nI_eq (by omega) (by omega), nI_1]
      refine ⟨vp_in_nI (by omega) (by decide), fun c => ih (i + 1) (by omega) (e2 c), fun c => ?_⟩
      rw [e1 c, if_pos (by omega)] at h
      exact h
  exact ⟨v 13 0 + 1, L (v 13 0) 0 (by omega) (Nat.zero_le _)⟩
theorem st_cases (v : Rl) (p : Nat) (h13 : v 13 0 ≤ 10) : stI v p = -1 ∨ ∃ c, c < v 13 0 ∧ stI v p = nI c := by
  unfold stI
  split
  · exact Or.inr ⟨_, by assumption, rfl⟩
  · exact Or.inl rfl
theorem q_move (hI : Inv us ua rs ra ra2 sa sl ns na nl yt im ms ma ml) (p w : Int32) : P_X11_move rs ra p w (fun r ra' => P_X12_move ms ma p w (fun r' mt mb => r = r' ∧ Inv us ua rs ra' ra2 sa sl ns na nl yt im mt mb ml)) := by
  obtain ⟨v, hv, hC, hM, hP, hY, hK, hB, F⟩ := hI.get
  have h13 := ok13 hv.1
  have h0 := ok0 hv.1
  have fin := F ra2 ns na nl _ _ _ (MG.refl _ _ _) hM.1 hB hK
  rcases ixs p (n := v 13 0) (by omega) with h | ⟨b, hb, rfl⟩
  · exact c_hasB0 hC h (b0f (m_isB0 hM.1 hv.1 h (b0f ⟨rfl, fin⟩)))
  · rcases ixs w (n := v 0 0) (by omega) with h | ⟨q, hq, rfl⟩
    · exact c_hasB hC hv.1 hb (b1f (c_hasP0 hC h (b0t (m_isB hM.1 hv.1 hb (b1f (m_isP0 hM.1 hv.1 h (b0t ⟨rfl, fin⟩)))))))
    · refine c_hasB hC hv.1 hb (b1f (c_hasP hC hv.1 hq (b1t (c_stands hC hv.1 (by omega) ?_))))
      have M : ∀ (Q : Int32 → A1 → A2 → Prop), ((stI v q = -1 ∨ stI v q = nI b) → P_X12_move_43 (nI b) (nI q) Q (va_up ms 0 0) ma) → (¬ stI v q = -1 → ¬ stI v q = nI b → Q (-5) (va_up ms 0 0) ma) → P_X12_move ms ma (nI b) (nI q) Q := fun Q g1 g2 => m_isB hM.1 hv.1 hb (b1f (m_isP hM.1 hv.1 hq (b1t (m_stands hM.1 hv.1 (by omega) ⟨fun c => g1 (Or.inl c), fun c => ⟨fun c2 => g1 (Or.inr c2), fun c2 => g2 c c2⟩⟩))))
      have D : (stI v q = -1 ∨ stI v q = nI b) → P_X11_move_50 rs (nI b) (nI q) (fun r ra' => P_X12_move ms ma (nI b) (nI q) (fun r' mt mb => r = r' ∧ Inv us ua rs ra' ra2 sa sl ns na nl yt im mt mb ml)) ra := by
        intro hf
        refine ⟨vp_in_nI (by omega) (by decide), fun x hx => ⟨vp_in_nI (by omega) (by decide), ?_⟩⟩
        rw [nI_clamp (by omega), (hC.2.2.2.2.1 b hb).2.2.1] at hx
        subst hx
        rw [nI_clamp (by omega)]
        refine M _ (fun _ => ?_) (fun c c2 => absurd hf (fun o => o.elim c c2))
        show vp_in ((5 : Int32) * ((10 : Int32) * nI 0 + nI b) + 2) 250 ∧ (∀ x2 : Int32, x2 = (ma 11 (((5 : Int32) * ((10 : Int32) * nI 0 + nI b) + 2).toNatClampNeg)) → (vp_in ((5 : Int32) * ((10 : Int32) * nI 0 + nI b) + 2) 250 ∧ (nI (v 22 b) = x2 ∧ Inv us ua rs (va_up ra 6 (upd (ra 6) b (nI q))) ra2 sa sl ns na nl yt im (va_up ms 0 0) (va_up ma 11 (upd (ma 11) (((5 : Int32) * ((10 : Int32) * nI 0 + nI b) + 2).toNatClampNeg) (nI q))) ml)))
        rw [show (5 : Int32) * ((10 : Int32) * nI 0 + nI b) + 2 = nI (5 * (10 * 0 + b) + 2) from ix5 0 b 2, nI_clamp (by omega), (hM.1.2.2.2.1 b hb).2.2.1]
        refine ⟨vp_in_nI (by omega) (by decide), fun x hx => ⟨vp_in_nI (by omega) (by decide), hx.symm, ?_⟩⟩
        have hM' := hM.p b q
        have hG : MG (va_up ms 0 0) ma ml (va_up ms 0 0) (va_up ma 11 (upd (ma 11) (5 * (10 * 0 + b) + 2) (nI q))) ml := MG.b (by omega) _
        exact hI.step ((MG.z ms ma ml).trans hG) (hv.p (by omega)) (hC.p b q) hM'.1 hM'.2.1 ((hP.vs b q (by decide) (by decide) (by decide)).eq (up_ne (by decide)) (up_ne (by decide))) ((hY.vs b q (by decide) (by decide) (by decide)).eq (up_ne (by decide))) hB hK
      refine ⟨fun c => D (Or.inl c), fun c => ⟨fun c2 => D (Or.inr c2), fun c2 => M _ (fun o => absurd o (fun o => o.elim c c2)) (fun _ _ => ⟨rfl, fin⟩)⟩⟩
theorem q_swap (hI : Inv us ua rs ra ra2 sa sl ns na nl yt im ms ma ml) (p w : Int32) : P_X11_swap rs ra ns na nl p w (fun r ra' ns' na' nl' => P_X12_swap ms ma ml p w (fun r' mt mb mk => r = r' ∧ Inv us ua rs ra' ra2 sa sl ns' na' nl' yt im mt mb mk)) := by
  obtain ⟨v, hv, hC, hM, hP, hY, hK, hB, F⟩ := hI.get
  have h13 := ok13 hv.1
  have fin := F ra2 ns na nl _ _ _ (MG.refl _ _ _) hM.1 hB hK
  rcases two_cases hC hM.1 hv.1 p w with ⟨h1, h2⟩ | ⟨a, b, ha, hb, hab, rfl, rfl⟩
  · exact h1 _ (b0t (h2 _ (b0t ⟨rfl, fin⟩)))
  · have ca := (hC.2.2.2.2.1 a ha).2.2.1
    have cb := (hC.2.2.2.2.1 b hb).2.2.1
    have hv2 : okR (vs (vs v 22 a (v 22 b)) 22 b (v 22 a)) := (hv.p (hv.1.2.2.2.2.1 b hb).2.2.1).p (hv.1.2.2.2.2.1 a ha).2.2.1
    refine c_two hC hv.1 ha hb hab (b1t (c_allOn (w := 1) hC hv.1 hK (by decide) (fun n1 a1 l1 hK1 => ⟨vp_in_nI (by omega) (by decide), fun x hx => ⟨vp_in_nI (by omega) (by decide), vp_in_nI (by omega) (by decide), vp_in_nI (by omega) (by decide), ?_⟩⟩)))
    rw [nI_clamp (by omega), ca] at hx
    subst hx
    rw [nI_clamp (by omega), nI_clamp (by omega), cb]
    have hC2 := (hC.p a (v 22 b)).p b (v 22 a)
    rw [up_at, bx_uu] at hC2
    have M : ∀ (Q : Int32 → A1 → A2 → L2 → Prop), (∀ mt mb mk, RM (vs (vs v 22 a (v 22 b)) 22 b (v 22 a)) 0 mt mb → MG (va_up ms 0 0) ma ml mt mb mk → ((allL v 1 ≤ allL (vs (vs v 22 a (v 22 b)) 22 b (v 22 a)) 1) → Q 0 mt mb mk) ∧ ((¬ allL v 1 ≤ allL (vs (vs v 22 a (v 22 b)) 22 b (v 22 a)) 1) → Q 1 mt mb mk)) → P_X12_swap ms ma ml (nI a) (nI b) Q := by
      intro Q g
      refine m_two hM.1 hv.1 ha hb hab (b1t (m_allNow (w := 1) hv.1 hv.2.1 hM (by decide) (fun m3 a3 l3 hF => ?_)))
      have hM3 := hF.rm hM
      have ma3 := (hM3.1.2.2.2.1 a ha).2.2.1
      have mb3 := (hM3.1.2.2.2.1 b hb).2.2.1
      show vp_in ((5 : Int32) * ((10 : Int32) * nI 0 + nI a) + 2) 250 ∧ (∀ x8 : Int32, x8 = (a3 11 (((5 : Int32) * ((10 : Int32) * nI 0 + nI a) + 2).toNatClampNeg)) → (vp_in ((5 : Int32) * ((10 : Int32) * nI 0 + nI b) + 2) 250 ∧ (vp_in ((5 : Int32) * ((10 : Int32) * nI 0 + nI a) + 2) 250 ∧ (vp_in ((5 : Int32) * ((10 : Int32) * nI 0 + nI b) + 2) 250 ∧ (P_X12_allNow m3 (va_up a3 11 (upd (upd (a3 11) (((5 : Int32) * ((10 : Int32) * nI 0 + nI a) + 2).toNatClampNeg) (a3 11 (((5 : Int32) * ((10 : Int32) * nI 0 + nI b) + 2).toNatClampNeg))) (((5 : Int32) * ((10 : Int32) * nI 0 + nI b) + 2).toNatClampNeg) x8)) l3 1 (fun (r15 : Int64) (ms_12 : Nat → Int32) (ma_13 : Nat → Nat → Int32) (ml_14 : Nat → Nat → Int64) => (((allL v 1 ≤ r15) → Q 0 ms_12 ma_13 ml_14) ∧ ((¬ allL v 1 ≤ r15) → Q 1 ms_12 ma_13 ml_14))))))))
      rw [show (5 : Int32) * ((10 : Int32) * nI 0 + nI a) + 2 = nI (5 * (10 * 0 + a) + 2) from ix5 0 a 2, show (5 : Int32) * ((10 : Int32) * nI 0 + nI b) + 2 = nI (5 * (10 * 0 + b) + 2) from ix5 0 b 2, nI_clamp (by omega), nI_clamp (by omega), ma3, mb3]
      refine ⟨vp_in_nI (by omega) (by decide), fun x8 h8 => ⟨vp_in_nI (by omega) (by decide), vp_in_nI (by omega) (by decide), vp_in_nI (by omega) (by decide), ?_⟩⟩
      subst h8
      have hM4 := (hM3.p a (v 22 b)).p b (v 22 a)
      rw [up_at, bx_uu] at hM4
      have hG4 : MG m3 a3 l3 m3 (va_up a3 11 (upd (upd (a3 11) (5 * (10 * 0 + a) + 2) (nI (v 22 b))) (5 * (10 * 0 + b) + 2) (nI (v 22 a)))) l3 := MG.a11 (fun y hy => by rw [u_ne (by omega), u_ne (by omega)])
      exact m_allNow (w := 1) hv2.1 hv2.2.1 hM4 (by decide) (fun m5 a5 l5 hF5 => g m5 a5 l5 (hF5.rm hM4) ((hF.g.trans hG4).trans hF5.g))
    have FF : ∀ (ra' : A2) (ns' : A1) (na' : A2) (nl' : L2) (mt : A1) (mb : A2) (mk : L2), RelC (vs (vs v 22 a (v 22 b)) 22 b (v 22 a)) rs ra' → NOK ns' na' nl' → RM (vs (vs v 22 a (v 22 b)) 22 b (v 22 a)) 0 mt mb → MG (va_up ms 0 0) ma ml mt mb mk → Inv us ua rs ra' ra2 sa sl ns' na' nl' yt im mt mb mk := fun ra' ns' na' nl' mt mb mk c1 c2 c3 c4 => hI.step ((MG.z ms ma ml).trans c4) hv2 c1 c3.1 c3.2.1 (((hP.vs a _ (by decide) (by decide) (by decide)).vs b _ (by decide) (by decide) (by decide)).eq (c4.2.1 6 (by decide) (by decide) (by decide) (by decide)) (c4.2.1 7 (by decide) (by decide) (by decide) (by decide))) (((hY.vs a _ (by decide) (by decide) (by decide)).vs b _ (by decide) (by decide) (by decide)).eq (c4.2.1 16 (by decide) (by decide) (by decide) (by decide))) hB c2
    refine c_allOn (w := 1) hC2 hv2.1 hK1 (by decide) (fun n2 a2 l2 hK2 => ⟨fun c => M _ (fun mt mb mk hMm hG => ⟨fun _ => ⟨rfl, FF _ _ _ _ _ _ _ hC2 hK2 hMm hG⟩, fun c2 => absurd c c2⟩), fun c => M _ (fun mt mb mk hMm hG => ⟨fun c2 => absurd c2 c, fun _ => ⟨rfl, FF _ _ _ _ _ _ _ hC2 hK2 hMm hG⟩⟩)⟩)
def wI (v : Rl) (b : Nat) : Nat → Option (Nat × Int64)
  | 0 => none
  | p + 1 => if stI v p = -1 ∨ stI v p = nI b then mn (wI v b p) p (costL (vs v 22 b p) b) else wI v b p
theorem wI_le (v : Rl) (b : Nat) : ∀ p, ∀ q, wI v b p = some q → q.1 < p
  | 0 => by intro q hq; simp [wI] at hq
  | p + 1 => by
    have ih := wI_le v b p
    unfold wI
    split
    · exact mn_le (fun q hq => Nat.lt_succ_of_lt (ih q hq)) (Nat.lt_succ_self p)
    · exact fun q hq => Nat.lt_succ_of_lt (ih q hq)
theorem q_where (hI : Inv us ua rs ra ra2 sa sl ns na nl yt im ms ma ml) (rs2 : A1) (p : Int32) : P_X11_where rs ra rs2 ra2 ns na nl p (fun r _ ra2' ns' na' nl' => P_X12_where ms ma ml p (fun r' mt mb mk => r = r' ∧ Inv us ua rs ra ra2' sa sl ns' na' nl' yt im mt mb mk)) := by
  obtain ⟨v, hv, hC, hM, hP, hY, hK, hB, F⟩ := hI.get
  have h13 := ok13 hv.1
  have h0 := ok0 hv.1
  have fin := F ra2 ns na nl _ _ _ (MG.refl _ _ _) hM.1 hB hK
  rcases ixs p (n := v 13 0) (by omega) with h | ⟨b, hb, rfl⟩
  · exact c_hasB0 hC h (b0t (m_isB0 hM.1 hv.1 h (b0t ⟨rfl, fin⟩)))
  · refine c_hasB hC hv.1 hb (b1t (c_copyFrom hC hv.1 (fun rs' ra' hC1 hB1 _ => ?_)))
    have M : ∀ (ra3 : A2) (ns' : A1) (na' : A2) (nl' : L2), BOK ra3 → NOK ns' na' nl' → P_X12_where ms ma ml (nI b) (fun r' mt mb mk => oN (-1) (wI v b (v 0 0)) = r' ∧ Inv us ua rs ra ra3 sa sl ns' na' nl' yt im mt mb mk) := by
      intro ra3 ns' na' nl' hB3 hK3
      refine m_isB hM.1 hv.1 hb (b1t ?_)
      show vp_in ((5 : Int32) * ((10 : Int32) * nI 0 + nI b) + 2) 250 ∧ (∀ x17 : Int32, x17 = (ma 11 (((5 : Int32) * ((10 : Int32) * nI 0 + nI b) + 2).toNatClampNeg)) → _)
      rw [show (5 : Int32) * ((10 : Int32) * nI 0 + nI b) + 2 = nI (5 * (10 * 0 + b) + 2) from ix5 0 b 2, nI_clamp (by omega), (hM.1.2.2.2.1 b hb).2.2.1]
      refine ⟨vp_in_nI (by omega) (by decide), fun x hx => ?_⟩
      subst hx
      have L : ∀ (k i : Nat) (my : A1) (ay : A2) (ly : L2) (u : Rl), i + k = v 0 0 → RM u 0 my ay → u 0 0 = v 0 0 → (∀ q, vs u 22 b q = vs v 22 b q) → MG (va_up ms 0 0) ma ml my ay ly → P_X12_where_37 (nI b) (fun r' mt mb mk => oN (-1) (wI v b (v 0 0)) = r' ∧ Inv us ua rs ra ra3 sa sl ns' na' nl' yt im mt mb mk) (fun (x2_ : Int32) (x3_ : Int32) (ms : Nat → Int32) (ma : Nat → Nat → Int32) (ml : Nat → Nat → Int64) => P_X12_where_134 (nI b) (fun r' mt mb mk => oN (-1) (wI v b (v 0 0)) = r' ∧ Inv us ua rs ra ra3 sa sl ns' na' nl' yt im mt mb mk) x2_ x3_ ms ma ml) (nI (v 22 b)) (k + 1) (oN (-1) (wI v b i)) (oV 0 (wI v b i)) (nI i) my ay ly := by
        intro k
        induction k with
        | zero =>
          intro i my ay ly u hi r1 r2 r3 r4
          obtain rfl : i = v 0 0 := by omega
          have e : ay 4 0 = nI (v 0 0) := by rw [r1.1.1.2.1, r2]
          refine ⟨fun _ => ?_, fun c => absurd ((cmp_le e (by omega) (by omega)).mpr (Nat.le_refl _)) c⟩
          show vp_in ((5 : Int32) * ((10 : Int32) * nI 0 + nI b) + 2) 250 ∧ (oN (-1) (wI v b (v 0 0)) = oN (-1) (wI v b (v 0 0)) ∧ Inv us ua rs ra ra3 sa sl ns' na' nl' yt im my (va_up ay 11 (upd (ay 11) (((5 : Int32) * ((10 : Int32) * nI 0 + nI b) + 2).toNatClampNeg) (nI (v 22 b)))) ly)
          rw [show (5 : Int32) * ((10 : Int32) * nI 0 + nI b) + 2 = nI (5 * (10 * 0 + b) + 2) from ix5 0 b 2, nI_clamp (by omega)]
          have hM4 := r1.p b (v 22 b)
          rw [r3, vs_self] at hM4
          exact ⟨vp_in_nI (by omega) (by decide), rfl, F _ _ _ _ _ _ _ (r4.trans (MG.b (by omega) _)) hM4.1 hB3 hK3⟩
        | succ k ih =>
          intro i my ay ly u hi r1 r2 r3 r4
          have e : ay 4 0 = nI (v 0 0) := by rw [r1.1.1.2.1, r2]
          refine ⟨fun c => absurd ((cmp_le e (by omega) (by omega)).mp c) (by omega), fun _ => ?_⟩
          show vp_in ((5 : Int32) * ((10 : Int32) * nI 0 + nI b) + 2) 250 ∧ (P_X12_standsAt (va_up ay 11 (upd (ay 11) (((5 : Int32) * ((10 : Int32) * nI 0 + nI b) + 2).toNatClampNeg) (nI (v 22 b)))) (nI i) (fun r11 => ((r11 = (-1)) → P_X12_where_84 (nI b) (nI (v 22 b)) (fun r' mt mb mk => oN (-1) (wI v b (v 0 0)) = r' ∧ Inv us ua rs ra ra3 sa sl ns' na' nl' yt im mt mb mk) _ (oN (-1) (wI v b i)) (oV 0 (wI v b i)) (nI i) my (va_up ay 11 (upd (ay 11) (((5 : Int32) * ((10 : Int32) * nI 0 + nI b) + 2).toNatClampNeg) (nI (v 22 b)))) ly) ∧ ((¬ r11 = (-1)) → ((r11 = nI b) → P_X12_where_84 (nI b) (nI (v 22 b)) (fun r' mt mb mk => oN (-1) (wI v b (v 0 0)) = r' ∧ Inv us ua rs ra ra3 sa sl ns' na' nl' yt im mt mb mk) _ (oN (-1) (wI v b i)) (oV 0 (wI v b i)) (nI i) my (va_up ay 11 (upd (ay 11) (((5 : Int32) * ((10 : Int32) * nI 0 + nI b) + 2).toNatClampNeg) (nI (v 22 b)))) ly) ∧ ((¬ r11 = nI b) → _))))
          rw [show (5 : Int32) * ((10 : Int32) * nI 0 + nI b) + 2 = nI (5 * (10 * 0 + b) + 2) from ix5 0 b 2, nI_clamp (by omega)]
          refine ⟨vp_in_nI (by omega) (by decide), ?_⟩
          have hM4 := r1.p b (v 22 b)
          rw [r3, vs_self] at hM4
          have hG4 : MG (va_up ms 0 0) ma ml my (va_up ay 11 (upd (ay 11) (5 * (10 * 0 + b) + 2) (nI (v 22 b)))) ly := r4.trans (MG.b (by omega) _)
          refine m_stands hM4.1 hv.1 (by omega) ?_
          have D : (stI v i = -1 ∨ stI v i = nI b) → P_X12_where_84 (nI b) (nI (v 22 b)) (fun r' mt mb mk => oN (-1) (wI v b (v 0 0)) = r' ∧ Inv us ua rs ra ra3 sa sl ns' na' nl' yt im mt mb mk) (P_X12_where_37 (nI b) (fun r' mt mb mk => oN (-1) (wI v b (v 0 0)) = r' ∧ Inv us ua rs ra ra3 sa sl ns' na' nl' yt im mt mb mk) (fun (x2_ : Int32) (x3_ : Int32) (ms : Nat → Int32) (ma : Nat → Nat → Int32) (ml : Nat → Nat → Int64) => P_X12_where_134 (nI b) (fun r' mt mb mk => oN (-1) (wI v b (v 0 0)) = r' ∧ Inv us ua rs ra ra3 sa sl ns' na' nl' yt im mt mb mk) x2_ x3_ ms ma ml) (nI (v 22 b)) (k + 1)) (oN (-1) (wI v b i)) (oV 0 (wI v b i)) (nI i) my (va_up ay 11 (upd (ay 11) (5 * (10 * 0 + b) + 2) (nI (v 22 b)))) ly := by
            intro hf
            show vp_in ((5 : Int32) * ((10 : Int32) * nI 0 + nI b) + 2) 250 ∧ (P_X12_costNow my (va_up (va_up ay 11 (upd (ay 11) (5 * (10 * 0 + b) + 2) (nI (v 22 b)))) 11 (upd ((va_up ay 11 (upd (ay 11) (5 * (10 * 0 + b) + 2) (nI (v 22 b)))) 11) (((5 : Int32) * ((10 : Int32) * nI 0 + nI b) + 2).toNatClampNeg) (nI i))) ly (nI b) _)
            rw [show (5 : Int32) * ((10 : Int32) * nI 0 + nI b) + 2 = nI (5 * (10 * 0 + b) + 2) from ix5 0 b 2, nI_clamp (by omega)]
            refine ⟨vp_in_nI (by omega) (by decide), ?_⟩
            have hM5 := hM4.p b i
            have hv5 : okR (vs v 22 b i) := hv.p (by omega)
            refine m_costNow hv5.1 hv5.2.1 hM5 (by rw [vs_f (by decide)]; exact hb) (fun m6 a6 l6 hF => ?_)
            have go := ih (i + 1) m6 a6 l6 (vs v 22 b i) (by omega) (hF.rm hM5) (by rw [vs_f (by decide)]) (fun q => vs_vs v 22 b i q) ((hG4.trans (MG.b (by omega) _)).trans hF.g)
            rw [wI, if_pos hf] at go
            rw [nI_1]
            exact mn_m (A := fun n l => P_X12_where_37 (nI b) (fun r' mt mb mk => oN (-1) (wI v b (v 0 0)) = r' ∧ Inv us ua rs ra ra3 sa sl ns' na' nl' yt im mt mb mk) (fun (x2_ : Int32) (x3_ : Int32) (ms : Nat → Int32) (ma : Nat → Nat → Int32) (ml : Nat → Nat → Int64) => P_X12_where_134 (nI b) (fun r' mt mb mk => oN (-1) (wI v b (v 0 0)) = r' ∧ Inv us ua rs ra ra3 sa sl ns' na' nl' yt im mt mb mk) x2_ x3_ ms ma ml) (nI (v 22 b)) (k + 1) n l (nI (i + 1)) m6 a6 l6) (fun q hq => by have := wI_le v b i q hq; omega) 0 go
          refine ⟨fun c => D (Or.inl c), fun c => ⟨fun c2 => D (Or.inr c2), fun c2 => ?_⟩⟩
          have go := ih (i + 1) my _ ly v (by omega) hM4 rfl (fun _ => rfl) hG4
          rw [wI, if_neg (fun o => o.elim c c2)] at go
          rw [nI_1, show (5 : Int32) * ((10 : Int32) * 0 + nI b) + 2 = nI (5 * (10 * 0 + b) + 2) from ix5 0 b 2, nI_clamp (by omega)]
          exact go
      exact ⟨v 0 0 + 1, L (v 0 0) 0 _ _ _ v (by omega) hM rfl (fun _ => rfl) (MG.refl _ _ _)⟩
    have L : ∀ (k i : Nat) (ry : A2) (ny : A1) (ay : A2) (ly : L2) (u : Rl), i + k = v 0 0 → RelC u rs' ry → (∀ q, vs u 22 b q = vs v 22 b q) → NOK ny ay ly → P_X11_where_34 rs ra (nI b) (fun r _ ra2' ns' na' nl' => P_X12_where ms ma ml (nI b) (fun r' mt mb mk => r = r' ∧ Inv us ua rs ra ra2' sa sl ns' na' nl' yt im mt mb mk)) rs' (k + 1) (oN (-1) (wI v b i)) (oV 9223372036854775807 (wI v b i)) (nI i) ry ny ay ly := by
      intro k
      induction k with
      | zero =>
        intro i ry ny ay ly u hi r1 r2 r3
        obtain rfl : i = v 0 0 := by omega
        exact ⟨fun _ => M ry ny ay ly r1.bok r3, fun c => absurd ((cmp_le (rc_s hC 0) (by omega) (by omega)).mpr (Nat.le_refl _)) c⟩
      | succ k ih =>
        intro i ry ny ay ly u hi r1 r2 r3
        refine ⟨fun c => absurd ((cmp_le (rc_s hC 0) (by omega) (by omega)).mp c) (by omega), fun _ => c_stands hC hv.1 (by omega) ?_⟩
        have D : (stI v i = -1 ∨ stI v i = nI b) → P_X11_where_75 rs ra (nI b) rs' (fun r _ ra2' ns' na' nl' => P_X12_where ms ma ml (nI b) (fun r' mt mb mk => r = r' ∧ Inv us ua rs ra ra2' sa sl ns' na' nl' yt im mt mb mk)) (P_X11_where_34 rs ra (nI b) (fun r _ ra2' ns' na' nl' => P_X12_where ms ma ml (nI b) (fun r' mt mb mk => r = r' ∧ Inv us ua rs ra ra2' sa sl ns' na' nl' yt im mt mb mk)) rs' (k + 1)) (oN (-1) (wI v b i)) (oV 9223372036854775807 (wI v b i)) (nI i) ry ny ay ly := by
          intro hf
          refine ⟨vp_in_nI (by omega) (by decide), ?_⟩
          rw [nI_clamp (by omega)]
          have hC5 := r1.p b i
          rw [r2] at hC5
          have hv5 : okR (vs v 22 b i) := hv.p (by omega)
          have hb5 : b < vs v 22 b i 13 0 := by rw [vs_f (by decide)]; exact hb
          refine c_costOn hC5 hv5.1 r3 hb5 (fun n6 a6 l6 hK6 => ?_)
          have go := ih (i + 1) _ n6 a6 l6 (vs v 22 b i) (by omega) hC5 (fun q => vs_vs v 22 b i q) hK6
          rw [wI, if_pos hf] at go
          rw [nI_1]
          exact mn_c (lt_top (by have := cost_rng hv5.1 hb5; omega)) (-1) (A := fun n l => P_X11_where_34 rs ra (nI b) (fun r _ ra2' ns' na' nl' => P_X12_where ms ma ml (nI b) (fun r' mt mb mk => r = r' ∧ Inv us ua rs ra ra2' sa sl ns' na' nl' yt im mt mb mk)) rs' (k + 1) n l (nI (i + 1)) (va_up ry 6 (upd (ry 6) b (nI i))) n6 a6 l6) go
        refine ⟨fun c => D (Or.inl c), fun c => ⟨fun c2 => D (Or.inr c2), fun c2 => ?_⟩⟩
        have go := ih (i + 1) ry ny ay ly u (by omega) r1 r2 r3
        rw [wI, if_neg (fun o => o.elim c c2)] at go
        rw [nI_1]
        exact go
    exact ⟨v 0 0 + 1, L (v 0 0) 0 ra' ns na nl v (by omega) hC1 (fun _ => rfl) hK⟩
end ST

