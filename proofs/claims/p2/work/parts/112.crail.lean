/-! the class's rail: what its small methods answer -/
theorem rc_s {v : Rl} {rs : Nat → Int32} {ra : Nat → Nat → Int32} (h : RelC v rs ra) (j : Nat) (hj : j < 16 := by decide) : rs j = nI (v j 0) := h.1 j hj
theorem c_markedOnes {n : Nat} {am : Nat → Int32} {g : Nat → Nat} {post : Int32 → Prop} (hn : n ≤ 10) (hm : ∀ b, b < n → am b = nI (g b) ∧ g b ≤ 1) (h : post (nI (sumN g n))) : P_X0_markedOnes (nI n) am post := by
  have L : ∀ k i, i + k = n → P_X0_markedOnes_4 (nI n) am post (k + 1) (nI (sumN g i)) (nI i) := by
    intro k
    induction k with
    | zero =>
      intro i hi
      obtain rfl : i = n := by omega
      exact ⟨fun _ => h, fun c => absurd (nI_le (Nat.le_refl i) (by omega)) c⟩
    | succ k ih =>
      intro i hi
      refine ⟨fun c => absurd ((nI_leI (by omega) (by omega)).mp c) (by omega), fun _ => ⟨vp_in_nI (by omega) (by omega), ?_⟩⟩
      rw [nI_clamp (by omega)]
      obtain ⟨e, g1⟩ := hm i (by omega)
      rw [nI_1]
      have ihh := ih (i + 1) (by omega)
      refine ⟨fun c => ?_, fun c => ?_⟩
      · have g0 : g i = 0 := by
          rw [e] at c
          exact (nI_eq (b := 0) (by omega) (by decide)).mp c
        rw [sumN, g0] at ihh
        exact ihh
      · have g0 : g i = 1 := by
          have : g i ≠ 0 := fun q => c (by rw [e, q]; rfl)
          omega
        rw [sumN, g0] at ihh
        rw [nI_1]
        exact ihh
  exact ⟨n + 1, L n 0 (by omega)⟩
theorem c_lightOf {v : Rl} {rs : Nat → Int32} {ra : Nat → Nat → Int32} (hR : RelC v rs ra) (hv : okV v) {p : Nat} (hp : p < 20) {post : Int32 → Prop} (h : post (nI (light v p))) : P_X4_lightOf rs ra (nI p) post := by
  have h11 : v 11 0 ≤ 5 := hv.1.2.2.2.2.2.2.2.2.2.2.2.1
  have L : ∀ (base : Nat), base + sumN (fun k => v 17 k - dist p (v 16 k)) (v 11 0) = light v p → ∀ k i, i + k = v 11 0 → P_X4_lightOf_18 rs ra (nI p) post (k + 1) (nI (base + sumN (fun k => v 17 k - dist p (v 16 k)) i)) (nI i) := by
    intro base hbase k
    induction k with
    | zero =>
      intro i hi
      obtain rfl : i = v 11 0 := by omega
      refine ⟨fun _ => by rw [hbase]; exact h, fun c => absurd ?_ c⟩
      rw [rc_s hR 11]
      exact nI_le (Nat.le_refl _) (by omega)
    | succ k ih =>
      intro i hi
      refine ⟨fun c => absurd ?_ (show ¬ v 11 0 ≤ i by omega), fun _ => ⟨vp_in_nI (by omega) (by omega), vp_in_nI (by omega) (by omega), ?_⟩⟩
      · rw [rc_s hR 11] at c
        exact (nI_leI (by omega) (by omega)).mp c
      rw [nI_clamp (by omega)]
      obtain ⟨e0, e1⟩ := hR.2.1 i (by omega)
      obtain ⟨b0, b1⟩ := hv.2.1 i (by omega)
      have hd := dist_lt hp b0
      intro x hx
      rw [e0, e1, n_abs (by omega) (by omega), n_max0 (by omega) (by omega), nI_add] at hx
      rw [hx, nI_1]
      have := ih (i + 1) (by omega)
      rw [sumN, ← Nat.add_assoc] at this
      exact this
  refine ⟨fun c => ⟨v 11 0 + 1, ?_⟩, fun c x hx => ⟨v 11 0 + 1, ?_⟩⟩
  · have h10 : v 10 0 = 0 := by
      rw [rc_s hR 10] at c
      have := hv.1.2.2.2.2.2.2.2.2.2.2.1
      exact (nI_eq (b := 0) (by omega) (by decide)).mp c
    exact L 0 (by unfold light; simp [h10]) _ 0 (by omega)
  · have h10 : v 10 0 = 1 := by
      have := hv.1.2.2.2.2.2.2.2.2.2.2.1
      have : v 10 0 ≠ 0 := fun q => c (by rw [rc_s hR 10, q]; rfl)
      omega
    rw [hx, rc_s hR 9]
    exact L (v 9 0) (by unfold light; simp [h10]) _ 0 (by omega)
theorem nI_m1 {a : Nat} (ha : a < 2 ^ 30) : nI a - 1 = -1 ↔ a = 0 := by
  rw [show nI a - 1 = nI a - nI 1 from rfl, ← Int32.toInt_inj, nS ha (by decide), show (-1 : Int32).toInt = -1 from rfl]
  omega
theorem nI_pre {a : Nat} (h : 0 < a) : nI a - 1 = nI (a - 1) := by
  rw [show (1 : Int32) = nI 1 from rfl, pk_sub (by omega)]
theorem c_troubleOf {v : Rl} {rs : Nat → Int32} {ra : Nat → Nat → Int32} (hR : RelC v rs ra) (hv : okV v) {t b : Nat} (ht : t < v 14 0) (hb : b < v 13 0) {li : Nat} (hli : li = light v (v 22 b)) {post : Int32 → Prop} (h : post (nI (trouble v t b))) : P_X4_troubleOf ra (nI t) (nI b) (nI li) post := by
  have h13 : v 13 0 ≤ 10 := hv.1.2.2.2.2.2.2.2.2.2.2.2.2.2.1
  have h14 : v 14 0 ≤ 6 := hv.1.2.2.2.2.2.2.2.2.2.2.2.2.2.2.1
  have h12 : v 12 0 ≤ 5 := hv.1.2.2.2.2.2.2.2.2.2.2.2.2.1
  obtain ⟨-, -, -, e7, -⟩ := hR.2.2.2.2.1 b hb
  obtain ⟨e9, -, e11, -, -⟩ := hR.2.2.2.2.2.1 t ht
  obtain ⟨-, -, -, b23, -⟩ := hv.2.2.2.2.1 b hb
  obtain ⟨b25, -, b27, -, -⟩ := hv.2.2.2.2.2.1 t ht
  have hl := light_le hv (v 22 b)
  have fin : ∀ sec : Nat, sec ≤ 999 → sec * v 27 t * (1 + light v (v 22 b)) / 100 = trouble v t b → P_X4_troubleOf_43 ra (nI t) (nI b) (nI li) post (nI sec) := by
    intro sec hs he
    refine ⟨vp_in_nI (by omega) (by omega), ?_⟩
    rw [nI_clamp (by omega), e11, hli, show (1 : Int32) = nI 1 from rfl, show (100 : Int32) = nI 100 from rfl, nI_add, pk_mul, pk_mul, pk_div ?_ (by decide) (by decide), he]
    · exact h
    · have a1 : sec * v 27 t ≤ 999 * 99 := Nat.mul_le_mul hs b27
      have a2 : sec * v 27 t * (1 + light v (v 22 b)) ≤ 999 * 99 * 595 := Nat.mul_le_mul a1 (by omega)
      omega
  refine ⟨vp_in_nI (by omega) (by omega), ?_⟩
  intro x hx
  rw [nI_clamp (by omega), e7] at hx
  subst hx
  refine ⟨fun c => ?_, fun c => ?_⟩
  · have hp : 0 < v 23 b := Nat.pos_of_ne_zero fun q => c ((nI_m1 (by omega)).mpr q)
    have hix : v 19 (3 * (v 23 b - 1) + v 25 t) ≤ 999 := hv.2.2.2.1 _ (by omega)
    have ee : (3 : Int32) * (nI (v 23 b) - 1) + nI (v 25 t) = nI (3 * (v 23 b - 1) + v 25 t) := by
      rw [nI_pre hp, show (3 : Int32) = nI 3 from rfl, pk_mul, nI_add]
    refine ⟨vp_in_nI (by omega) (by omega), ?_⟩
    rw [nI_clamp (by omega), e9, ee]
    refine ⟨vp_in_nI (by omega) (by omega), ?_⟩
    rw [nI_clamp (by omega), hR.2.2.2.1 _ (by omega)]
    exact fin _ hix (by unfold trouble; rw [if_neg (by omega)])
  · have hz : v 23 b = 0 := (nI_m1 (by omega)).mp c
    exact fin 0 (by decide) (by unfold trouble; rw [if_pos hz]; simp)
theorem nMarked_le {v : Rl} (hv : okV v) : nMarked v ≤ v 13 0 := by
  have := sumN_le (f := fun b => v 24 b) (c := 1) (n := v 13 0) (fun k hk => (hv.2.2.2.2.1 k hk).2.2.2.2)
  unfold nMarked
  omega
theorem c_gainOf {v : Rl} {rs : Nat → Int32} {ra : Nat → Nat → Int32} (hR : RelC v rs ra) (hv : okV v) {b : Nat} (hb : b < v 13 0) {post : Int32 → Prop} (h : post (nI (gain v b))) : P_X4_gainOf rs ra (nI b) (nI (nMarked v)) post := by
  have h13 : v 13 0 ≤ 10 := hv.1.2.2.2.2.2.2.2.2.2.2.2.2.2.1
  have h6 : v 6 0 ≤ 1 := hv.1.2.2.2.2.2.2.1
  have h5 : v 5 0 ≤ 100 := hv.1.2.2.2.2.2.1
  obtain ⟨-, e5, -, -, e8⟩ := hR.2.2.2.2.1 b hb
  obtain ⟨-, b21, -, -, b24⟩ := hv.2.2.2.2.1 b hb
  have hm := nMarked_le hv
  refine ⟨vp_in_nI (by omega) (by omega), ?_⟩
  rw [nI_clamp (by omega), e5, rc_s hR 13, rc_s hR 6]
  intro x hx y hy
  rw [show (100 : Int32) = nI 100 from rfl, pk_mul] at hy
  subst hx; subst hy
  refine ⟨fun c => ?_, fun c => ⟨fun c2 => absurd c2 ?_, fun c2 => ⟨?_, ?_⟩⟩⟩
  · have hz : v 6 0 = 0 := (nI_eq (b := 0) (by omega) (by decide)).mp c
    refine ⟨vp_in_nI (by omega) (by omega), ?_⟩
    rw [nI_clamp (by omega), e8, rc_s hR 5]
    refine ⟨fun c3 => ?_, fun c3 => ?_⟩
    · have hz3 : v 24 b = 0 := (nI_eq (b := 0) (by omega) (by decide)).mp c3
      have : gain v b = v 21 b := by unfold gain; rw [if_neg (by omega), if_neg (by omega)]
      rw [this] at h
      exact h
    · have hz3 : v 24 b = 1 := by
        have : v 24 b ≠ 0 := fun q => c3 (by rw [q]; rfl)
        omega
      have : gain v b = v 21 b * (100 - v 5 0) / 100 := by unfold gain; rw [if_neg (by omega), if_pos hz3]
      rw [this] at h
      rw [show (100 : Int32) = nI 100 from rfl, pk_sub h5, pk_mul, pk_div ?_ (by decide) (by decide)]
      · exact h
      · have : v 21 b * (100 - v 5 0) ≤ 9999 * 100 := Nat.mul_le_mul b21 (by omega)
        omega
  · exact nI_nle (by omega) (by omega)
  · exact nI_ne0 (by omega) (by omega)
  · have hz : v 6 0 = 1 := by
      have : v 6 0 ≠ 0 := fun q => c (by rw [q]; rfl)
      omega
    have hk : v 5 0 * nMarked v ≤ 100 * v 13 0 := Nat.mul_le_mul h5 hm
    have : gain v b = v 21 b * (100 * v 13 0 - v 5 0 * nMarked v) / (100 * v 13 0) := by unfold gain; rw [if_pos hz]
    rw [this] at h
    rw [rc_s hR 5, pk_mul, pk_sub hk, pk_mul, pk_div ?_ (by omega) (by omega)]
    · exact h
    · have : v 21 b * (100 * v 13 0 - v 5 0 * nMarked v) ≤ 9999 * 1000 := Nat.mul_le_mul b21 (by omega)
      omega
