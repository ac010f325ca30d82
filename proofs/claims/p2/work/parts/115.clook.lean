/-! the class's Night looks at a rail: each thief's order -/
theorem nI_zI (n : Nat) : nI n = zI (n : Int) := rfl
theorem z_neg {a b : Nat} (ha : a < 2 ^ 30) (hb : b < 2 ^ 30) : -(nI a - nI b) = zI (-((a : Int) - (b : Int))) := by
  rw [← Int32.toInt_inj]
  unfold zI
  rw [fb_ofI (by omega) (by omega), fb_negI (by rw [nS ha hb]; omega), nS ha hb]
theorem z_neg1 {a : Nat} (ha : a < 2 ^ 30) : -(nI a) = zI (-(a : Int)) := by
  rw [← Int32.toInt_inj]
  unfold zI
  rw [fb_ofI (by omega) (by omega), fb_negI (by rw [nI_toInt (by omega)]; omega), nI_toInt (by omega)]
theorem gain_le {v : Rl} (hv : okV v) {b : Nat} (hb : b < v 13 0) : gain v b ≤ 9999 := by
  have h5 : v 5 0 ≤ 100 := hv.1.2.2.2.2.2.1
  obtain ⟨-, b21, -, -, -⟩ := hv.2.2.2.2.1 b hb
  unfold gain
  split
  · refine Nat.le_trans (Nat.div_le_of_le_mul ?_) b21
    rw [Nat.mul_comm]
    exact Nat.mul_le_mul_right _ (by omega)
  · split
    · refine Nat.le_trans (Nat.div_le_of_le_mul ?_) b21
      rw [Nat.mul_comm]
      exact Nat.mul_le_mul_right _ (by omega)
    · exact b21
theorem trouble_le {v : Rl} (hv : okV v) {t b : Nat} (ht : t < v 14 0) (hb : b < v 13 0) : trouble v t b ≤ 600000 := by
  have hl := light_le hv (v 22 b)
  obtain ⟨b25, -, b27, -, -⟩ := hv.2.2.2.2.2.1 t ht
  obtain ⟨-, -, -, b23, -⟩ := hv.2.2.2.2.1 b hb
  unfold trouble
  split
  · omega
  · have hix : v 19 (3 * (v 23 b - 1) + v 25 t) ≤ 999 := hv.2.2.2.1 _ (by omega)
    have a1 : v 19 (3 * (v 23 b - 1) + v 25 t) * v 27 t ≤ 999 * 99 := Nat.mul_le_mul hix b27
    have a2 : v 19 (3 * (v 23 b - 1) + v 25 t) * v 27 t * (1 + light v (v 22 b)) ≤ 999 * 99 * 595 := Nat.mul_le_mul a1 (by omega)
    omega
/-- ranks are small -/
theorem rnk_rng {v : Rl} (hv : okV v) {s t : Nat} (ht : t < v 14 0) (hs : s ≤ 9999) (x : Nat) : -2147483648 ≤ rnk v s t x ∧ rnk v s t x < 2147483648 := by
  unfold rnk net
  by_cases hb : x < v 13 0
  · have h1 := gain_le hv hb
    have h2 := trouble_le hv ht hb
    simp only [hb, if_true]
    split <;> omega
  · simp only [hb, if_false]
    split <;> omega
theorem cmp_le {x : Int32} {n i : Nat} (h : x = nI n) (hn : n < 2 ^ 31) (hi : i < 2 ^ 31) : x ≤ nI i ↔ n ≤ i := by rw [h]; exact nI_leI hn hi
theorem cmp_eq {x : Int32} {n i : Nat} (h : x = nI n) (hn : n < 2 ^ 31) (hi : i < 2 ^ 31) : x = nI i ↔ n = i := by rw [h]; exact nI_eq hn hi
/-- what the Night knows of a rail -/
def NR (v : Rl) (s : Nat) (ns : Nat → Int32) (na : Nat → Nat → Int32) : Prop := ns 0 = nI (v 13 0) ∧ (∀ b, b < v 13 0 → na 0 b = nI (light v (v 22 b)) ∧ na 1 b = nI (gain v b)) ∧ ∀ t, t < v 14 0 → OL na t (ordl v s t (v 13 0 + 1))
theorem OL_eq {na nb : Nat → Nat → Int32} {t : Nat} {l : List Nat} (h : OL na t l) (h3 : nb 3 t = na 3 t) (h2 : ∀ i, i < 11 → nb 2 (11 * t + i) = na 2 (11 * t + i)) : OL nb t l := by
  obtain ⟨e3, e, e2⟩ := h
  exact ⟨h3.trans e3, e, fun i hi => ⟨(h2 i (by omega)).trans (e2 i hi).1, (e2 i hi).2⟩⟩
theorem c_orderFor {v : Rl} {rs : Nat → Int32} {ra : Nat → Nat → Int32} (hR : RelC v rs ra) (hv : okV v) {ns : Nat → Int32} {na : Nat → Nat → Int32} {s t : Nat} (hs : s ≤ 9999) (ht : t < v 14 0) (hb0 : ns 0 = nI (v 13 0)) (hl : ∀ b, b < v 13 0 → na 0 b = nI (light v (v 22 b)) ∧ na 1 b = nI (gain v b)) {post : (Nat → Nat → Int32) → Prop}
    (h : ∀ nb : Nat → Nat → Int32, OL nb t (ordl v s t (v 13 0 + 1)) → (∀ j, j ≠ 2 → j ≠ 3 → j ≠ 4 → nb j = na j) → (∀ t', t' ≠ t → nb 3 t' = na 3 t') → (∀ x, (x < 11 * t ∨ 11 * t + 11 ≤ x) → nb 2 x = na 2 x) → post nb) : P_X3_orderFor ns na rs ra (nI t) (nI s) post := by
  have h13 : v 13 0 ≤ 10 := hv.1.2.2.2.2.2.2.2.2.2.2.2.2.2.1
  have h14 : v 14 0 ≤ 6 := hv.1.2.2.2.2.2.2.2.2.2.2.2.2.2.2.1
  obtain ⟨-, -, -, e12, e13⟩ := hR.2.2.2.2.2.1 t ht
  obtain ⟨-, -, -, b28, b29⟩ := hv.2.2.2.2.2.1 t ht
  have rr := rnk_rng (v := v) hv (s := s) ht hs
  refine ⟨vp_in_nI (by omega) (by omega), vp_in_nI (by omega) (by omega), ?_⟩
  rw [nI_clamp (by omega), e12]
  intro x hx
  subst hx
  -- behind the bikes
  have fin : ∀ nb : Nat → Nat → Int32, OL nb t (ordl v s t (v 13 0)) → (∀ i, i < (ordl v s t (v 13 0)).length → nb 4 i = zI (rnk v s t ((ordl v s t (v 13 0)).getD i 0))) → (∀ j, j ≠ 2 → j ≠ 3 → j ≠ 4 → nb j = na j) → (∀ t', t' ≠ t → nb 3 t' = na 3 t') → (∀ x, (x < 11 * t ∨ 11 * t + 11 ≤ x) → nb 2 x = na 2 x) → P_X3_orderFor_124 ns rs ra (nI t) (nI s) post (nI (v 28 t)) nb := by
    intro nb o1 o2 o3 o4 o5
    have hlen := ordl_len v s t (v 13 0)
    by_cases hw : wnt v s t (v 13 0) = true
    · have ho : ordl v s t (v 13 0 + 1) = insr (rnk v s t) (v 13 0) (ordl v s t (v 13 0)) := by rw [ordl, if_pos hw]
      have hw2 : 0 < s ∧ v 28 t ≠ 2 := by
        unfold wnt at hw
        simpa using hw
      have put : ∀ q : Int32, q = zI (rnk v s t (v 13 0)) → P_X3_orderFor_151 ns rs ra (nI t) (nI s) post q (ns 0) (nI t) nb := by
        intro q hq
        unfold P_X3_orderFor_151
        rw [hq, hb0]
        refine c_putInOrder o1 (by omega) (by omega) h13 o2 rr (ordl_srt v s t _) (fun nc q1 q2 q3 q4 q5 => ?_)
        rw [← ho] at q1
        exact h nc q1 (fun j a b c => (q3 j a b c).trans (o3 j a b c)) (fun t' a => (q4 t' a).trans (o4 t' a)) (fun x a => (q5 x a).trans (o5 x a))
      refine ⟨fun c => absurd c (nI_nle hw2.1 (by omega)), fun _ => ⟨fun c => absurd ((nI_eq (b := 2) (by omega) (by decide)).mp c) hw2.2, fun _ => ⟨fun c => ?_, fun c => ?_⟩⟩⟩
      · refine put 0 ?_
        have : v 28 t ≠ 0 := fun q => c (by rw [q]; rfl)
        unfold rnk
        rw [if_neg this, if_neg (Nat.lt_irrefl _)]
        rfl
      · refine put _ ?_
        have : v 28 t = 0 := (nI_eq (b := 0) (by omega) (by decide)).mp c
        unfold rnk
        rw [if_pos this, if_neg (Nat.lt_irrefl _), z_neg1 (by omega)]
    · have ho : ordl v s t (v 13 0 + 1) = ordl v s t (v 13 0) := by rw [ordl, if_neg hw]
      have hh : post nb := h nb (by rw [ho]; exact o1) o3 o4 o5
      have hw2 : ¬ (0 < s ∧ v 28 t ≠ 2) := by
        intro q
        apply hw
        unfold wnt
        simp [q.1, q.2]
      refine ⟨fun _ => hh, fun c => ⟨fun _ => hh, fun c2 => absurd ⟨?_, ?_⟩ hw2⟩⟩
      · exact Nat.pos_of_ne_zero fun q => c (by rw [q]; decide)
      · exact fun q => c2 (by rw [q]; rfl)
  have L : ∀ (k i : Nat) (nb : Nat → Nat → Int32), i + k = v 13 0 → OL nb t (ordl v s t i) → (∀ j, j < (ordl v s t i).length → nb 4 j = zI (rnk v s t ((ordl v s t i).getD j 0))) → (∀ j, j ≠ 2 → j ≠ 3 → j ≠ 4 → nb j = na j) → (∀ t', t' ≠ t → nb 3 t' = na 3 t') → (∀ x, (x < 11 * t ∨ 11 * t + 11 ≤ x) → nb 2 x = na 2 x) → P_X3_orderFor_21 ns rs ra (nI t) (nI s) post (fun x4_ na => P_X3_orderFor_124 ns rs ra (nI t) (nI s) post x4_ na) (nI (v 28 t)) (k + 1) (nI i) nb := by
    intro k
    induction k with
    | zero =>
      intro i nb hi o1 o2 o3 o4 o5
      obtain rfl : i = v 13 0 := by omega
      refine ⟨fun _ => fin nb o1 o2 o3 o4 o5, fun c => absurd ?_ c⟩
      rw [rc_s hR 13]
      exact nI_le (Nat.le_refl _) (by omega)
    | succ k ih =>
      intro i nb hi o1 o2 o3 o4 o5
      have hib : i < v 13 0 := by omega
      have hlen := ordl_len v s t i
      have hg := gain_le hv hib
      have htr := trouble_le hv ht hib
      refine ⟨fun c => absurd ((cmp_le (rc_s hR 13) (by omega) (by omega)).mp c) (by omega), fun _ => ⟨vp_in_nI (by omega) (by omega), ?_⟩⟩
      rw [nI_clamp (by omega), o3 0 (by decide) (by decide) (by decide), (hl i hib).1]
      refine c_troubleOf hR hv ht hib rfl ?_
      refine ⟨vp_in_nI (by omega) (by omega), ?_⟩
      rw [o3 1 (by decide) (by decide) (by decide), (hl i hib).2]
      intro y hy
      subst hy
      have skip : wnt v s t i ≠ true → P_X3_orderFor_21 ns rs ra (nI t) (nI s) post (fun x4_ na => P_X3_orderFor_124 ns rs ra (nI t) (nI s) post x4_ na) (nI (v 28 t)) (k + 1) (nI (i + 1)) nb := by
        intro hw
        have ho : ordl v s t (i + 1) = ordl v s t i := by rw [ordl, if_neg hw]
        refine ih (i + 1) nb (by omega) (by rw [ho]; exact o1) (by rw [ho]; exact o2) o3 o4 o5
      have put : wnt v s t i = true → ∀ q : Int32, q = zI (rnk v s t i) → P_X3_orderFor_115 ns rs ra (nI t) (nI s) (nI (v 28 t)) post (P_X3_orderFor_21 ns rs ra (nI t) (nI s) post (fun x4_ na => P_X3_orderFor_124 ns rs ra (nI t) (nI s) post x4_ na) (nI (v 28 t)) (k + 1)) (nI i) q (nI i) (nI t) nb := by
        intro hw q hq
        have ho : ordl v s t (i + 1) = insr (rnk v s t) i (ordl v s t i) := by rw [ordl, if_pos hw]
        unfold P_X3_orderFor_115
        rw [hq, nI_1]
        refine c_putInOrder o1 (by omega) (by omega) (by omega) o2 rr (ordl_srt v s t _) (fun nc q1 q2 q3 q4 q5 => ?_)
        rw [← ho] at q1 q2
        exact ih (i + 1) nc (by omega) q1 q2 (fun j a b c => (q3 j a b c).trans (o3 j a b c)) (fun t' a => (q4 t' a).trans (o4 t' a)) (fun x a => (q5 x a).trans (o5 x a))
      have both : ∀ z : Int32, (z = 0 → wnt v s t i ≠ true) → (z ≠ 0 → v 28 t ≠ 2 ∨ v 29 t = i + 1) → P_X3_orderFor_86 ns rs ra (nI t) (nI s) (nI (v 28 t)) post (P_X3_orderFor_21 ns rs ra (nI t) (nI s) post (fun x4_ na => P_X3_orderFor_124 ns rs ra (nI t) (nI s) post x4_ na) (nI (v 28 t)) (k + 1)) (nI i) (nI (trouble v t i)) (nI (gain v i) - nI (trouble v t i)) z nb := by
        intro z z0 z1
        unfold P_X3_orderFor_86
        rw [nI_1]
        refine ⟨fun c => skip ?_, fun c => ⟨fun c2 => skip (z0 c2), fun c2 => ?_⟩⟩
        · have : ¬ trouble v t i < gain v i := by
            intro q
            have := (nS_pos (a := gain v i) (b := trouble v t i) (by omega) (by omega)).mpr q
            exact absurd c (Int32.not_le.mpr this)
          unfold wnt net
          rw [if_pos hib]
          simp
          intro q
          omega
        · have hpos : trouble v t i < gain v i := by
            refine (nS_pos (a := gain v i) (b := trouble v t i) (by omega) (by omega)).mp ?_
            exact Int32.not_le.mp c
          have hw : wnt v s t i = true := by
            unfold wnt net
            rw [if_pos hib]
            simp
            refine ⟨by omega, ?_⟩
            rcases z1 c2 with q | q
            · exact Or.inl q
            · exact Or.inr q
          refine ⟨fun c3 => put hw _ ?_, fun c3 => put hw _ ?_⟩
          · have : v 28 t ≠ 0 := fun q => c3 (by rw [q]; rfl)
            unfold rnk
            rw [if_neg this, if_pos hib]
            rfl
          · have : v 28 t = 0 := (nI_eq (b := 0) (by omega) (by decide)).mp c3
            unfold rnk net
            rw [if_pos this, if_pos hib, z_neg (by omega) (by omega)]
      refine ⟨fun c => both 1 (fun q => absurd q (by decide)) (fun _ => Or.inl fun q => c (by rw [q]; rfl)), fun c => ⟨vp_in_nI (by omega) (by omega), ?_⟩⟩
      have hj : v 28 t = 2 := (nI_eq (b := 2) (by omega) (by decide)).mp c
      rw [nI_clamp (by omega), e13]
      have hjx : nI i = nI (v 29 t) - 1 ↔ v 29 t = i + 1 := by
        rw [← Int32.toInt_inj, show (1 : Int32) = nI 1 from rfl, nS (by omega) (by decide), nI_toInt (by omega)]
        omega
      refine ⟨fun c2 => both 0 (fun _ => ?_) (fun q => absurd rfl q), fun c2 => both 1 (fun q => absurd q (by decide)) (fun _ => Or.inr (hjx.mp c2))⟩
      intro hw
      apply c2
      rw [hjx]
      unfold wnt at hw
      rw [if_pos hib] at hw
      simp [hj] at hw
      exact hw.2
  refine ⟨v 13 0 + 1, L (v 13 0) 0 _ (by omega) ⟨?_, by simp [ordl], fun i hi => by simp [ordl] at hi⟩ (fun j hj => by simp [ordl] at hj) ?_ ?_ ?_⟩
  · rw [up_at, u_at]
    rfl
  · intro j j2 j3 j4
    rw [up_ne j3]
  · intro t' ht'
    rw [up_at, u_ne ht']
  · intro x hx
    rw [up_ne (by decide)]
