/-! the least of several; bounds of costs -/
def am (f : Nat → Int64) : Nat → Nat × Int64
  | 0 => (0, f 0)
  | k + 1 => if f (k + 1) < (am f k).2 then (k + 1, f (k + 1)) else am f k
theorem am_val (f : Nat → Int64) : ∀ k, (am f k).2 = f (am f k).1
  | 0 => rfl
  | k + 1 => by
    unfold am
    split
    · rfl
    · exact am_val f k
theorem am_le (f : Nat → Int64) : ∀ k, (am f k).1 ≤ k
  | 0 => Nat.le_refl 0
  | k + 1 => by
    have := am_le f k
    unfold am
    split
    · exact Nat.le_refl _
    · omega
theorem am_cong {f g : Nat → Int64} : ∀ {k : Nat}, (∀ i, i ≤ k → f i = g i) → am f k = am g k
  | 0, h => by rw [am, am, h 0 (Nat.le_refl 0)]
  | k + 1, h => by rw [am, am, am_cong (fun i hi => h i (by omega)), h (k + 1) (Nat.le_refl _)]
/-- the same, begun with what there is now -/
def amS (f : Nat → Int64) (had : Nat) : Nat → Nat × Int64
  | 0 => (had, f had)
  | k + 1 => if f k < (amS f had k).2 then (k, f k) else amS f had k
theorem amS_eq (f : Nat → Int64) (had : Nat) : ∀ k, amS f had (k + 1) = if (am f k).2 < f had then am f k else (had, f had)
  | 0 => by
    unfold amS amS am
    rfl
  | k + 1 => by
    rw [amS, amS_eq f had k, am]
    by_cases c : (am f k).2 < f had
    · rw [if_pos c]
      by_cases c2 : f (k + 1) < (am f k).2
      · rw [if_pos c2, if_pos (Int64.lt_trans c2 c)]
      · rw [if_neg c2, if_pos c]
    · rw [if_neg c]
      by_cases c2 : f (k + 1) < f had
      · rw [if_pos c2]
        have c3 : f (k + 1) < (am f k).2 := by
          rw [Int64.lt_iff_toInt_lt] at c c2 ⊢
          omega
        rw [if_pos c3, if_pos c2]
      · rw [if_neg c2]
        by_cases c3 : f (k + 1) < (am f k).2
        · rw [if_pos c3, if_neg c2]
        · rw [if_neg c3, if_neg c]
/-- begun with the greatest number there is -/
def amT (f : Nat → Int64) (had : Nat) : Nat → Nat × Int64
  | 0 => (had, 9223372036854775807)
  | k + 1 => if f k < (amT f had k).2 then (k, f k) else amT f had k
theorem amT_eq {f : Nat → Int64} (had : Nat) (h : f 0 < 9223372036854775807) : ∀ k, amT f had (k + 1) = am f k
  | 0 => by
    unfold amT amT am
    rw [if_pos h]
  | k + 1 => by rw [amT, amT_eq had h k, am]
theorem loss_rng (v : Rl) (b : Nat) : -9223372037 ≤ (lossL v b).toInt ∧ (lossL v b).toInt ≤ 9223372037 := by
  unfold lossL
  generalize lN (v 1 0 * v 20 b) * risk v b = x
  have h1 := fb_rngL x
  rw [Int64.toInt_div, show (1000000000 : Int64).toInt = 1000000000 from rfl]
  have h2 : -9223372037 ≤ x.toInt.tdiv 1000000000 ∧ x.toInt.tdiv 1000000000 ≤ 9223372037 := by
    rcases Int.lt_or_le x.toInt 0 with c | c
    · obtain ⟨y, hy⟩ : ∃ y : Int, x.toInt = -y := ⟨-x.toInt, by omega⟩
      rw [hy, Int.neg_tdiv, Int.tdiv_eq_ediv_of_nonneg (by omega)]
      omega
    · rw [Int.tdiv_eq_ediv_of_nonneg c]
      omega
  rw [fb_bmodL (by omega) (by omega)]
  exact h2
theorem paid_le {v : Rl} (hv : okV v) {b : Nat} (hb : b < v 13 0) : paidZ v b ≤ 1998000 := by
  obtain ⟨-, -, -, b23, -⟩ := hv.2.2.2.2.1 b hb
  have h4 := ok4 hv
  have : (if v 23 b = 0 then 0 else v 18 (v 23 b - 1)) ≤ 999 := by
    split
    · omega
    · exact hv.2.2.1 _ (by omega)
  have : (if v 24 b = 1 then v 4 0 else 0) ≤ 999 := by split <;> omega
  unfold paidZ
  omega
theorem wsh_le {v : Rl} (hv : okV v) : wshZ v ≤ 59940000 := by
  have := wages_le hv
  unfold wshZ
  split
  · exact Nat.le_trans (Nat.div_le_self _ _) this
  · omega
theorem cost_int {v : Rl} (hv : okV v) {b : Nat} (hb : b < v 13 0) : (costL v b).toInt = (paidZ v b : Int) + (lossL v b).toInt + (wshZ v : Int) := by
  have h1 := loss_rng v b
  have h2 := paid_le hv hb
  have h3 := wsh_le hv
  have e1 : (lN (paidZ v b)).toInt = (paidZ v b : Int) := pk_lT (by omega)
  have e2 : (lN (wshZ v)).toInt = (wshZ v : Int) := pk_lT (by omega)
  have e3 : (lN (paidZ v b) + lossL v b).toInt = (paidZ v b : Int) + (lossL v b).toInt := by
    rw [fb_addL (by rw [e1]; omega) (by rw [e1]; omega), e1]
  unfold costL
  rw [fb_addL (by rw [e3, e2]; omega) (by rw [e3, e2]; omega), e3, e2]
theorem cost_rng {v : Rl} (hv : okV v) {b : Nat} (hb : b < v 13 0) : -9300000000 ≤ (costL v b).toInt ∧ (costL v b).toInt ≤ 9300000000 := by
  have h1 := loss_rng v b
  have h2 := paid_le hv hb
  have h3 := wsh_le hv
  rw [cost_int hv hb]
  omega
theorem what_rng {v : Rl} (hv : okV v) {b w : Nat} (hb : b < v 13 0) : -9300000000 ≤ (whatL v b w).toInt ∧ (whatL v b w).toInt ≤ 9300000000 := by
  unfold whatL
  split
  · have := paid_le hv hb
    rw [pk_lT (by omega)]
    omega
  · split
    · have := loss_rng v b
      omega
    · exact cost_rng hv hb
theorem sumL_rng {f : Nat → Int64} : ∀ {n : Nat}, n ≤ 10 → (∀ k, k < n → -9300000000 ≤ (f k).toInt ∧ (f k).toInt ≤ 9300000000) → -(n * 9300000000 : Int) ≤ (sumL f n).toInt ∧ (sumL f n).toInt ≤ (n * 9300000000 : Int)
  | 0, _, _ => by
    rw [sumL, show (0 : Int64).toInt = 0 from rfl]
    omega
  | n + 1, hn, h => by
    have ih := sumL_rng (n := n) (by omega) (fun k hk => h k (by omega))
    have := h n (by omega)
    rw [sumL, fb_addL (by omega) (by omega)]
    omega
theorem all_rng {v : Rl} (hv : okV v) (w : Nat) : -93000000000 ≤ (allL v w).toInt ∧ (allL v w).toInt ≤ 93000000000 := by
  have h13 := ok13 hv
  have := sumL_rng (f := fun b => whatL v b w) h13 (fun k hk => what_rng hv hk)
  unfold allL
  omega
theorem lt_top {x : Int64} (h : x.toInt ≤ 1000000000000) : x < 9223372036854775807 := by
  rw [Int64.lt_iff_toInt_lt, show (9223372036854775807 : Int64).toInt = 9223372036854775807 from rfl]
  omega
/-! rails that differ in options alone -/
def SO (u v : Rl) : Prop := ∀ f k, (f ≠ 23 ∧ f ≠ 24 ∨ v 13 0 ≤ k) → u f k = v f k
theorem SO.refl (v : Rl) : SO v v := fun _ _ _ => rfl
theorem SO.f {u v : Rl} (h : SO u v) {f : Nat} (h1 : f ≠ 23) (h2 : f ≠ 24) : u f = v f := funext fun k => h f k (Or.inl ⟨h1, h2⟩)
theorem SO.n {u v : Rl} (h : SO u v) : u 13 0 = v 13 0 := h 13 0 (Or.inl ⟨by decide, by decide⟩)
theorem SO.m {u v : Rl} (h : SO u v) : u 12 0 = v 12 0 := h 12 0 (Or.inl ⟨by decide, by decide⟩)
theorem SO.vo {u v : Rl} (h : SO u v) {b : Nat} (hb : b < v 13 0) (o : Nat) : SO (vo u b o) v := fun f k q => by
  rw [← h f k q]
  unfold Jvm.Pilot.@@N@@.vo
  rw [if_neg (by omega), if_neg (by omega)]
theorem RelP.so {u v : Rl} (h : SO u v) {j : Nat} {ma : A2} (hP : RelP v j ma) : RelP u j ma := by
  unfold RelP at hP ⊢
  rw [h.f (by decide) (by decide), h.f (by decide) (by decide), h.f (by decide) (by decide)]
  exact hP
theorem RelY.so {u v : Rl} (h : SO u v) {j : Nat} {ma : A2} (hY : RelY v j ma) : RelY u j ma := by
  unfold RelY at hY ⊢
  rw [h.f (by decide) (by decide), h.f (by decide) (by decide), h.f (by decide) (by decide)]
  exact hY
def tbk (u v : Rl) : Nat → Rl
  | 0 => u
  | i + 1 => vo (tbk u v i) i (opt v i)
theorem tbk_so {u v : Rl} (h : SO u v) : ∀ i, i ≤ v 13 0 → SO (tbk u v i) v
  | 0, _ => h
  | i + 1, hi => (tbk_so h i (by omega)).vo (by omega) _
theorem tbk_at {u v : Rl} (hv : okV v) : ∀ i, i ≤ v 13 0 → ∀ b, b < i → tbk u v i 23 b = v 23 b ∧ tbk u v i 24 b = v 24 b
  | 0, _, b, hb => by omega
  | i + 1, hi, b, hb => by
    have b24 := (hv.2.2.2.2.1 i (by omega)).2.2.2.2
    rw [tbk, vo_23, vo_24]
    by_cases c : b = i
    · rw [if_pos c, if_pos c, c]
      unfold opt
      omega
    · rw [if_neg c, if_neg c]
      exact tbk_at hv i (by omega) b (by omega)
theorem tbk_end {u v : Rl} (hv : okV v) (h : SO u v) : tbk u v (v 13 0) = v := by
  funext f k
  by_cases c : f ≠ 23 ∧ f ≠ 24 ∨ v 13 0 ≤ k
  · exact tbk_so h _ (Nat.le_refl _) f k c
  · have hk : k < v 13 0 := by omega
    have := tbk_at (u := u) hv _ (Nat.le_refl _) k hk
    have hf : f = 23 ∨ f = 24 := by omega
    rcases hf with rfl | rfl
    · exact this.1
    · exact this.2
section AS
variable {ms : A1} {ma : A2} {ml : L2}
theorem m_laysAside {v : Rl} (hv : okV v) (hM : RM v 0 ms ma) {post : A2 → Prop} (h : ∀ mb : A2, (∀ j, j ≠ 20 → mb j = ma j) → (∀ b, b < v 13 0 → mb 20 b = nI (opt v b)) → post mb) : P_X12_laysAside ma post := by
  have h13 := ok13 hv
  have e13 : ma 10 0 = nI (v 13 0) := hM.1.1.2.2.2.2
  have L : ∀ (k i : Nat) (mb : A2), i + k = v 13 0 → (∀ j, j ≠ 20 → mb j = ma j) → (∀ b, b < i → mb 20 b = nI (opt v b)) → P_X12_laysAside_2 post (k + 1) (nI i) mb := by
    intro k
    induction k with
    | zero =>
      intro i mb hi q1 q2
      obtain rfl : i = v 13 0 := by omega
      exact ⟨fun _ => h mb q1 q2, fun c => absurd ((cmp_le ((congrFun (q1 10 (by decide)) 0).trans e13) (by omega) (by omega)).mpr (Nat.le_refl _)) c⟩
    | succ k ih =>
      intro i mb hi q1 q2
      refine ⟨fun c => absurd ((cmp_le ((congrFun (q1 10 (by decide)) 0).trans e13) (by omega) (by omega)).mp c) (by omega), fun _ => ?_⟩
      refine m_optionOf (hM.1.fr (fun j _ _ => q1 j (by omega))) hv (by omega) ⟨vp_in_nI (by omega) (by decide), ?_⟩
      rw [nI_1, nI_clamp (by omega)]
      refine ih (i + 1) _ (by omega) (fun j hj => by rw [up_ne hj, q1 j hj]) (fun b hb => ?_)
      rw [up_at]
      by_cases c : b = i
      · rw [c, u_at]
      · rw [u_ne c, q2 b (by omega)]
  exact ⟨v 13 0 + 1, L (v 13 0) 0 ma (by omega) (fun _ _ => rfl) (fun b hb => by omega)⟩
theorem m_takesBack {u v : Rl} (hv : okV v) (hS : SO u v) (hM : RM u 0 ms ma) (h20 : ∀ b, b < v 13 0 → ma 20 b = nI (opt v b)) {post : A2 → Prop} (h : ∀ mb : A2, RM v 0 ms mb → (∀ (ms : A1) (ml : L2), MG ms ma ml ms mb ml) → post mb) : P_X12_takesBack ma post := by
  have h13 := ok13 hv
  have h12 := ok12 hv
  have L : ∀ (k i : Nat) (mb : A2), i + k = v 13 0 → RM (tbk u v i) 0 ms mb → (∀ (ms : A1) (ml : L2), MG ms ma ml ms mb ml) → mb 20 = ma 20 → P_X12_takesBack_2 post (k + 1) (nI i) mb := by
    intro k
    induction k with
    | zero =>
      intro i mb hi q1 q2 q3
      obtain rfl : i = v 13 0 := by omega
      have e13 : mb 10 0 = nI (v 13 0) := by rw [q1.1.1.2.2.2.2, (tbk_so hS _ (Nat.le_refl _)).n]
      rw [tbk_end hv hS] at q1
      exact ⟨fun _ => h mb q1 q2, fun c => absurd ((cmp_le e13 (by omega) (by omega)).mpr (Nat.le_refl _)) c⟩
    | succ k ih =>
      intro i mb hi q1 q2 q3
      have e13 : mb 10 0 = nI (v 13 0) := by rw [q1.1.1.2.2.2.2, (tbk_so hS _ (by omega)).n]
      have hol := opt_lt hv (b := i) (by omega)
      refine ⟨fun c => absurd ((cmp_le e13 (by omega) (by omega)).mp c) (by omega), fun _ => ⟨vp_in_nI (by omega) (by decide), ?_⟩⟩
      rw [nI_clamp (by omega), q3, h20 i (by omega)]
      refine m_setO q1 (by omega) (by omega) (fun mc r1 r2 r3 => ?_)
      rw [nI_1]
      exact ih (i + 1) mc (by omega) r1 (fun a b => (q2 a b).trans (r2 a b)) ((r3 20 (by decide)).trans q3)
  exact ⟨v 13 0 + 1, L (v 13 0) 0 ma (by omega) hM (fun a b => MG.refl _ _ _) rfl⟩
end AS
