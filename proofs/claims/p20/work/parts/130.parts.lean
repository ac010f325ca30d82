section
/-! the reference: its rows hold a rail -/
/-- row j: all but lamps and thieves -/
def RelN (v : Rl) (j : Nat) (ma : Nat → Nat → Int32) : Prop :=
  (ma 3 j = nI (v 2 0) ∧ ma 4 j = nI (v 0 0) ∧ ma 5 j = nI (v 1 0) ∧ ma 8 j = nI (v 12 0) ∧ ma 10 j = nI (v 13 0)) ∧
  (∀ k, k < v 12 0 → ma 9 (4 * (5 * j + k)) = nI (v 18 k)) ∧ (∀ k i, k < v 12 0 → i < 3 → ma 9 (4 * (5 * j + k) + 1 + i) = nI (v 19 (3 * k + i))) ∧
  (∀ b, b < v 13 0 → ma 11 (5 * (10 * j + b)) = nI (v 20 b) ∧ ma 11 (5 * (10 * j + b) + 1) = nI (v 21 b) ∧ ma 11 (5 * (10 * j + b) + 2) = nI (v 22 b) ∧ ma 11 (5 * (10 * j + b) + 3) = nI (v 23 b) - 1 ∧ ma 11 (5 * (10 * j + b) + 4) = nI (v 24 b)) ∧
  (ma 14 (7 * j) = nI (v 4 0) ∧ ma 14 (7 * j + 1) = nI (v 5 0) ∧ ma 14 (7 * j + 2) = nI (v 6 0) ∧ ma 14 (7 * j + 3) = nI (v 7 0) ∧ ma 14 (7 * j + 4) = nI (v 8 0) ∧ ma 14 (7 * j + 5) = nI (v 9 0) ∧ ma 14 (7 * j + 6) = nI (v 10 0))
/-- row j: thieves -/
def RelT (v : Rl) (j : Nat) (ma : Nat → Nat → Int32) : Prop := ma 12 j = nI (v 14 0) ∧ ∀ t, t < v 14 0 → ma 13 (5 * (6 * j + t)) = nI (v 25 t) ∧ ma 13 (5 * (6 * j + t) + 1) = nI (v 26 t) ∧ ma 13 (5 * (6 * j + t) + 2) = nI (v 27 t) ∧ ma 13 (5 * (6 * j + t) + 3) = nI (v 28 t) ∧ ma 13 (5 * (6 * j + t) + 4) = nI (v 29 t) - 1
/-- row j: lamps -/
def RelP (v : Rl) (j : Nat) (ma : Nat → Nat → Int32) : Prop := ma 6 j = nI (v 11 0) ∧ v 11 0 ≤ 4 ∧ ∀ k, k < v 11 0 → ma 7 (2 * (4 * j + k)) = nI (v 16 k) ∧ ma 7 (2 * (4 * j + k) + 1) = nI (v 17 k)
/-- row j: the year -/
def RelY (v : Rl) (j : Nat) (ma : Nat → Nat → Int32) : Prop := ma 16 (17 * j) = nI (v 15 0) ∧ (v 15 0 = 1 → (∀ b, b < 10 → ma 16 (17 * j + 1 + b) = nI (v 30 b)) ∧ ∀ t, t < 6 → ma 16 (17 * j + 11 + t) = nI (v 31 t))
/-- the light of row j, with the one lamp more -/
def LX (v : Rl) (j : Nat) (ms : Nat → Int32) (ma : Nat → Nat → Int32) : Prop := ∃ (la : Nat) (lp lb : Nat → Nat) (a b : Nat), ma 6 j = nI la ∧ la ≤ 4 ∧ (∀ k, k < la → ma 7 (2 * (4 * j + k)) = nI (lp k) ∧ ma 7 (2 * (4 * j + k) + 1) = nI (lb k) ∧ lp k < 20 ∧ lb k ≤ 99) ∧ ms 10 = nI a ∧ ms 11 = nI b ∧ a < 20 ∧ b ≤ 99 ∧ ∀ p, p < 20 → sumN (fun k => lb k - dist p (lp k)) la + (b - dist p a) = sumN (fun k => v 17 k - dist p (v 16 k)) (v 11 0)
theorem LX.of {v : Rl} (hv : okV v) {j : Nat} {ms : Nat → Int32} {ma : Nat → Nat → Int32} (h : RelP v j ma) (h10 : ms 10 = 0) (h11 : ms 11 = 0) : LX v j ms ma := by
  obtain ⟨h1, h2, h3⟩ := h
  refine ⟨v 11 0, v 16, v 17, 0, 0, h1, h2, fun k hk => ⟨(h3 k hk).1, (h3 k hk).2, hv.2.1 k hk⟩, h10, h11, by decide, by decide, fun p _ => by simp⟩
/-- what a call works on: row j's rail, with row 0's thieves -/
def RM (v : Rl) (j : Nat) (ms : Nat → Int32) (ma : Nat → Nat → Int32) : Prop := RelN v j ma ∧ RelT v 0 ma ∧ LX v j ms ma
theorem mk_lam {p : Nat} {ma : Nat → Nat → Int32} : True := trivial
theorem m_apart {a p : Nat} (ha : a < 2 ^ 30) (hp : p < 2 ^ 30) {post : Int32 → Prop} (h : post (nI (dist p a))) : P_X12_apart (nI a) (nI p) post := by
  unfold P_X12_apart
  rw [nI_leI (by omega) (by omega)]
  unfold dist at h
  refine ⟨fun c => ?_, fun c => ?_⟩
  · rw [pk_sub c]
    rw [show p - a + (a - p) = a - p by omega] at h
    exact h
  · rw [pk_sub (by omega)]
    rw [show p - a + (a - p) = p - a by omega] at h
    exact h
theorem m_above {a b : Nat} (ha : a < 2 ^ 30) (hb : b < 2 ^ 30) {post : Int32 → Prop} (h : post (nI (a - b))) : P_X12_above (nI a - nI b) post := by
  unfold P_X12_above
  have hp := nS_pos ha hb
  refine ⟨fun c => ?_, fun c => ?_⟩
  · have : ¬ b < a := fun q => absurd c (Int32.not_le.mpr (hp.mpr q))
    rw [show a - b = 0 by omega] at h
    exact h
  · have : b < a := hp.mp (Int32.not_le.mp c)
    rw [pk_sub (by omega)]
    exact h
theorem m_lightOf {v : Rl} (hv : okV v) {j : Nat} {ms : Nat → Int32} {ma : Nat → Nat → Int32} (hN : RelN v j ma) (hX : LX v j ms ma) (hj : j < 5) {p : Nat} (hp : p < 20) {post : Int32 → Prop} (h : post (nI (light v p))) : P_X12_lightOf ms ma (nI j) (nI p) post := by
  obtain ⟨la, lp, lb, a, b, x1, x2, x3, x4, x5, x6, x7, x8⟩ := hX
  obtain ⟨-, -, -, -, -, -, -, -, -, e9, e10⟩ := hN
  have h10 := ok10 hv
  have h9 := ok9 hv
  have hda := dist_lt hp x6
  have e56 : ∀ i, (7 : Int32) * nI j + nI i = nI (7 * j + i) := fun i => by rw [show (7 : Int32) = nI 7 from rfl, pk_mul, nI_add]
  have L : ∀ (base : Nat), base + sumN (fun k => v 17 k - dist p (v 16 k)) (v 11 0) = light v p → ∀ k i, i + k = la → P_X12_lightOf_35 ms ma (nI j) (nI p) post (fun (x3_ : Int32) => P_X12_lightOf_89 ms ma (nI j) (nI p) post x3_) (k + 1) (nI (base + sumN (fun k => lb k - dist p (lp k)) i)) (nI i) := by
    intro base hbase k
    induction k with
    | zero =>
      intro i hi
      obtain rfl : i = la := by omega
      refine ⟨vp_in_nI hj (by decide), ?_⟩
      rw [nI_clamp (by omega), x1]
      refine ⟨fun _ => ?_, fun c => absurd (nI_le (Nat.le_refl _) (by omega)) c⟩
      unfold P_X12_lightOf_89
      rw [x4, x5]
      refine m_apart (by omega) (by omega) (m_above (by omega) (by omega) ?_)
      rw [nI_add]
      have := x8 p hp
      rw [← hbase, ← this] at h
      rw [Nat.add_assoc]
      exact h
    | succ k ih =>
      intro i hi
      obtain ⟨y1, y2, y3, y4⟩ := x3 i (by omega)
      have hd := dist_lt hp y3
      refine ⟨vp_in_nI hj (by decide), ?_⟩
      rw [nI_clamp (by omega), x1]
      refine ⟨fun c => absurd ((nI_leI (by omega) (by omega)).mp c) (by omega), fun _ => ?_⟩
      rw [show (2 : Int32) * ((4 : Int32) * nI j + nI i) = nI (2 * (4 * j + i)) by simp only [fa_lit, pk_mul, nI_add]]
      intro y hy
      subst hy
      rw [nI_1]
      refine ⟨vp_in_nI (by omega) (by decide), vp_in_nI (by omega) (by decide), ?_⟩
      rw [nI_clamp (by omega), nI_clamp (by omega), y1, y2]
      refine m_apart (by omega) (by omega) (m_above (by omega) (by omega) (fun z hz => ?_))
      rw [nI_add] at hz
      rw [hz, nI_1]
      have := ih (i + 1) (by omega)
      rw [sumN, ← Nat.add_assoc] at this
      exact this
  unfold P_X12_lightOf
  rw [show (6 : Int32) = nI 6 from rfl, show (5 : Int32) = nI 5 from rfl, e56, e56, nI_clamp (by omega), nI_clamp (by omega), e10, e9]
  refine ⟨vp_in_nI (by omega) (by decide), fun c => ⟨la + 1, ?_⟩, fun c => ⟨vp_in_nI (by omega) (by decide), fun y hy => ⟨la + 1, ?_⟩⟩⟩
  · have z : v 10 0 = 0 := by
      have : v 10 0 ≠ 1 := fun q => c (by rw [q]; rfl)
      omega
    exact L 0 (by unfold light; rw [if_neg (by omega)]) la 0 (by omega)
  · have z : v 10 0 = 1 := (nI_eq (b := 1) (by omega) (by decide)).mp c
    rw [hy]
    exact L (v 9 0) (by unfold light; rw [if_pos z]) la 0 (by omega)
theorem ix5 (j b c : Nat) : (5 : Int32) * ((10 : Int32) * nI j + nI b) + nI c = nI (5 * (10 * j + b) + c) := by simp only [fa_lit, pk_mul, nI_add]
theorem ix50 (j b : Nat) : (5 : Int32) * ((10 : Int32) * nI j + nI b) = nI (5 * (10 * j + b)) := by simp only [fa_lit, pk_mul, nI_add]
theorem m_troubleOf {v : Rl} (hv : okV v) {j : Nat} {ms : Nat → Int32} {ma : Nat → Nat → Int32} (hM : RM v j ms ma) (hj : j < 5) {t b : Nat} (ht : t < v 14 0) (hb : b < v 13 0) {post : Int32 → Prop} (h : post (nI (trouble v t b))) : P_X12_troubleOf ms ma (nI t) (nI j) (nI b) post := by
  obtain ⟨hN, hT, hX⟩ := hM
  have h13 := ok13 hv
  have h14 := ok14 hv
  have h12 := ok12 hv
  obtain ⟨-, -, e22, e23, -⟩ := hN.2.2.2.1 b hb
  have eT := hT.2 t ht
  simp only [Nat.mul_zero, Nat.zero_add] at eT
  obtain ⟨e25, -, e27, -, -⟩ := eT
  obtain ⟨-, -, b22, b23, -⟩ := hv.2.2.2.2.1 b hb
  obtain ⟨b25, -, b27, -, -⟩ := hv.2.2.2.2.2.1 t ht
  have hl := light_le hv (v 22 b)
  show vp_in ((5 : Int32) * ((10 : Int32) * nI j + nI b) + 3) 250 ∧ _
  rw [show (5 : Int32) * ((10 : Int32) * nI j + nI b) + 3 = nI (5 * (10 * j + b) + 3) from ix5 j b 3, show (5 : Int32) * ((10 : Int32) * nI j + nI b) + 2 = nI (5 * (10 * j + b) + 2) from ix5 j b 2, nI_clamp (by omega), nI_clamp (by omega), e23, e22]
  refine ⟨vp_in_nI (by omega) (by decide), fun c => ⟨vp_in_nI (by omega) (by decide), ?_⟩, fun c => ?_⟩
  · have hp : 0 < v 23 b := Nat.pos_of_ne_zero fun q => c ((nI_m1 (by omega)).mpr q)
    rw [nI_pre hp, show (5 : Int32) * nI t = nI (5 * t) from pk_mul 5 t, nI_clamp (by omega), e25, show nI (5 * t) + 2 = nI (5 * t + 2) from nI_add _ 2, nI_clamp (by omega), e27]
    rw [show (4 : Int32) * ((5 : Int32) * nI j + nI (v 23 b - 1)) + 1 + nI (v 25 t) = nI (4 * (5 * j + (v 23 b - 1)) + 1 + v 25 t) by simp only [fa_lit, pk_mul, nI_add], nI_clamp (by omega), hN.2.2.1 _ _ (by omega) (by omega)]
    have hix : v 19 (3 * (v 23 b - 1) + v 25 t) ≤ 999 := hv.2.2.2.1 _ (by omega)
    have a1 : v 19 (3 * (v 23 b - 1) + v 25 t) * v 27 t ≤ 999 * 99 := Nat.mul_le_mul hix b27
    have a2 : v 19 (3 * (v 23 b - 1) + v 25 t) * v 27 t * (1 + light v (v 22 b)) ≤ 999 * 99 * 595 := Nat.mul_le_mul a1 (by omega)
    refine ⟨vp_in_nI (by omega) (by decide), vp_in_nI (by omega) (by decide), vp_in_nI (by omega) (by decide), vp_in_nI (by omega) (by decide), ?_⟩
    refine m_lightOf hv hN hX hj b22 (fun x hx => ?_)
    rw [nI_l (by omega), nI_l (by omega), show (1 : Int32) + nI (light v (v 22 b)) = nI (1 + light v (v 22 b)) from nI_add 1 _, nI_l (by omega), lN_mul, lN_mul] at hx
    rw [hx, show (100 : Int64) = lN 100 from rfl, pk_lDiv (by omega) (by decide) (by decide), lN_i]
    unfold trouble at h
    rw [if_neg (by omega)] at h
    exact h
  · have hz : v 23 b = 0 := (nI_m1 (by omega)).mp c
    unfold trouble at h
    rw [if_pos hz] at h
    exact h
theorem m_markedOn {v : Rl} (hv : okV v) {j : Nat} {ma : Nat → Nat → Int32} (hN : RelN v j ma) (hj : j < 5) {post : Int32 → Prop} (h : post (nI (nMarked v))) : P_X12_markedOn ma (nI j) post := by
  have h13 := ok13 hv
  obtain ⟨-, -, -, -, e13⟩ := hN.1
  have L : ∀ k i, i + k = v 13 0 → P_X12_markedOn_4 ma (nI j) post (k + 1) (nI (sumN (fun b => v 24 b) i)) (nI i) := by
    intro k
    induction k with
    | zero =>
      intro i hi
      obtain rfl : i = v 13 0 := by omega
      refine ⟨vp_in_nI hj (by decide), ?_⟩
      rw [nI_clamp (by omega), e13]
      exact ⟨fun _ => h, fun c => absurd (nI_le (Nat.le_refl _) (by omega)) c⟩
    | succ k ih =>
      intro i hi
      refine ⟨vp_in_nI hj (by decide), ?_⟩
      rw [nI_clamp (by omega), e13]
      refine ⟨fun c => absurd ((nI_leI (by omega) (by omega)).mp c) (by omega), fun _ => ?_⟩
      show vp_in ((5 : Int32) * ((10 : Int32) * nI j + nI i) + 4) 250 ∧ _
      rw [show (5 : Int32) * ((10 : Int32) * nI j + nI i) + 4 = nI (5 * (10 * j + i) + 4) from ix5 j i 4, nI_clamp (by omega), (hN.2.2.2.1 i (by omega)).2.2.2.2]
      refine ⟨vp_in_nI (by omega) (by decide), fun x hx => ?_⟩
      rw [hx, nI_add, nI_1]
      exact ih (i + 1) (by omega)
  exact ⟨v 13 0 + 1, L (v 13 0) 0 (by omega)⟩
theorem m_gainOf {v : Rl} (hv : okV v) {j : Nat} {ma : Nat → Nat → Int32} (hN : RelN v j ma) (hj : j < 5) {b : Nat} (hb : b < v 13 0) {post : Int32 → Prop} (h : post (nI (gain v b))) : P_X12_gainOf ma (nI j) (nI b) post := by
  have h13 := ok13 hv
  have h6 := ok6 hv
  have h5 := ok5 hv
  obtain ⟨-, e21, -, -, e24⟩ := hN.2.2.2.1 b hb
  obtain ⟨-, b21, -, -, b24⟩ := hv.2.2.2.2.1 b hb
  obtain ⟨-, e5, e6, -⟩ := hN.2.2.2.2
  have hm := nMarked_le hv
  show vp_in ((7 : Int32) * nI j + 1) 35 ∧ _
  rw [show (7 : Int32) * nI j + 1 = nI (7 * j + 1) by simp only [fa_lit, pk_mul, nI_add], show (7 : Int32) * nI j + 2 = nI (7 * j + 2) by simp only [fa_lit, pk_mul, nI_add], nI_clamp (by omega), nI_clamp (by omega), e5, e6]
  refine ⟨vp_in_nI (by omega) (by decide), fun x hx => ?_⟩
  subst hx
  rw [show (5 : Int32) * ((10 : Int32) * nI j + nI b) + 4 = nI (5 * (10 * j + b) + 4) from ix5 j b 4, show (5 : Int32) * ((10 : Int32) * nI j + nI b) + 1 = nI (5 * (10 * j + b) + 1) from ix5 j b 1, nI_clamp (by omega), nI_clamp (by omega), e24, e21]
  refine ⟨vp_in_nI (by omega) (by decide), fun c => ⟨vp_in_nI (by omega) (by decide), fun c2 => ⟨vp_in_nI (by omega) (by decide), ?_⟩, fun c2 => ⟨vp_in_nI (by omega) (by decide), ?_⟩⟩, fun c => ⟨vp_in_nI (by omega) (by decide), vp_in_nI hj (by decide), ?_⟩⟩
  · have z : v 6 0 ≠ 1 := fun q => c (by rw [q]; rfl)
    have z2 : v 24 b ≠ 1 := fun q => c2 (by rw [q]; rfl)
    unfold gain at h
    rw [if_neg z, if_neg z2] at h
    exact h
  · have z : v 6 0 ≠ 1 := fun q => c (by rw [q]; rfl)
    have z2 : v 24 b = 1 := (nI_eq (b := 1) (by omega) (by decide)).mp c2
    unfold gain at h
    rw [if_neg z, if_pos z2] at h
    rw [show (100 : Int32) = nI 100 from rfl, pk_sub h5, pk_mul, pk_div ?_ (by decide) (by decide)]
    · exact h
    · have : v 21 b * (100 - v 5 0) ≤ 9999 * 100 := Nat.mul_le_mul b21 (by omega)
      omega
  · have z : v 6 0 = 1 := (nI_eq (b := 1) (by omega) (by decide)).mp c
    have hk : v 5 0 * nMarked v ≤ 100 * v 13 0 := Nat.mul_le_mul h5 hm
    have hq : v 21 b * (100 * v 13 0 - v 5 0 * nMarked v) ≤ 9999 * 1000 := Nat.mul_le_mul b21 (by omega)
    unfold gain at h
    rw [if_pos z] at h
    refine m_markedOn hv hN hj ⟨vp_in_nI hj (by decide), ?_⟩
    rw [nI_clamp (by omega), hN.1.2.2.2.2, show (100 : Int32) * nI (v 13 0) = nI (100 * v 13 0) from pk_mul 100 _, pk_mul, pk_sub hk, nI_l (by omega), nI_l (by omega), nI_l (by omega), lN_mul, pk_lDiv (by omega) (by omega) (by omega), lN_i, show (0 : Int64) = lN 0 from rfl, lN_eq (by omega) (by decide)]
    exact ⟨by omega, h⟩
end
section
/-! the reference: whom a thief takes -/
theorem RelN.fr {v : Rl} {j : Nat} {ma mb : Nat → Nat → Int32} (h : RelN v j ma) (e : ∀ i, 3 ≤ i → i ≤ 14 → mb i = ma i) : RelN v j mb := by
  unfold RelN at h ⊢
  simp only [e 3 (by decide) (by decide), e 4 (by decide) (by decide), e 5 (by decide) (by decide), e 8 (by decide) (by decide), e 9 (by decide) (by decide), e 10 (by decide) (by decide), e 11 (by decide) (by decide), e 14 (by decide) (by decide)]
  exact h
theorem RelT.fr {v : Rl} {j : Nat} {ma mb : Nat → Nat → Int32} (h : RelT v j ma) (e : ∀ i, 3 ≤ i → i ≤ 14 → mb i = ma i) : RelT v j mb := by
  unfold RelT at h ⊢
  simp only [e 12 (by decide) (by decide), e 13 (by decide) (by decide)]
  exact h
theorem RelP.fr {v : Rl} {j : Nat} {ma mb : Nat → Nat → Int32} (h : RelP v j ma) (e : ∀ i, 3 ≤ i → i ≤ 14 → mb i = ma i) : RelP v j mb := by
  unfold RelP at h ⊢
  simp only [e 6 (by decide) (by decide), e 7 (by decide) (by decide)]
  exact h
theorem LX.fr {v : Rl} {j : Nat} {ms mt : Nat → Int32} {ma mb : Nat → Nat → Int32} (h : LX v j ms ma) (e : ∀ i, 3 ≤ i → i ≤ 14 → mb i = ma i) (e10 : mt 10 = ms 10) (e11 : mt 11 = ms 11) : LX v j mt mb := by
  unfold LX at h ⊢
  simp only [e 6 (by decide) (by decide), e 7 (by decide) (by decide), e10, e11]
  exact h
theorem RM.fr {v : Rl} {j : Nat} {ms mt : Nat → Int32} {ma mb : Nat → Nat → Int32} (h : RM v j ms ma) (e : ∀ i, 3 ≤ i → i ≤ 14 → mb i = ma i) (e10 : mt 10 = ms 10) (e11 : mt 11 = ms 11) : RM v j mt mb := ⟨h.1.fr e, h.2.1.fr e, h.2.2.fr e e10 e11⟩
theorem bit_o {g c : Nat} (hg : g < 2 ^ 31) (hc : c < 32) : ((nI g >>> (nI c &&& 31)) &&& 1) = 1 ↔ g.testBit c = true := by
  rw [pk_shrN hg _ c (sh_c c hc), bit_and1 (Nat.lt_of_le_of_lt (Nat.div_le_self _ _) hg), show (1 : Int32) = nI 1 from rfl, nI_eq (by omega) (by decide), Nat.testBit_eq_decide_div_mod_eq]
  simp
/-- the reference's table of troubles and nets -/
def LR (v : Rl) (s th : Nat) (ms : Nat → Int32) (ma : Nat → Nat → Int32) : Prop := ms 12 = nI th ∧ (th = v 13 0 ∧ s = 0 ∨ th = v 13 0 + 1) ∧ (∀ t, t < v 14 0 → ∀ b, b < v 13 0 → ma 18 (11 * t + b) = nI (trouble v t b) ∧ ma 19 (11 * t + b) = nI (gain v b) - nI (trouble v t b)) ∧ (th = v 13 0 + 1 → ∀ t, t < v 14 0 → ma 18 (11 * t + v 13 0) = 0 ∧ ma 19 (11 * t + v 13 0) = nI s)
/-- the same of one thief -/
def LRt (v : Rl) (s th : Nat) (ms : Nat → Int32) (ma : Nat → Nat → Int32) (t : Nat) : Prop := ms 12 = nI th ∧ (th = v 13 0 ∧ s = 0 ∨ th = v 13 0 + 1) ∧ (∀ b, b < v 13 0 → ma 18 (11 * t + b) = nI (trouble v t b) ∧ ma 19 (11 * t + b) = nI (gain v b) - nI (trouble v t b)) ∧ (th = v 13 0 + 1 → ma 18 (11 * t + v 13 0) = 0 ∧ ma 19 (11 * t + v 13 0) = nI s)
theorem LR.t {v : Rl} {s th : Nat} {ms : Nat → Int32} {ma : Nat → Nat → Int32} (h : LR v s th ms ma) {t : Nat} (ht : t < v 14 0) : LRt v s th ms ma t := ⟨h.1, h.2.1, h.2.2.1 t ht, fun e => h.2.2.2 e t ht⟩
def seI : Option Nat → Int32
  | none => -1
  | some s => nI s
def thO (v : Rl) : Option Nat → Nat
  | none => v 13 0
  | some _ => v 13 0 + 1
def seO : Option Nat → Nat
  | none => 0
  | some s => s
theorem m_lays {v : Rl} (hv : okV v) {ms : Nat → Int32} {ma : Nat → Nat → Int32} (hM : RM v 0 ms ma) (o : Option Nat) (ho : seO o ≤ 9999) {post : (Nat → Int32) → (Nat → Nat → Int32) → Prop}
    (h : ∀ mb : Nat → Nat → Int32, LR v (seO o) (thO v o) (va_up ms 12 (nI (thO v o))) mb → (∀ j, j ≠ 18 → j ≠ 19 → mb j = ma j) → post (va_up ms 12 (nI (thO v o))) mb) : P_X12_lays ms ma (seI o) post := by
  have h13 := ok13 hv
  have h14 := ok14 hv
  have e13 : ma 10 0 = nI (v 13 0) := hM.1.1.2.2.2.2
  have e14 : ma 12 0 = nI (v 14 0) := hM.2.1.1
  have hth : thO v o ≤ 11 := by unfold thO; split <;> omega
  -- the bikes of thief t
  have B : ∀ (t : Nat), t < v 14 0 → ∀ (K : Int32 → (Nat → Nat → Int32) → Prop), (∀ mb : Nat → Nat → Int32, (∀ j, j ≠ 18 → j ≠ 19 → mb j = ma j) → True → K (nI t) mb → True) → ∀ (mc : Nat → Nat → Int32), (∀ j, j ≠ 18 → j ≠ 19 → mc j = ma j) →
      (∀ mb : Nat → Nat → Int32, (∀ j, j ≠ 18 → j ≠ 19 → mb j = ma j) → (∀ x, (x < 11 * t ∨ 11 * t + v 13 0 ≤ x) → mb 18 x = mc 18 x ∧ mb 19 x = mc 19 x) → (∀ b, b < v 13 0 → mb 18 (11 * t + b) = nI (trouble v t b) ∧ mb 19 (11 * t + b) = nI (gain v b) - nI (trouble v t b)) → K (nI t) mb) →
      ∃ n, P_X12_lays_34 (seI o) (va_up ms 12 (nI (thO v o))) post K (nI t) n 0 mc := by
    intro t ht K _ mc hmc kk
    have L : ∀ (k i : Nat) (mb : Nat → Nat → Int32), i + k = v 13 0 → (∀ j, j ≠ 18 → j ≠ 19 → mb j = ma j) → (∀ x, (x < 11 * t ∨ 11 * t + v 13 0 ≤ x) → mb 18 x = mc 18 x ∧ mb 19 x = mc 19 x) → (∀ b, b < i → mb 18 (11 * t + b) = nI (trouble v t b) ∧ mb 19 (11 * t + b) = nI (gain v b) - nI (trouble v t b)) → P_X12_lays_34 (seI o) (va_up ms 12 (nI (thO v o))) post K (nI t) (k + 1) (nI i) mb := by
      intro k
      induction k with
      | zero =>
        intro i mb hi q1 q2 q3
        obtain rfl : i = v 13 0 := by omega
        exact ⟨fun _ => kk mb q1 q2 q3, fun c => absurd ((cmp_le ((congrFun (q1 10 (by decide) (by decide)) 0).trans e13) (by omega) (by omega)).mpr (Nat.le_refl _)) c⟩
      | succ k ih =>
        intro i mb hi q1 q2 q3
        refine ⟨fun c => absurd ((cmp_le ((congrFun (q1 10 (by decide) (by decide)) 0).trans e13) (by omega) (by omega)).mp c) (by omega), fun _ => ?_⟩
        have hM2 : RM v 0 (va_up ms 12 (nI (thO v o))) mb := hM.fr (fun i h3 h4 => q1 i (by omega) (by omega)) (up_ne (by decide)) (up_ne (by decide))
        refine m_troubleOf (j := 0) hv hM2 (by decide) ht (by omega) ?_
        rw [show (11 : Int32) * nI t + nI i = nI (11 * t + i) by simp only [fa_lit, pk_mul, nI_add], nI_clamp (by omega)]
        refine ⟨vp_in_nI (by omega) (by decide), ?_⟩
        refine m_gainOf (j := 0) hv (hM2.1.fr (fun i h3 h4 => up_ne (by omega))) (by decide) (by omega) ⟨vp_in_nI (by omega) (by decide), vp_in_nI (by omega) (by decide), ?_⟩
        rw [nI_1, u_at]
        refine ih (i + 1) _ (by omega) (fun j j1 j2 => by rw [up_ne j2, up_ne j1, q1 j j1 j2]) (fun x hx => ?_) (fun b hb => ?_)
        · rw [up_ne (by decide), up_at, up_at, u_ne (by omega), u_ne (by omega)]
          exact q2 x hx
        · rw [up_ne (by decide), up_at, up_at]
          by_cases e : b = i
          · subst e; rw [u_at, u_at]; exact ⟨rfl, rfl⟩
          · rw [u_ne (by omega), u_ne (by omega)]; exact q3 b (by omega)
    exact ⟨v 13 0 + 1, L (v 13 0) 0 mc (by omega) hmc (fun _ _ => ⟨rfl, rfl⟩) (fun b hb => by omega)⟩
  have T : ∀ (k i : Nat) (mb : Nat → Nat → Int32), i + k = v 14 0 → (∀ j, j ≠ 18 → j ≠ 19 → mb j = ma j) → (∀ t, t < i → ∀ b, b < v 13 0 → mb 18 (11 * t + b) = nI (trouble v t b) ∧ mb 19 (11 * t + b) = nI (gain v b) - nI (trouble v t b)) → (thO v o = v 13 0 + 1 → ∀ t, t < i → mb 18 (11 * t + v 13 0) = 0 ∧ mb 19 (11 * t + v 13 0) = nI (seO o)) → P_X12_lays_22 (seI o) post (va_up ms 12 (nI (thO v o))) (k + 1) (nI i) mb := by
    intro k
    induction k with
    | zero =>
      intro i mb hi q1 q2 q3
      obtain rfl : i = v 14 0 := by omega
      refine ⟨fun _ => h mb ⟨up_at, ?_, q2, q3⟩ q1, fun c => absurd ((cmp_le ((congrFun (q1 12 (by decide) (by decide)) 0).trans e14) (by omega) (by omega)).mpr (Nat.le_refl _)) c⟩
      cases o with
      | none => exact Or.inl ⟨rfl, rfl⟩
      | some s => exact Or.inr rfl
    | succ k ih =>
      intro i mb hi q1 q2 q3
      refine ⟨fun c => absurd ((cmp_le ((congrFun (q1 12 (by decide) (by decide)) 0).trans e14) (by omega) (by omega)).mp c) (by omega), fun _ => ?_⟩
      refine B i (by omega) _ (fun _ _ _ _ => trivial) mb q1 (fun mc r1 r2 r3 => ?_)
      have e13' : mc 10 0 = nI (v 13 0) := (congrFun (r1 10 (by decide) (by decide)) 0).trans e13
      cases o with
      | none =>
        refine ⟨fun c => absurd c (by decide), fun _ => ?_⟩
        rw [nI_1]
        refine ih (i + 1) mc (by omega) r1 (fun t ht b hb => ?_) (fun z => absurd z (by simp [thO]))
        by_cases e : t = i
        · subst e; exact r3 b hb
        · rw [(r2 _ (by omega)).1, (r2 _ (by omega)).2]; exact q2 t (by omega) b hb
      | some s =>
        have hs : s ≤ 9999 := ho
        refine ⟨fun _ => ?_, fun c => absurd (nI_pos' (by omega)) c⟩
        rw [e13', show (11 : Int32) * nI i + nI (v 13 0) = nI (11 * i + v 13 0) by simp only [fa_lit, pk_mul, nI_add], nI_clamp (by omega), nI_1]
        refine ⟨vp_in_nI (by omega) (by decide), vp_in_nI (by omega) (by decide), ?_⟩
        refine ih (i + 1) _ (by omega) (fun j j1 j2 => by rw [up_ne j2, up_ne j1, r1 j j1 j2]) (fun t ht b hb => ?_) (fun z t ht => ?_)
        · rw [up_ne (by decide), up_at, up_at, u_ne (by omega), u_ne (by omega)]
          by_cases e : t = i
          · subst e; exact r3 b hb
          · rw [(r2 _ (by omega)).1, (r2 _ (by omega)).2]; exact q2 t (by omega) b hb
        · rw [up_ne (by decide), up_at, up_at]
          by_cases e : t = i
          · subst e; rw [u_at, u_at]; exact ⟨rfl, rfl⟩
          · rw [u_ne (by omega), u_ne (by omega), (r2 _ (by omega)).1, (r2 _ (by omega)).2]; exact q3 z t (by omega)
  have fin := T (v 14 0) 0 ma (by omega) (fun _ _ _ => rfl) (fun t ht => by omega) (fun _ t ht => by omega)
  cases o with
  | none =>
    refine ⟨fun c => absurd c (by decide), fun _ x hx => ⟨v 14 0 + 1, ?_⟩⟩
    rw [e13, show nI (v 13 0) + 0 = nI (v 13 0) from nI_add _ 0] at hx
    subst hx
    exact fin
  | some s =>
    have hs : s ≤ 9999 := ho
    refine ⟨fun _ x hx => ⟨v 14 0 + 1, ?_⟩, fun c => absurd (nI_pos' (by omega)) c⟩
    rw [e13, nI_1] at hx
    subst hx
    exact fin
/-- a thief who takes just one wants one of the bikes there are -/
def okJ (v : Rl) : Prop := ∀ t, t < v 14 0 → v 29 t ≤ v 13 0
theorem scn_just {v : Rl} {s t g i : Nat} (hk : v 28 t = 2) (hw : wnt v s t i = true) (hg : g.testBit i = false) (h0 : scn v s t g i = none) : ∀ n, i < n → scn v s t g n = some i
  | 0, h => absurd h (Nat.not_lt_zero i)
  | n + 1, h => by
    have hi : i < v 13 0 ∧ v 29 t = i + 1 := by
      unfold wnt at hw
      split at hw
      · rename_i c
        simp [hk] at hw
        exact ⟨c, hw.2⟩
      · simp [hk] at hw
    unfold scn
    by_cases e : n = i
    · subst e
      rw [hw, hg, h0]
      simp
    · have hn : wnt v s t n = false := by
        unfold wnt
        split
        · simp [hk, hi.2]; omega
        · simp [hk]
      rw [hn, scn_just hk hw hg h0 n (by omega)]
      simp
theorem tk_no_bait (v : Rl) (t g : Nat) : tk v 0 t g = scn v 0 t g (v 13 0) := by
  rw [tk_scn, scn]
  have : wnt v 0 t (v 13 0) = false := by unfold wnt; simp
  rw [this]
  simp
theorem i32_le {x y : Int32} {a b : Int} (hx : x.toInt = a) (hy : y.toInt = b) : x ≤ y ↔ a ≤ b := by rw [Int32.le_iff_toInt_le, hx, hy]
theorem i32_lt {x y : Int32} {a b : Int} (hx : x.toInt = a) (hy : y.toInt = b) : x < y ↔ a < b := by rw [Int32.lt_iff_toInt_lt, hx, hy]
def netB (v : Rl) (s t b : Nat) : Int := if b < v 13 0 then net v t b else (s : Int)
def trbB (v : Rl) (t b : Nat) : Int := if b < v 13 0 then (trouble v t b : Int) else 0
theorem rnk_eq (v : Rl) (s t b : Nat) : rnk v s t b = if v 28 t = 0 then -(netB v s t b) else trbB v t b := by
  unfold rnk netB trbB
  split <;> split <;> rfl
theorem LRt.at {v : Rl} (hv : okV v) {s th : Nat} (hs : s ≤ 9999) {ms : Nat → Int32} {ma : Nat → Nat → Int32} {t b : Nat} (h : LRt v s th ms ma t) (ht : t < v 14 0) (hb : b < th) : (ma 18 (11 * t + b)).toInt = trbB v t b ∧ (ma 19 (11 * t + b)).toInt = netB v s t b := by
  obtain ⟨h1, h2, h3, h4⟩ := h
  unfold trbB netB net
  by_cases c : b < v 13 0
  · have hg := gain_le hv c
    have htr := trouble_le hv ht c
    rw [if_pos c, if_pos c, (h3 b c).1, (h3 b c).2, nI_toInt (by omega), nS (by omega) (by omega)]
    exact ⟨rfl, rfl⟩
  · have e : th = v 13 0 + 1 := by omega
    obtain rfl : b = v 13 0 := by omega
    rw [if_neg c, if_neg c, (h4 e).1, (h4 e).2, nI_toInt (by omega)]
    exact ⟨rfl, rfl⟩
theorem LR.at {v : Rl} (hv : okV v) {s th : Nat} (hs : s ≤ 9999) {ms : Nat → Int32} {ma : Nat → Nat → Int32} (h : LR v s th ms ma) {t b : Nat} (ht : t < v 14 0) (hb : b < th) : (ma 18 (11 * t + b)).toInt = trbB v t b ∧ (ma 19 (11 * t + b)).toInt = netB v s t b := (h.t ht).at hv hs ht hb
theorem m_takesOfT {v : Rl} (hv : okV v) (hJ : okJ v) {s th : Nat} (hs : s ≤ 9999) {ms : Nat → Int32} {ma : Nat → Nat → Int32} (hT : RelT v 0 ma) {t g : Nat} (hL : LRt v s th ms ma t) (ht : t < v 14 0) (hg : g < 2 ^ 31) {post : Int32 → Prop} (h : post (oI (tk v s t g))) : P_X12_takesOf ms ma (nI t) (nI g) post := by
  have h13 := ok13 hv
  have h14 := ok14 hv
  have eT := hT.2 t ht
  simp only [Nat.mul_zero, Nat.zero_add] at eT
  obtain ⟨-, -, -, e28, e29⟩ := eT
  obtain ⟨-, -, -, b28, b29⟩ := hv.2.2.2.2.2.1 t ht
  have hLk := hL
  obtain ⟨l1, l2, -⟩ := hL
  have hend : tk v s t g = scn v s t g th := by
    rcases l2 with ⟨a, b⟩ | a
    · rw [b, a]; exact tk_no_bait v t g
    · rw [a]; exact tk_scn v s t g
  have hscn : ∀ k b, scn v s t g k = some b → b < k := by
    intro k b hb
    rw [← pick_scn] at hb
    have hm : b ∈ ordl v s t k := List.mem_of_find?_eq_some hb
    exact (ordl_mem.mp hm).1
  have hw_i : ∀ i, i < th → wnt v s t i = (decide (0 < netB v s t i) && (v 28 t != 2 || v 29 t == i + 1)) := by
    intro i hi
    unfold wnt netB
    by_cases c : i < v 13 0
    · rw [if_pos c, if_pos c]
    · have e : th = v 13 0 + 1 := by omega
      obtain rfl : i = v 13 0 := by omega
      rw [if_neg c, if_neg c]
      have hj := hJ t ht
      have : (v 29 t == v 13 0 + 1) = false := by simp; omega
      simp [this]
  have L : ∀ k i, i + k = th → (v 28 t = 2 → scn v s t g i = none) → P_X12_takesOf_17 ms ma (nI t) (nI g) post (nI (v 28 t)) (k + 1) (oI (scn v s t g i)) (nI i) := by
    intro k
    induction k with
    | zero =>
      intro i hi _
      obtain rfl : i = th := by omega
      refine ⟨fun _ => by rw [← hend]; exact h, fun c => absurd ((cmp_le l1 (by omega) (by omega)).mpr (Nat.le_refl _)) c⟩
    | succ k ih =>
      intro i hi hj2
      have hith : i < th := by omega
      refine ⟨fun c => absurd ((cmp_le l1 (by omega) (by omega)).mp c) (by omega), fun _ x hx => ?_⟩
      rw [show (11 : Int32) * nI t + nI i = nI (11 * t + i) by simp only [fa_lit, pk_mul, nI_add]] at hx
      subst hx
      rw [bit_o hg (by omega), nI_1, nI_clamp (by omega)]
      obtain ⟨a18, a19⟩ := hLk.at hv hs ht hith
      have hstep : scn v s t g (i + 1) = if wnt v s t i && !g.testBit i then (match scn v s t g i with
        | none => some i
        | some b => if rnk v s t i < rnk v s t b then some i else some b) else scn v s t g i := rfl
      have skip : (wnt v s t i && !g.testBit i) = false → P_X12_takesOf_17 ms ma (nI t) (nI g) post (nI (v 28 t)) (k + 1) (oI (scn v s t g i)) (nI (i + 1)) := by
        intro z
        rw [z] at hstep
        simp at hstep
        rw [← hstep]
        exact ih (i + 1) (by omega) (fun q => by rw [hstep]; exact hj2 q)
      refine ⟨fun c => skip (by rw [c]; simp), fun c => ⟨vp_in_nI (by omega) (by decide), ?_⟩⟩
      have hgb : g.testBit i = false := by simpa using c
      rw [i32_lt (x := 0) (a := 0) rfl a19]
      refine ⟨fun cp => ?_, fun cp => skip (by rw [hw_i i hith]; simp [cp])⟩
      rw [show (2 : Int32) = nI 2 from rfl, show (0 : Int32) = nI 0 from rfl, nI_eq (by omega) (by decide), nI_eq (by omega) (by decide)]
      refine ⟨fun ck => ?_, fun ck => ?_⟩
      · have hw : wnt v s t i = true := by rw [hw_i i hith]; simp [cp, ck]
        rw [hw, hgb] at hstep
        simp at hstep
        have go := ih (i + 1) (by omega) (fun q => absurd q ck)
        rw [hstep] at go
        cases hsc : scn v s t g i with
        | none =>
          rw [hsc] at go
          exact ⟨fun _ => go, fun z => absurd rfl z⟩
        | some b =>
          rw [hsc] at go
          have hbi := hscn i b hsc
          obtain ⟨b18, b19⟩ := hLk.at hv hs ht (show b < th by omega)
          refine ⟨fun z => absurd z (nI_nm1 (by omega)), fun _ => ?_⟩
          show ((¬ v 28 t = 0) → vp_in (nI (11 * t + i)) 66 ∧ (vp_in ((11 * nI t) + nI b) 66 ∧ _)) ∧ _
          rw [show oI (some b) = nI b from rfl, show (11 : Int32) * nI t + nI b = nI (11 * t + b) by simp only [fa_lit, pk_mul, nI_add], nI_clamp (by omega)]
          rw [i32_le b18 a18, i32_le a19 b19]
          simp only [rnk_eq] at go
          refine ⟨fun c0 => ⟨vp_in_nI (by omega) (by decide), vp_in_nI (by omega) (by decide), fun c1 => ?_, fun c1 => ?_⟩, fun c0 => ⟨vp_in_nI (by omega) (by decide), vp_in_nI (by omega) (by decide), fun c1 => ?_, fun c1 => ?_⟩⟩
          · simp only [c0, if_false] at go
            rw [if_neg (by omega)] at go
            exact go
          · simp only [c0, if_false] at go
            rw [if_pos (by omega)] at go
            exact go
          · simp only [c0, if_true] at go
            rw [if_neg (by omega)] at go
            rw [c0]; exact go
          · simp only [c0, if_true] at go
            rw [if_pos (by omega)] at go
            rw [c0]; exact go
      · have hnone := hj2 ck
        rw [show (5 : Int32) * nI t + 4 = nI (5 * t + 4) by simp only [fa_lit, pk_mul, nI_add], nI_clamp (by omega), e29]
        have hjx : nI i = nI (v 29 t) - 1 ↔ v 29 t = i + 1 := by
          rw [← Int32.toInt_inj, show (1 : Int32) = nI 1 from rfl, nS (by omega) (by decide), nI_toInt (by omega)]
          omega
        rw [hjx]
        refine ⟨vp_in_nI (by omega) (by decide), fun cj => skip ?_, fun cj => ?_⟩
        · rw [hw_i i hith]; simp [ck, cj]
        · have hw : wnt v s t i = true := by rw [hw_i i hith]; simp [cp, cj]
          have := scn_just ck hw hgb hnone th hith
          rw [hend, this] at h
          exact h
  unfold P_X12_takesOf
  rw [show (5 : Int32) * nI t + 3 = nI (5 * t + 3) by simp only [fa_lit, pk_mul, nI_add], nI_clamp (by omega), e28]
  refine ⟨vp_in_nI (by omega) (by decide), fun x hx => ⟨th + 1, ?_⟩⟩
  subst hx
  exact L th 0 (by omega) (fun _ => rfl)
theorem m_takesOf {v : Rl} (hv : okV v) (hJ : okJ v) {s th : Nat} (hs : s ≤ 9999) {ms : Nat → Int32} {ma : Nat → Nat → Int32} (hT : RelT v 0 ma) (hL : LR v s th ms ma) {t g : Nat} (ht : t < v 14 0) (hg : g < 2 ^ 31) {post : Int32 → Prop} (h : post (oI (tk v s t g))) : P_X12_takesOf ms ma (nI t) (nI g) post := m_takesOfT hv hJ hs hT (hL.t ht) ht hg h
/-! how many a thief wants -/
def wantN (v : Rl) (t : Nat) : Nat := sumN (fun b => if 0 < net v t b then 1 else 0) (v 13 0)
theorem m_wantsOf {v : Rl} (hv : okV v) {s th : Nat} (hs : s ≤ 9999) {ms : Nat → Int32} {ma : Nat → Nat → Int32} (hN : RelN v 0 ma) (hL : LR v s th ms ma) {t : Nat} (ht : t < v 14 0) {post : Int32 → Prop} (h : post (nI (wantN v t))) : P_X12_wantsOf ma (nI t) post := by
  have h13 := ok13 hv
  have h14 := ok14 hv
  have e13 : ma 10 0 = nI (v 13 0) := hN.1.2.2.2.2
  have hth : v 13 0 ≤ th := by rcases hL.2.1 with a | a <;> omega
  have L : ∀ k i, i + k = v 13 0 → P_X12_wantsOf_4 ma (nI t) post (k + 1) (nI (sumN (fun b => if 0 < net v t b then 1 else 0) i)) (nI i) := by
    intro k
    induction k with
    | zero =>
      intro i hi
      obtain rfl : i = v 13 0 := by omega
      exact ⟨fun _ => h, fun c => absurd ((cmp_le e13 (by omega) (by omega)).mpr (Nat.le_refl _)) c⟩
    | succ k ih =>
      intro i hi
      refine ⟨fun c => absurd ((cmp_le e13 (by omega) (by omega)).mp c) (by omega), fun _ => ?_⟩
      rw [show (11 : Int32) * nI t + nI i = nI (11 * t + i) by simp only [fa_lit, pk_mul, nI_add], nI_clamp (by omega)]
      obtain ⟨-, a19⟩ := hL.at hv hs ht (show i < th by omega)
      rw [i32_le (y := 0) (b := 0) a19 rfl, nI_1]
      unfold netB
      rw [if_pos (by omega)]
      have := ih (i + 1) (by omega)
      rw [sumN] at this
      refine ⟨vp_in_nI (by omega) (by decide), fun c x hx => ?_, fun c x hx => ?_⟩
      · rw [if_neg (by omega)] at this
        rw [show (0 : Int32) = nI 0 from rfl, nI_add] at hx
        rw [hx]; exact this
      · rw [if_pos (by omega)] at this
        rw [nI_1] at hx
        rw [hx]; exact this
  exact ⟨v 13 0 + 1, L (v 13 0) 0 (by omega)⟩
theorem c_netOf {v : Rl} {rs : Nat → Int32} {ra : Nat → Nat → Int32} (hR : RelC v rs ra) (hv : okV v) {s : Nat} {ns : Nat → Int32} {na : Nat → Nat → Int32} (hN : NR v s ns na) {t b : Nat} (ht : t < v 14 0) (hb : b < v 13 0) {post : Int32 → Prop} (h : post (nI (gain v b) - nI (trouble v t b))) : P_X3_netOf na ra (nI t) (nI b) post := by
  have h13 := ok13 hv
  unfold P_X3_netOf
  rw [nI_clamp (by omega), (hN.2.1 b hb).1, (hN.2.1 b hb).2]
  exact ⟨vp_in_nI (by omega) (by decide), vp_in_nI (by omega) (by decide), c_troubleOf hR hv ht hb rfl h⟩
theorem net_int {v : Rl} (hv : okV v) {t b : Nat} (ht : t < v 14 0) (hb : b < v 13 0) : (nI (gain v b) - nI (trouble v t b)).toInt = net v t b := by
  have hg := gain_le hv hb
  have htr := trouble_le hv ht hb
  rw [nS (by omega) (by omega)]
  rfl
theorem c_wantedBy {v : Rl} {rs : Nat → Int32} {ra : Nat → Nat → Int32} (hR : RelC v rs ra) (hv : okV v) {s : Nat} {ns : Nat → Int32} {na : Nat → Nat → Int32} (hN : NR v s ns na) {t : Nat} (ht : t < v 14 0) {post : Int32 → Prop} (h : post (nI (wantN v t))) : P_X3_wantedBy na rs ra (nI t) post := by
  have h13 := ok13 hv
  have e13 := rc_s hR 13
  have L : ∀ k i, i + k = v 13 0 → P_X3_wantedBy_5 na rs ra (nI t) post (k + 1) (nI (sumN (fun b => if 0 < net v t b then 1 else 0) i)) (nI i) := by
    intro k
    induction k with
    | zero =>
      intro i hi
      obtain rfl : i = v 13 0 := by omega
      exact ⟨fun _ => h, fun c => absurd ((cmp_le e13 (by omega) (by omega)).mpr (Nat.le_refl _)) c⟩
    | succ k ih =>
      intro i hi
      refine ⟨fun c => absurd ((cmp_le e13 (by omega) (by omega)).mp c) (by omega), fun _ => ?_⟩
      refine c_netOf hR hv hN ht (by omega) ?_
      rw [i32_le (y := 0) (b := 0) (net_int hv ht (by omega)) rfl, nI_1]
      have := ih (i + 1) (by omega)
      rw [sumN] at this
      refine ⟨fun c => ?_, fun c => ?_⟩
      · rw [if_neg (by omega)] at this
        exact this
      · rw [if_pos (by omega)] at this
        rw [nI_1]
        exact this
  exact ⟨v 13 0 + 1, L (v 13 0) 0 (by omega)⟩
end
section
/-! sums over states: what a step keeps -/
theorem sumL_ext {f : Nat → Int64} {n : Nat} : ∀ {m : Nat}, n ≤ m → (∀ k, n ≤ k → k < m → f k = 0) → sumL f m = sumL f n
  | 0, h, _ => by rw [show n = 0 by omega]
  | m + 1, h, hz => by
    by_cases e : n = m + 1
    · rw [e]
    · rw [sumL, sumL_ext (m := m) (by omega) (fun k h1 h2 => hz k h1 (by omega)), hz m (by omega) (by omega)]
      simp
theorem sumL_swap (f : Nat → Nat → Int64) (n : Nat) : ∀ m : Nat, sumL (fun x => sumL (fun q => f q x) n) m = sumL (fun q => sumL (fun x => f q x) m) n
  | 0 => by
    rw [sumL]
    exact (sumL_zero (fun k _ => rfl)).symm
  | m + 1 => by
    rw [sumL, sumL_swap f n m, ← sumL_add]
    rfl
theorem sumL_neg (f : Nat → Int64) : ∀ n : Nat, sumL (fun k => -(f k)) n = -(sumL f n)
  | 0 => by simp [sumL]
  | n + 1 => by rw [sumL, sumL, sumL_neg f n]; grind
theorem sumL_if (c : Prop) [Decidable c] (f : Nat → Int64) (n : Nat) : sumL (fun k => if c then f k else 0) n = if c then sumL f n else 0 := by
  split
  · rfl
  · exact sumL_zero (fun _ _ => rfl)
/-- a list of changes, weighed -/
def evw (w : Nat → Int64) : List (Nat × Int64) → Int64
  | [] => 0
  | a :: L => w a.1 * a.2 + evw w L
theorem evl_w (w : Nat → Int64) {n : Nat} : ∀ {L : List (Nat × Int64)}, (∀ a, a ∈ L → a.1 < n) → sumL (fun x => w x * evl L x) n = evw w L
  | [], _ => sumL_zero (fun k _ => by simp [evl])
  | a :: L, h => by
    have e : ∀ x, w x * evl (a :: L) x = w x * (if x = a.1 then a.2 else 0) + w x * evl L x := fun x => by rw [evl]; grind
    simp only [e]
    rw [sumL_add, evl_w w (L := L) (fun b hb => h b (List.mem_cons_of_mem _ hb)), sumL_one (i := a.1) (h a List.mem_cons_self) (fun k _ hne => by simp [hne])]
    simp [evw]
theorem chg_lt {v : Rl} (h13 : v 13 0 ≤ 10) {s ct t q : Nat} (ht : t < 6) (hq : q < 131072) {p : Int64} : ∀ a, a ∈ chg v s ct t q p → a.1 < 131072 := by
  intro a ha
  unfold chg at ha
  split at ha
  · simp at ha
  · rename_i b hb
    have hb2 := (who_some hb).2.1
    have h1 := or_lt17 (b := b) hq (by omega)
    have h2 := or_lt17 (b := 11 + t) h1 (by omega)
    split at ha
    · simp only [List.mem_cons, List.not_mem_nil, or_false] at ha
      rcases ha with rfl | rfl | rfl <;> assumption
    · simp only [List.mem_cons, List.not_mem_nil, or_false] at ha
      rcases ha with rfl | rfl <;> assumption
/-- the weighed sum of all states behind a step -/
theorem stp_w {v : Rl} (h13 : v 13 0 ≤ 10) {s ct t : Nat} (ht : t < 6) (D : Nat → Int64) (w : Nat → Int64) : sumL (fun x => w x * stp v s ct t D x) N17 = sumL (fun x => w x * D x) N17 + sumL (fun q => evw w (chg v s ct t q (D q))) N17 := by
  unfold stp
  have e : ∀ x, w x * (D x + sumL (fun q => evl (chg v s ct t q (D q)) x) N17) = w x * D x + sumL (fun q => w x * evl (chg v s ct t q (D q)) x) N17 := fun x => by rw [sumL_mul]; grind
  simp only [e]
  rw [sumL_add, sumL_swap (fun q x => w x * evl (chg v s ct t q (D q)) x)]
  exact congrArg (fun z => sumL (fun x => w x * D x) N17 + z) (sumL_cong (fun q hq => evl_w w (chg_lt h13 ht hq)))
def bitW (b : Nat) : Nat → Int64 := fun x => if x.testBit b then 1 else 0
theorem evw_bit {v : Rl} (h13 : v 13 0 ≤ 10) {s ct t q b : Nat} (hb : b < v 13 0) (p : Int64) : evw (bitW b) (chg v s ct t q p) = if who v s t q = some b then cmP v t p else 0 := by
  unfold chg
  cases hw : who v s t q with
  | none => simp [evw]
  | some b' =>
    obtain ⟨w1, w2, w3, w4⟩ := who_some hw
    rw [tb_mod (by omega)] at w4
    have e1 : ∀ c, b ≠ c → ∀ r, bitW b (r ||| 2 ^ c) = bitW b r := fun c hc r => by
      unfold bitW
      rw [tb_or, show decide (c = b) = false by simp; omega, Bool.or_false]
    simp only
    by_cases hbt : b' = v 13 0
    · rw [if_pos hbt, if_neg (by simp; omega)]
      simp only [evw]
      rw [e1 _ (by omega), e1 _ (by omega)]
      grind
    · rw [if_neg hbt]
      simp only [evw]
      by_cases e : b' = b
      · subst e
        have a1 : bitW b' q = 0 := by unfold bitW; rw [w4]; simp
        have a2 : bitW b' (q ||| 2 ^ b') = 1 := by unfold bitW; rw [tb_or]; simp
        rw [a1, a2, if_pos rfl]
        grind
      · rw [e1 _ (fun z => e z.symm), if_neg (by simp; omega)]
        grind
theorem stp_bit {v : Rl} (h13 : v 13 0 ≤ 10) {s ct t : Nat} (ht : t < 6) (D : Nat → Int64) {b : Nat} (hb : b < v 13 0) : sumL (fun x => bitW b x * stp v s ct t D x) N17 = sumL (fun x => bitW b x * D x) N17 + hst v s t D b := by
  rw [stp_w h13 ht]
  exact congrArg (fun z => sumL (fun x => bitW b x * D x) N17 + z) (sumL_cong (fun q _ => evw_bit h13 hb (D q)))
theorem nD_bit {v : Rl} (h13 : v 13 0 ≤ 10) (h14 : v 14 0 ≤ 6) {s ct : Nat} (D : Nat → Int64) {b : Nat} (hb : b < v 13 0) : ∀ t, t ≤ 6 → sumL (fun x => bitW b x * nD v s ct D t x) N17 = sumL (fun x => bitW b x * D x) N17 + sumL (fun t => hst v s t (nD v s ct D t) b) t
  | 0, _ => by rw [nD, show sumL (fun t => hst v s t (nD v s ct D t) b) 0 = 0 from rfl, Int64.add_zero]
  | t + 1, ht => by
    rw [nD, stp_bit h13 (by omega) _ hb, nD_bit h13 h14 D hb t (by omega), Int64.add_assoc]
    rfl
theorem D1_bit (b : Nat) : sumL (fun x => bitW b x * D1 x) N17 = 0 := sumL_zero (fun k _ => by
  unfold bitW D1
  by_cases e : k = 0
  · subst e; simp
  · simp [e])
theorem risk_eq {v : Rl} (h13 : v 13 0 ≤ 10) (h14 : v 14 0 ≤ 6) {b : Nat} (hb : b < v 13 0) : sumL (fun x => bitW b x * nD v 0 0 D1 (v 14 0) x) N17 = risk v b := by
  rw [nD_bit h13 h14 D1 hb _ h14, D1_bit]
  unfold risk
  rw [sumL_ext (n := v 14 0) (m := 6) h14 (fun k h1 _ => by unfold hadN; rw [if_neg (by omega)])]
  rw [Int64.zero_add]
  exact sumL_cong (fun t ht => by unfold hadN; rw [if_pos ⟨ht, hb⟩])
/-! without a bait no other state than the sets of bikes -/
theorem wnt_no_bait {v : Rl} {t : Nat} : wnt v 0 t (v 13 0) = false := by unfold wnt; simp
theorem who0_lt {v : Rl} {t q b : Nat} (h : who v 0 t q = some b) : b < v 13 0 := by
  obtain ⟨-, w2, w3, -⟩ := who_some h
  rcases Nat.lt_or_ge b (v 13 0) with c | c
  · exact c
  · obtain rfl : b = v 13 0 := by omega
    rw [wnt_no_bait] at w3
    exact absurd w3 (by simp)
theorem or_ltN {q b n : Nat} (hq : q < 2 ^ n) (hb : b < n) : q ||| 2 ^ b < 2 ^ n := Nat.or_lt_two_pow hq (Nat.pow_lt_pow_right (by decide) hb)
theorem evl_out {v : Rl} {t q x : Nat} {p : Int64} (hq : q < 2 ^ v 13 0) (hx : 2 ^ v 13 0 ≤ x) : evl (chg v 0 0 t q p) x = 0 := by
  unfold chg
  split
  · rfl
  · rename_i b hb
    have hlt := who0_lt hb
    have := or_ltN hq hlt
    rw [if_neg (by omega)]
    simp only [evl]
    rw [if_neg (by omega), if_neg (by omega)]
    simp
theorem nD_out {v : Rl} (h13 : v 13 0 ≤ 10) {x : Nat} (hx : 2 ^ v 13 0 ≤ x) : ∀ t, nD v 0 0 D1 t x = 0
  | 0 => by
    have : 0 < 2 ^ v 13 0 := Nat.two_pow_pos _
    unfold nD D1
    rw [if_neg (by omega)]
  | t + 1 => by
    rw [nD]
    unfold stp
    rw [nD_out h13 hx t, sumL_zero (fun q _ => ?_)]
    · rfl
    · rcases Nat.lt_or_ge q (2 ^ v 13 0) with c | c
      · exact evl_out c hx
      · rw [nD_out h13 c t, chg_0]
theorem pow13 {v : Rl} (h13 : v 13 0 ≤ 10) : 2 ^ v 13 0 ≤ 1024 := Nat.pow_le_pow_right (by decide) h13 (n := 2)
theorem who_small {v : Rl} {s t q : Nat} (hq : q < 2048) : who v s t q = tk v s t q := by
  unfold who
  have : q.testBit (11 + t) = false := Nat.testBit_lt_two_pow (Nat.lt_of_lt_of_le hq (Nat.pow_le_pow_right (n := 2) (by decide) (by omega : 11 ≤ 11 + t)))
  rw [this, Nat.mod_eq_of_lt hq]
  simp
theorem chg_c0 {v : Rl} {s ct t q : Nat} {p : Int64} (h : cmP v t p = 0) (x : Nat) : evl (chg v s ct t q p) x = 0 := by
  unfold chg
  rw [h, ctP_0]
  split
  · rfl
  · split <;> simp [evl]
end
section
/-! the reference: a night -/
theorem m_night {v : Rl} (hv : okV v) (hJ : okJ v) {ms : Nat → Int32} {ma : Nat → Nat → Int32} {ml : Nat → Nat → Int64} (hM : RM v 0 ms ma) {post : (Nat → Int32) → (Nat → Nat → Int32) → (Nat → Nat → Int64) → Prop}
    (h : ∀ (mb : Nat → Nat → Int32) (mk : Nat → Nat → Int64), (∀ j, j ≠ 18 → j ≠ 19 → mb j = ma j) → (∀ j, j ≠ 2 → j ≠ 3 → j ≠ 4 → mk j = ml j) → (∀ x, x < 2 ^ v 13 0 → mk 2 x = nD v 0 0 D1 (v 14 0) x) → (∀ t b, t < 6 → b < 10 → mk 4 (10 * t + b) = hadN v t b) → post (va_up ms 12 (nI (v 13 0))) mb mk) : P_X12_night ms ma ml post := by
  have h13 := ok13 hv
  have h14 := ok14 hv
  have hn := pow13 h13
  have hn0 : 0 < 2 ^ v 13 0 := Nat.two_pow_pos _
  refine m_lays hv hM none (by decide) (fun mb hL hb => ?_)
  have hM2 : RM v 0 (va_up ms 12 (nI (v 13 0))) mb := hM.fr (fun i h3 h4 => hb i (by omega) (by omega)) (up_ne (by decide)) (up_ne (by decide))
  have e13 : mb 10 0 = nI (v 13 0) := hM2.1.1.2.2.2.2
  have e14 : mb 12 0 = nI (v 14 0) := hM2.2.1.1
  intro x12 hx12
  rw [e13, sh1 (by omega)] at hx12
  subst hx12
  -- a thief: who comes, state by state
  have S : ∀ (t : Nat), t < v 14 0 → ∀ (R67 : Int32 → (Nat → Nat → Int64) → Prop) (lc : Nat → Nat → Int64), (∀ x, x < 2 ^ v 13 0 → lc 2 x = nD v 0 0 D1 t x) → (∀ x, x < 2 ^ v 13 0 → lc 3 x = cmP v t (nD v 0 0 D1 t x)) →
      (∀ ld : Nat → Nat → Int64, (∀ x, x < 2 ^ v 13 0 → ld 2 x = nD v 0 0 D1 (t + 1) x) → (∀ b, b < v 13 0 → ld 4 (10 * t + b) = lc 4 (10 * t + b) + hst v 0 t (nD v 0 0 D1 t) b) → (∀ x, (x < 10 * t ∨ 10 * t + v 13 0 ≤ x) → ld 4 x = lc 4 x) → (∀ j, j ≠ 2 → j ≠ 4 → ld j = lc j) → R67 (nI (t + 1)) ld) →
      ∃ n, P_X12_night_120 (nI (2 ^ v 13 0)) (va_up ms 12 (nI (v 13 0))) mb post R67 (nI t) n 0 lc := by
    intro t ht R67 lc hc2 hc3 kk
    have L : ∀ (k i : Nat) (ld : Nat → Nat → Int64), i + k = 2 ^ v 13 0 → (∀ x, x < 2 ^ v 13 0 → ld 2 x = nD v 0 0 D1 t x + sumL (fun q => evl (chg v 0 0 t q (nD v 0 0 D1 t q)) x) i) → (∀ b, b < v 13 0 → ld 4 (10 * t + b) = lc 4 (10 * t + b) + sumL (fun q => if who v 0 t q = some b then cmP v t (nD v 0 0 D1 t q) else 0) i) → (∀ x, (x < 10 * t ∨ 10 * t + v 13 0 ≤ x) → ld 4 x = lc 4 x) → (∀ j, j ≠ 2 → j ≠ 4 → ld j = lc j) →
        P_X12_night_120 (nI (2 ^ v 13 0)) (va_up ms 12 (nI (v 13 0))) mb post R67 (nI t) (k + 1) (nI i) ld := by
      intro k
      induction k with
      | zero =>
        intro i ld hi q1 q2 q3 q4
        obtain rfl : i = 2 ^ v 13 0 := by omega
        refine ⟨fun _ => ?_, fun c => absurd (nI_le (Nat.le_refl _) (by omega)) c⟩
        rw [nI_1]
        have hN : 2 ^ v 13 0 ≤ N17 := by unfold N17; omega
        refine kk ld (fun x hx => ?_) (fun b hb => ?_) q3 q4
        · rw [q1 x hx, nD]
          unfold stp
          rw [sumL_ext hN (fun q h1 _ => by rw [nD_out h13 h1 t, chg_0])]
        · rw [q2 b hb]
          unfold hst
          rw [sumL_ext hN (fun q h1 _ => by rw [nD_out h13 h1 t, cmP_0]; simp)]
      | succ k ih =>
        intro i ld hi q1 q2 q3 q4
        have hin : i < 2 ^ v 13 0 := by omega
        have e3 : ld 3 i = cmP v t (nD v 0 0 D1 t i) := by rw [q4 3 (by decide) (by decide)]; exact hc3 i hin
        refine ⟨fun c => absurd ((nI_leI (by omega) (by omega)).mp c) (by omega), fun _ => ⟨vp_in_nI (by omega) (by decide), ?_⟩⟩
        rw [nI_clamp (by omega), e3, nI_1]
        have skip : (∀ x, evl (chg v 0 0 t i (nD v 0 0 D1 t i)) x = 0) → (∀ b, b < v 13 0 → (if who v 0 t i = some b then cmP v t (nD v 0 0 D1 t i) else 0) = 0) → P_X12_night_120 (nI (2 ^ v 13 0)) (va_up ms 12 (nI (v 13 0))) mb post R67 (nI t) (k + 1) (nI (i + 1)) ld := by
          intro z1 z2
          refine ih (i + 1) ld (by omega) (fun x hx => ?_) (fun b hb => ?_) q3 q4
          · rw [q1 x hx, sumL, z1 x, Int64.add_zero]
          · rw [q2 b hb, sumL, z2 b hb, Int64.add_zero]
        refine ⟨fun c => ?_, fun c => skip (chg_c0 c) (fun b hb => by rw [c]; simp)⟩
        refine m_takesOf (s := 0) hv hJ (by decide) hM2.2.1 hL ht (by omega) ?_
        rw [← who_small (s := 0) (v := v) (t := t) (q := i) (by omega)]
        cases hw : who v 0 t i with
        | none =>
          refine ⟨fun z => absurd rfl z, fun _ => skip (fun x => ?_) (fun b hb => by rw [hw]; simp)⟩
          unfold chg
          rw [hw]
          rfl
        | some b =>
          have hlt := who0_lt hw
          obtain ⟨-, -, -, w4⟩ := who_some hw
          rw [tb_mod (by omega)] at w4
          have hor := or_ltN hin hlt
          have hne : i ||| 2 ^ b ≠ i := by
            intro e
            have : (i ||| 2 ^ b).testBit b = i.testBit b := by rw [e]
            rw [tb_or, w4] at this
            simp at this
          refine ⟨fun _ => ?_, fun z => absurd z (nI_nm1 (by omega))⟩
          rw [show oI (some b) = nI b from rfl, sh1 (by omega), fa_or, show (10 : Int32) * nI t + nI b = nI (10 * t + b) by simp only [fa_lit, pk_mul, nI_add], nI_clamp (by omega), nI_clamp (by omega)]
          refine ⟨vp_in_nI (by omega) (by decide), vp_in_nI (by omega) (by decide), vp_in_nI (by omega) (by decide), vp_in_nI (by omega) (by decide), vp_in_nI (by omega) (by decide), vp_in_nI (by omega) (by decide), vp_in_nI (by omega) (by decide), vp_in_nI (by omega) (by decide), vp_in_nI (by omega) (by decide), ?_⟩
          refine ih (i + 1) _ (by omega) (fun x hx => ?_) (fun b' hb' => ?_) (fun x hx => ?_) (fun j j2 j4 => by rw [up_ne j4, up_ne j2]; exact q4 j j2 j4)
          · have ev : evl (chg v 0 0 t i (nD v 0 0 D1 t i)) x = (if x = i then -(cmP v t (nD v 0 0 D1 t i)) else 0) + (if x = i ||| 2 ^ b then cmP v t (nD v 0 0 D1 t i) else 0) := by
              unfold chg
              rw [hw]
              simp only
              rw [if_neg (by omega)]
              simp [evl]
            rw [up_ne (by decide), up_at, sumL, ev]
            have q1x := q1 x hx
            by_cases c1 : x = i ||| 2 ^ b
            · rw [c1, uL_at, uL_ne hne, if_neg hne, if_pos rfl]
              rw [c1] at q1x
              rw [q1x]
              grind
            · rw [uL_ne c1, if_neg c1]
              by_cases c2 : x = i
              · rw [c2, uL_at, if_pos rfl]
                rw [c2] at q1x
                rw [q1x]
                grind
              · rw [uL_ne c2, if_neg c2, q1x]
                grind
          · rw [up_at, sumL, hw]
            by_cases e : b' = b
            · subst e
              rw [uL_at, if_pos rfl, q2 b' hb', Int64.add_assoc]
            · rw [uL_ne (by omega), if_neg (by simp; omega), q2 b' hb', Int64.add_zero]
          · rw [up_at, uL_ne (by omega), q3 x hx]
    exact ⟨2 ^ v 13 0 + 1, L (2 ^ v 13 0) 0 lc (by omega) (fun x hx => by rw [hc2 x hx]; simp [sumL]) (fun b hb => by simp [sumL]) (fun _ _ => rfl) (fun _ _ _ => rfl)⟩
  -- a thief: the parts with him come
  have C : ∀ (t : Nat), t < v 14 0 → ∀ (K120 : Int32 → Int32 → (Nat → Nat → Int64) → Prop) (lc : Nat → Nat → Int64), (∀ x, x < 2 ^ v 13 0 → lc 2 x = nD v 0 0 D1 t x) →
      (∀ ld : Nat → Nat → Int64, (∀ x, x < 2 ^ v 13 0 → ld 3 x = cmP v t (nD v 0 0 D1 t x)) → (∀ j, j ≠ 3 → ld j = lc j) → K120 (nI t) 0 ld) →
      ∃ n, P_X12_night_79 (nI (2 ^ v 13 0)) (va_up ms 12 (nI (v 13 0))) mb post K120 (nI t) n 0 lc := by
    intro t ht K120 lc hc2 kk
    have hcm : v 26 t ≤ 100 := (hv.2.2.2.2.2.1 t ht).2.1
    have eT := hM2.2.1.2 t ht
    simp only [Nat.mul_zero, Nat.zero_add] at eT
    have L : ∀ (k i : Nat) (ld : Nat → Nat → Int64), i + k = 2 ^ v 13 0 → (∀ x, x < i → ld 3 x = cmP v t (nD v 0 0 D1 t x)) → (∀ j, j ≠ 3 → ld j = lc j) → P_X12_night_79 (nI (2 ^ v 13 0)) (va_up ms 12 (nI (v 13 0))) mb post K120 (nI t) (k + 1) (nI i) ld := by
      intro k
      induction k with
      | zero =>
        intro i ld hi q1 q2
        obtain rfl : i = 2 ^ v 13 0 := by omega
        exact ⟨fun _ => kk ld q1 q2, fun c => absurd (nI_le (Nat.le_refl _) (by omega)) c⟩
      | succ k ih =>
        intro i ld hi q1 q2
        refine ⟨fun c => absurd ((nI_leI (by omega) (by omega)).mp c) (by omega), fun _ => ⟨vp_in_nI (by omega) (by decide), ?_⟩⟩
        rw [show (5 : Int32) * nI t + 1 = nI (5 * t + 1) by simp only [fa_lit, pk_mul, nI_add], nI_clamp (by omega), nI_clamp (by omega), eT.2.1, nI_l (by omega), nI_1, q2 2 (by decide), hc2 i (by omega)]
        refine ⟨vp_in_nI (by omega) (by decide), vp_in_nI (by omega) (by decide), ?_⟩
        refine ih (i + 1) _ (by omega) (fun x hx => ?_) (fun j hj => by rw [up_ne hj, q2 j hj])
        rw [up_at]
        by_cases e : x = i
        · rw [e, uL_at]; rfl
        · rw [uL_ne e, q1 x (by omega)]
    exact ⟨2 ^ v 13 0 + 1, L (2 ^ v 13 0) 0 lc (by omega) (fun x hx => by omega) (fun _ _ => rfl)⟩
  have T : ∀ (k i : Nat) (ld : Nat → Nat → Int64), i + k = v 14 0 → (∀ x, x < 2 ^ v 13 0 → ld 2 x = nD v 0 0 D1 i x) → (∀ t b, t < 6 → b < 10 → ld 4 (10 * t + b) = if t < i then hadN v t b else 0) → (∀ j, j ≠ 2 → j ≠ 3 → j ≠ 4 → ld j = ml j) → P_X12_night_67 post (nI (2 ^ v 13 0)) (va_up ms 12 (nI (v 13 0))) mb (k + 1) (nI i) ld := by
    intro k
    induction k with
    | zero =>
      intro i ld hi q1 q2 q3
      obtain rfl : i = v 14 0 := by omega
      refine ⟨fun _ => h mb ld hb q3 q1 (fun t b ht hb => ?_), fun c => absurd ((cmp_le e14 (by omega) (by omega)).mpr (Nat.le_refl _)) c⟩
      rw [q2 t b ht hb]
      split
      · rfl
      · unfold hadN; rw [if_neg (by omega)]
    | succ k ih =>
      intro i ld hi q1 q2 q3
      refine ⟨fun c => absurd ((cmp_le e14 (by omega) (by omega)).mp c) (by omega), fun _ => ?_⟩
      refine C i (by omega) _ ld q1 (fun le r1 r2 => ?_)
      refine S i (by omega) _ le (fun x hx => by rw [r2 2 (by decide)]; exact q1 x hx) r1 (fun lf p1 p2 p3 p4 => ?_)
      refine ih (i + 1) lf (by omega) p1 (fun t b ht hb => ?_) (fun j j2 j3 j4 => by rw [p4 j j2 j4, r2 j j3, q3 j j2 j3 j4])
      rw [r2 4 (by decide)] at p2 p3
      by_cases e : t = i
      · subst e
        rw [if_pos (by omega)]
        by_cases hbb : b < v 13 0
        · rw [p2 b hbb, q2 t b ht hb, if_neg (by omega), Int64.zero_add]
          unfold hadN
          rw [if_pos ⟨by omega, hbb⟩]
        · rw [p3 _ (by omega), q2 t b ht hb, if_neg (by omega)]
          unfold hadN
          rw [if_neg (by omega)]
      · rw [p3 _ (by omega), q2 t b ht hb]
        by_cases c : t < i
        · rw [if_pos c, if_pos (by omega)]
        · rw [if_neg c, if_neg (by omega)]
  have Z : ∀ (k i : Nat) (ld : Nat → Nat → Int64), i + k = 60 → (∀ x, x < 2 ^ v 13 0 → ld 2 x = D1 x) → (∀ x, x < i → ld 4 x = 0) → (∀ j, j ≠ 2 → j ≠ 3 → j ≠ 4 → ld j = ml j) → P_X12_night_46 post (fun (x1_ : Int32) (ms : Nat → Int32) (ma : Nat → Nat → Int32) (x2_ : Int32) (ml : Nat → Nat → Int64) => (∃ n : Nat, P_X12_night_67 post x1_ ms ma n x2_ ml)) (nI (2 ^ v 13 0)) (va_up ms 12 (nI (v 13 0))) mb (k + 1) (nI i) ld := by
    intro k
    induction k with
    | zero =>
      intro i ld hi q1 q2 q3
      obtain rfl : i = 60 := by omega
      refine ⟨fun _ => ⟨v 14 0 + 1, T (v 14 0) 0 ld (by omega) q1 (fun t b ht hb => by rw [q2 _ (by omega)]; simp) q3⟩, fun c => absurd (by decide) c⟩
    | succ k ih =>
      intro i ld hi q1 q2 q3
      refine ⟨fun c => absurd ((nI_leI (a := 60) (by omega) (by omega)).mp c) (by omega), fun _ => ⟨vp_in_nI (by omega) (by decide), ?_⟩⟩
      rw [nI_1, nI_clamp (by omega)]
      refine ih (i + 1) _ (by omega) (fun x hx => by rw [up_ne (by decide)]; exact q1 x hx) (fun x hx => ?_) (fun j j2 j3 j4 => by rw [up_ne j4, q3 j j2 j3 j4])
      rw [up_at]
      by_cases e : x = i
      · rw [e, uL_at]
      · rw [uL_ne e, q2 x (by omega)]
  have F : ∀ (k i : Nat) (ld : Nat → Nat → Int64), i + k = 2 ^ v 13 0 → (∀ x, x < i → ld 2 x = D1 x) → (∀ j, j ≠ 2 → j ≠ 3 → j ≠ 4 → ld j = ml j) → P_X12_night_16 post (fun (x1_ : Int32) (ms : Nat → Int32) (ma : Nat → Nat → Int32) (x2_ : Int32) (ml : Nat → Nat → Int64) => (∃ n : Nat, P_X12_night_46 post (fun (x1_ : Int32) (ms : Nat → Int32) (ma : Nat → Nat → Int32) (x2_ : Int32) (ml : Nat → Nat → Int64) => (∃ n : Nat, P_X12_night_67 post x1_ ms ma n x2_ ml)) x1_ ms ma n x2_ ml)) (nI (2 ^ v 13 0)) (va_up ms 12 (nI (v 13 0))) mb (k + 1) (nI i) ld := by
    intro k
    induction k with
    | zero =>
      intro i ld hi q1 q2
      obtain rfl : i = 2 ^ v 13 0 := by omega
      exact ⟨fun _ => ⟨61, Z 60 0 ld (by omega) q1 (fun x hx => by omega) q2⟩, fun c => absurd (nI_le (Nat.le_refl _) (by omega)) c⟩
    | succ k ih =>
      intro i ld hi q1 q2
      refine ⟨fun c => absurd ((nI_leI (by omega) (by omega)).mp c) (by omega), fun _ => ?_⟩
      rw [nI_1, nI_clamp (by omega), show (0 : Int32) = nI 0 from rfl, nI_eq (by omega) (by decide)]
      have st : ∀ y : Int64, y = D1 i → P_X12_night_16 post (fun (x1_ : Int32) (ms : Nat → Int32) (ma : Nat → Nat → Int32) (x2_ : Int32) (ml : Nat → Nat → Int64) => (∃ n : Nat, P_X12_night_46 post (fun (x1_ : Int32) (ms : Nat → Int32) (ma : Nat → Nat → Int32) (x2_ : Int32) (ml : Nat → Nat → Int64) => (∃ n : Nat, P_X12_night_67 post x1_ ms ma n x2_ ml)) x1_ ms ma n x2_ ml)) (nI (2 ^ v 13 0)) (va_up ms 12 (nI (v 13 0))) mb (k + 1) (nI (i + 1)) (va_up ld 2 (vp_updL (ld 2) i y)) := by
        intro y hy
        refine ih (i + 1) _ (by omega) (fun x hx => ?_) (fun j j2 j3 j4 => by rw [up_ne j2, q2 j j2 j3 j4])
        rw [up_at]
        by_cases e : x = i
        · rw [e, uL_at, hy]
        · rw [uL_ne e, q1 x (by omega)]
      refine ⟨fun c => ⟨vp_in_nI (by omega) (by decide), st 0 ?_⟩, fun c => ⟨vp_in_nI (by omega) (by decide), st _ ?_⟩⟩
      · unfold D1; rw [if_neg c]
      · unfold D1; rw [if_pos c]
  exact ⟨2 ^ v 13 0 + 1, F (2 ^ v 13 0) 0 ml (by omega) (fun x hx => by omega) (fun _ _ _ _ => rfl)⟩
/-- the reference's parts behind a night -/
def MP (v : Rl) (ml : Nat → Nat → Int64) : Prop := (∀ x, x < 2 ^ v 13 0 → ml 2 x = nD v 0 0 D1 (v 14 0) x) ∧ (∀ t b, t < 6 → b < 10 → ml 4 (10 * t + b) = hadN v t b)
theorem m_riskOf {v : Rl} (hv : okV v) {ma : Nat → Nat → Int32} {ml : Nat → Nat → Int64} (hN : RelN v 0 ma) (hP : MP v ml) {b : Nat} (hb : b < v 13 0) {post : Int64 → Prop} (h : post (risk v b)) : P_X12_riskOf ma ml (nI b) post := by
  have h13 := ok13 hv
  have hn := pow13 h13
  have e13 : ma 10 0 = nI (v 13 0) := hN.1.2.2.2.2
  have L : ∀ k i, i + k = 2 ^ v 13 0 → P_X12_riskOf_5 ma ml (nI b) post (k + 1) (sumL (fun x => bitW b x * nD v 0 0 D1 (v 14 0) x) i) (nI i) := by
    intro k
    induction k with
    | zero =>
      intro i hi
      obtain rfl : i = 2 ^ v 13 0 := by omega
      have hN : 2 ^ v 13 0 ≤ N17 := by unfold N17; omega
      have := risk_eq h13 (ok14 hv) hb
      rw [sumL_ext hN (fun q h1 _ => by rw [nD_out h13 h1, Int64.mul_zero])] at this
      unfold P_X12_riskOf_5 P_X12_riskOf_5_b
      rw [this, e13, sh1 (by omega)]
      exact ⟨fun _ => h, fun c => absurd (nI_le (Nat.le_refl _) (by omega)) c⟩
    | succ k ih =>
      intro i hi
      have := ih (i + 1) (by omega)
      rw [sumL] at this
      unfold P_X12_riskOf_5 P_X12_riskOf_5_b
      rw [e13, sh1 (by omega), bit_o (by omega) (by omega), nI_clamp (by omega), hP.1 i (by omega), nI_1]
      refine ⟨fun c => absurd ((nI_leI (by omega) (by omega)).mp c) (by omega), fun _ => ⟨fun c x hx => ?_, fun c => ⟨vp_in_nI (by omega) (by decide), fun x hx => ?_⟩⟩⟩
      · have z : bitW b i = 0 := by unfold bitW; rw [if_neg c]
        rw [z, Int64.zero_mul] at this
        rw [hx]; exact this
      · have z : bitW b i = 1 := by unfold bitW; rw [if_pos c]
        rw [z, Int64.one_mul] at this
        rw [hx]; exact this
  exact ⟨2 ^ v 13 0 + 1, L (2 ^ v 13 0) 0 (by omega)⟩
theorem m_paidOf {v : Rl} (hv : okV v) {ma : Nat → Nat → Int32} (hN : RelN v 0 ma) {b : Nat} (hb : b < v 13 0) {post : Int64 → Prop} (h : post (lN (paidZ v b))) : P_X12_paidOf ma (nI b) post := by
  have h13 := ok13 hv
  have h12 := ok12 hv
  have h4 := ok4 hv
  obtain ⟨-, -, -, e23, e24⟩ := hN.2.2.2.1 b hb
  obtain ⟨-, -, -, b23, b24⟩ := hv.2.2.2.2.1 b hb
  have e4 : ma 14 0 = nI (v 4 0) := hN.2.2.2.2.1
  have fin : ∀ pr : Nat, pr ≤ 999 → pr = (if v 23 b = 0 then 0 else v 18 (v 23 b - 1)) → P_X12_paidOf_40 ma (nI b) post (nI (5 * (10 * 0 + b))) (nI pr) 1000 := by
    intro pr hpr he
    unfold P_X12_paidOf_40
    rw [show nI (5 * (10 * 0 + b)) + 4 = nI (5 * (10 * 0 + b) + 4) from nI_add _ 4, nI_clamp (by omega), e24, e4]
    unfold paidZ at h
    rw [← he] at h
    refine ⟨vp_in_nI (by omega) (by decide), fun c => ?_, fun c => ?_⟩
    · have z : v 24 b ≠ 1 := fun q => c (by rw [q]; rfl)
      rw [if_neg z] at h
      rw [show nI pr + 0 = nI (pr + 0) from nI_add pr 0, nI_l (by omega), show (1000 : Int64) = lN 1000 from rfl, lN_mul]
      exact h
    · have z : v 24 b = 1 := (nI_eq (b := 1) (by omega) (by decide)).mp c
      rw [if_pos z] at h
      rw [nI_add, nI_l (by omega), show (1000 : Int64) = lN 1000 from rfl, lN_mul]
      exact h
  show vp_in ((5 : Int32) * ((10 : Int32) * nI 0 + nI b) + 3) 250 ∧ ((¬ (ma 11 (((5 : Int32) * ((10 : Int32) * nI 0 + nI b) + 3).toNatClampNeg)) = (-1)) → vp_in ((5 : Int32) * ((10 : Int32) * nI 0 + nI b) + 3) 250 ∧ (vp_in (4 * (ma 11 (((5 : Int32) * ((10 : Int32) * nI 0 + nI b) + 3).toNatClampNeg))) 100 ∧ (P_X12_paidOf_40 ma (nI b) post ((5 : Int32) * ((10 : Int32) * nI 0 + nI b)) (ma 9 ((4 * (ma 11 (((5 : Int32) * ((10 : Int32) * nI 0 + nI b) + 3).toNatClampNeg))).toNatClampNeg)) 1000))) ∧ (((ma 11 (((5 : Int32) * ((10 : Int32) * nI 0 + nI b) + 3).toNatClampNeg)) = (-1)) → P_X12_paidOf_40 ma (nI b) post ((5 : Int32) * ((10 : Int32) * nI 0 + nI b)) 0 1000)
  rw [show (5 : Int32) * ((10 : Int32) * nI 0 + nI b) + 3 = nI (5 * (10 * 0 + b) + 3) from ix5 0 b 3, ix50, nI_clamp (by omega), e23]
  refine ⟨vp_in_nI (by omega) (by decide), fun c => ⟨vp_in_nI (by omega) (by decide), ?_⟩, fun c => ?_⟩
  · have hp : 0 < v 23 b := Nat.pos_of_ne_zero fun q => c ((nI_m1 (by omega)).mpr q)
    rw [nI_pre hp, show (4 : Int32) * nI (v 23 b - 1) = nI (4 * (5 * 0 + (v 23 b - 1))) by rw [show (4 : Int32) = nI 4 from rfl, pk_mul]; congr 1; omega, nI_clamp (by omega), hN.2.1 _ (by omega)]
    exact ⟨vp_in_nI (by omega) (by decide), fin _ (hv.2.2.1 _ (by omega)) (by rw [if_neg (by omega)])⟩
  · have hz : v 23 b = 0 := (nI_m1 (by omega)).mp c
    exact fin 0 (by decide) (by rw [if_pos hz])
theorem m_lossOf {v : Rl} (hv : okV v) {ma : Nat → Nat → Int32} {ml : Nat → Nat → Int64} (hN : RelN v 0 ma) (hP : MP v ml) {b : Nat} (hb : b < v 13 0) {post : Int64 → Prop} (h : post (lossL v b)) : P_X12_lossOf ma ml (nI b) post := by
  have h13 := ok13 hv
  have h1 := ok1 hv
  obtain ⟨e20, -⟩ := hN.2.2.2.1 b hb
  obtain ⟨b20, -⟩ := hv.2.2.2.2.1 b hb
  have e5 : ma 5 0 = nI (v 1 0) := hN.1.2.2.1
  have hm : v 1 0 * v 20 b ≤ 60 * 9999 := Nat.mul_le_mul h1 b20
  show vp_in ((5 : Int32) * ((10 : Int32) * nI 0 + nI b)) 250 ∧ P_X12_riskOf ma ml (nI b) (fun r2 => post ((((ma 5 0) * (ma 11 ((5 : Int32) * ((10 : Int32) * nI 0 + nI b)).toNatClampNeg)).toInt64 * r2) / 1000000000))
  rw [ix50, nI_clamp (by omega), e20, e5, pk_mul, nI_l (by omega)]
  exact ⟨vp_in_nI (by omega) (by decide), m_riskOf hv hN hP hb h⟩
theorem m_wages {v : Rl} (hv : okV v) {ma : Nat → Nat → Int32} (hN : RelN v 0 ma) {post : Int64 → Prop} (h : post (lN (wagesZ v))) : P_X12_wages ma post := by
  have h8 := ok8 hv
  have h1 := ok1 hv
  unfold P_X12_wages
  rw [show ma 14 4 = nI (v 8 0) from hN.2.2.2.2.2.2.2.2.1, show ma 5 0 = nI (v 1 0) from hN.1.2.2.1, nI_l (by omega), nI_l (by omega), show (1000 : Int64) = lN 1000 from rfl, lN_mul, lN_mul]
  exact h
theorem m_costOf {v : Rl} (hv : okV v) {ma : Nat → Nat → Int32} {ml : Nat → Nat → Int64} (hN : RelN v 0 ma) (hP : MP v ml) {b : Nat} (hb : b < v 13 0) {post : Int64 → Prop} (h : post (costL v b)) : P_X12_costOf ma ml (nI b) post := by
  have h10 := ok10 hv
  have h13 := ok13 hv
  have hw := wages_le hv
  refine m_paidOf hv hN hb (m_lossOf hv hN hP hb ?_)
  unfold costL wshZ at h
  rw [show ma 14 6 = nI (v 10 0) from hN.2.2.2.2.2.2.2.2.2.2]
  refine ⟨fun c => ?_, fun c => m_wages hv hN ?_⟩
  · have z : v 10 0 ≠ 1 := fun q => c (by rw [q]; rfl)
    rw [if_neg (by omega)] at h
    exact h
  · have z : v 10 0 = 1 := (nI_eq (b := 1) (by omega) (by decide)).mp c
    rw [if_pos ⟨z, by omega⟩] at h
    rw [show ma 10 0 = nI (v 13 0) from hN.1.2.2.2.2, nI_l (by omega), show (0 : Int64) = lN 0 from rfl, lN_eq (by omega) (by decide), pk_lDiv (by omega) (by omega) (by omega)]
    exact ⟨by omega, h⟩
theorem m_whatOf {v : Rl} (hv : okV v) {ma : Nat → Nat → Int32} {ml : Nat → Nat → Int64} (hN : RelN v 0 ma) (hP : MP v ml) {b w : Nat} (hb : b < v 13 0) (hw : w < 3) {post : Int64 → Prop} (h : post (whatL v b w)) : P_X12_whatOf ma ml (nI b) (nI w) post := by
  unfold whatL at h
  unfold P_X12_whatOf
  rw [show (0 : Int32) = nI 0 from rfl, show (1 : Int32) = nI 1 from rfl, nI_eq (by omega) (by decide), nI_eq (by omega) (by decide)]
  refine ⟨fun c => ⟨fun c2 => m_costOf hv hN hP hb ?_, fun c2 => m_lossOf hv hN hP hb ?_⟩, fun c => m_paidOf hv hN hb ?_⟩
  · rw [if_neg c, if_neg c2] at h; exact h
  · rw [if_neg c, if_pos c2] at h; exact h
  · rw [if_pos c] at h; exact h
/-- what of the reference's state a look at a rail leaves -/
def MF (ms : Nat → Int32) (ma : Nat → Nat → Int32) (ml : Nat → Nat → Int64) (mt : Nat → Int32) (mb : Nat → Nat → Int32) (mk : Nat → Nat → Int64) : Prop := (∀ j, j ≠ 12 → mt j = ms j) ∧ (∀ j, j ≠ 18 → j ≠ 19 → mb j = ma j) ∧ ∀ j, j ≠ 2 → j ≠ 3 → j ≠ 4 → mk j = ml j
theorem MF.refl (ms : Nat → Int32) (ma : Nat → Nat → Int32) (ml : Nat → Nat → Int64) : MF ms ma ml ms ma ml := ⟨fun _ _ => rfl, fun _ _ _ => rfl, fun _ _ _ _ => rfl⟩
theorem MF.trans {ms ms1 ms2 : Nat → Int32} {ma ma1 ma2 : Nat → Nat → Int32} {ml ml1 ml2 : Nat → Nat → Int64} (h : MF ms ma ml ms1 ma1 ml1) (g : MF ms1 ma1 ml1 ms2 ma2 ml2) : MF ms ma ml ms2 ma2 ml2 := ⟨fun j a => (g.1 j a).trans (h.1 j a), fun j a b => (g.2.1 j a b).trans (h.2.1 j a b), fun j a b c => (g.2.2 j a b c).trans (h.2.2 j a b c)⟩
theorem MF.rm {v : Rl} {j : Nat} {ms ms1 : Nat → Int32} {ma ma1 : Nat → Nat → Int32} {ml ml1 : Nat → Nat → Int64} (h : MF ms ma ml ms1 ma1 ml1) (hM : RM v j ms ma) : RM v j ms1 ma1 := hM.fr (fun i h3 h4 => h.2.1 i (by omega) (by omega)) (h.1 10 (by decide)) (h.1 11 (by decide))
theorem m_nightF {v : Rl} (hv : okV v) (hJ : okJ v) {ms : Nat → Int32} {ma : Nat → Nat → Int32} {ml : Nat → Nat → Int64} (hM : RM v 0 ms ma) {post : (Nat → Int32) → (Nat → Nat → Int32) → (Nat → Nat → Int64) → Prop}
    (h : ∀ (mt : Nat → Int32) (mb : Nat → Nat → Int32) (mk : Nat → Nat → Int64), MF ms ma ml mt mb mk → MP v mk → post mt mb mk) : P_X12_night ms ma ml post := m_night hv hJ hM (fun mb mk h1 h2 h3 h4 => h _ mb mk ⟨fun j hj => up_ne hj, h1, h2⟩ ⟨h3, h4⟩)
theorem m_allNow {v : Rl} (hv : okV v) (hJ : okJ v) {ms : Nat → Int32} {ma : Nat → Nat → Int32} {ml : Nat → Nat → Int64} (hM : RM v 0 ms ma) {w : Nat} (hw : w < 3) {post : Int64 → (Nat → Int32) → (Nat → Nat → Int32) → (Nat → Nat → Int64) → Prop}
    (h : ∀ (mt : Nat → Int32) (mb : Nat → Nat → Int32) (mk : Nat → Nat → Int64), MF ms ma ml mt mb mk → post (allL v w) mt mb mk) : P_X12_allNow ms ma ml (nI w) post := by
  have h13 := ok13 hv
  refine m_nightF hv hJ hM (fun mt mb mk hF hP => ?_)
  have hM2 := hF.rm hM
  have e13 : mb 10 0 = nI (v 13 0) := hM2.1.1.2.2.2.2
  have L : ∀ k i, i + k = v 13 0 → P_X12_allNow_9 (nI w) post mt mb mk (k + 1) (sumL (fun b => whatL v b w) i) (nI i) := by
    intro k
    induction k with
    | zero =>
      intro i hi
      obtain rfl : i = v 13 0 := by omega
      exact ⟨fun _ => h mt mb mk hF, fun c => absurd ((cmp_le e13 (by omega) (by omega)).mpr (Nat.le_refl _)) c⟩
    | succ k ih =>
      intro i hi
      refine ⟨fun c => absurd ((cmp_le e13 (by omega) (by omega)).mp c) (by omega), fun _ => ?_⟩
      refine m_whatOf hv hM2.1 hP (by omega) hw (fun x hx => ?_)
      rw [hx, nI_1]
      exact ih (i + 1) (by omega)
  exact ⟨v 13 0 + 1, L (v 13 0) 0 (by omega)⟩
theorem m_costNow {v : Rl} (hv : okV v) (hJ : okJ v) {ms : Nat → Int32} {ma : Nat → Nat → Int32} {ml : Nat → Nat → Int64} (hM : RM v 0 ms ma) {b : Nat} (hb : b < v 13 0) {post : Int64 → (Nat → Int32) → (Nat → Nat → Int32) → (Nat → Nat → Int64) → Prop}
    (h : ∀ (mt : Nat → Int32) (mb : Nat → Nat → Int32) (mk : Nat → Nat → Int64), MF ms ma ml mt mb mk → post (costL v b) mt mb mk) : P_X12_costNow ms ma ml (nI b) post := m_nightF hv hJ hM (fun mt mb mk hF hP => m_costOf hv (hF.rm hM).1 hP hb (h mt mb mk hF))
end
section
/-! what holds between the class and the reference, call by call -/
def okR (v : Rl) : Prop := okV v ∧ okJ v ∧ (v 2 0 = 0 → v 13 0 = 0)
abbrev A1 : Type := Nat → Int32
abbrev A2 : Type := Nat → Nat → Int32
abbrev L2 : Type := Nat → Nat → Int64
abbrev Img : Type := Nat → Option (A1 × A2)
def RI (v : Rl) (rs : A1) (ra : A2) (ma : A2) : Prop := okR v ∧ RelC v rs ra ∧ RelN v 0 ma ∧ RelT v 0 ma ∧ RelP v 0 ma ∧ RelY v 0 ma
def TapeR (us : A1) (ua : A2) (ms : A1) (ma : A2) : Prop := us 0 = ms 8 ∧ us 1 = ms 9 ∧ ∃ n : Nat, n ≤ 1600 ∧ us 2 = nI n ∧ ms 1 = nI n ∧ ∀ i, i < n → ua 0 i = ma 2 i
def BOK (ra : A2) : Prop := ∀ i, i < 10 → ra 8 i = 0 ∨ ra 8 i = 1
def SlotR (sa : A2) (sl : L2) (ma : A2) (ml : L2) : Prop := ∀ k, k < 4 → ∃ w n : Nat, w ≤ 4 ∧ n ≤ 60 ∧ sa 1 k = nI w ∧ ma 0 k = nI w - 1 ∧ sa 0 k = nI n ∧ ma 1 k = nI n ∧ ∀ i, i < n → sl 0 (60 * k + i) = ml 0 (60 * k + i)
def ImR (im : Img) (ma : A2) : Prop := ∀ k, k < 3 → match im k with
  | none => ma 17 k = 0
  | some q => ma 17 k = 1 ∧ ∃ v, okR v ∧ RelC v q.1 q.2 ∧ RelN v (k + 1) ma ∧ RelT v (k + 1) ma ∧ RelP v (k + 1) ma ∧ RelY v (k + 1) ma
def Inv (us : A1) (ua : A2) (rs : A1) (ra : A2) (ra2 : A2) (sa : A2) (sl : L2) (ns : A1) (na : A2) (nl : L2) (yt : Int32) (im : Img) (ms : A1) (ma : A2) (ml : L2) : Prop :=
  TapeR us ua ms ma ∧ (∃ v, RI v rs ra ma) ∧ BOK ra2 ∧ NOK ns na nl ∧ SlotR sa sl ma ml ∧ ImR im ma ∧ (ms 10 = 0 ∧ ms 11 = 0) ∧ (yt = 0 ∨ yt = 1)
/-- what of the reference's state stays in a call on the rail: all but rows of scratch, and row 0's bikes and settings -/
def MG (ms : A1) (ma : A2) (ml : L2) (mt : A1) (mb : A2) (mk : L2) : Prop := (∀ j, j ≠ 0 → j ≠ 12 → j ≠ 13 → mt j = ms j) ∧ (∀ j, j ≤ 17 → j ≠ 11 → j ≠ 14 → j ≠ 15 → mb j = ma j) ∧ (∀ x, 50 ≤ x → mb 11 x = ma 11 x) ∧ (∀ x, 7 ≤ x → mb 14 x = ma 14 x) ∧ mk 0 = ml 0
theorem MG.refl (ms : A1) (ma : A2) (ml : L2) : MG ms ma ml ms ma ml := ⟨fun _ _ _ _ => rfl, fun _ _ _ _ _ => rfl, fun _ _ => rfl, fun _ _ => rfl, rfl⟩
theorem MG.trans {ms ms1 ms2 : A1} {ma ma1 ma2 : A2} {ml ml1 ml2 : L2} (h : MG ms ma ml ms1 ma1 ml1) (g : MG ms1 ma1 ml1 ms2 ma2 ml2) : MG ms ma ml ms2 ma2 ml2 :=
  ⟨fun j a b c => (g.1 j a b c).trans (h.1 j a b c), fun j a b c d => (g.2.1 j a b c d).trans (h.2.1 j a b c d), fun x hx => (g.2.2.1 x hx).trans (h.2.2.1 x hx), fun x hx => (g.2.2.2.1 x hx).trans (h.2.2.2.1 x hx), g.2.2.2.2.trans h.2.2.2.2⟩
theorem MF.g {ms ms1 : A1} {ma ma1 : A2} {ml ml1 : L2} (h : MF ms ma ml ms1 ma1 ml1) : MG ms ma ml ms1 ma1 ml1 :=
  ⟨fun j _ b _ => h.1 j b, fun j a _ _ _ => h.2.1 j (by omega) (by omega), fun x _ => by rw [h.2.1 11 (by decide) (by decide)], fun x _ => by rw [h.2.1 14 (by decide) (by decide)], h.2.2 0 (by decide) (by decide) (by decide)⟩
theorem MG.z (ms : A1) (ma : A2) (ml : L2) : MG ms ma ml (va_up ms 0 0) ma ml := ⟨fun j a _ _ => up_ne a, fun _ _ _ _ _ => rfl, fun _ _ => rfl, fun _ _ => rfl, rfl⟩
theorem RelN.row {v : Rl} {j : Nat} {ma mb : A2} (h : RelN v j ma) (hj : 1 ≤ j) (h13 : v 13 0 ≤ 10) (e : ∀ i, i ≤ 17 → i ≠ 11 → i ≠ 14 → i ≠ 15 → mb i = ma i) (e11 : ∀ x, 50 ≤ x → mb 11 x = ma 11 x) (e14 : ∀ x, 7 ≤ x → mb 14 x = ma 14 x) : RelN v j mb := by
  unfold RelN at h ⊢
  simp only [e 3 (by decide) (by decide) (by decide) (by decide), e 4 (by decide) (by decide) (by decide) (by decide), e 5 (by decide) (by decide) (by decide) (by decide), e 8 (by decide) (by decide) (by decide) (by decide), e 9 (by decide) (by decide) (by decide) (by decide), e 10 (by decide) (by decide) (by decide) (by decide)]
  obtain ⟨a, b, c, d, f1, f2, f3, f4, f5, f6, f7⟩ := h
  refine ⟨a, b, c, fun b hb => ?_, ?_⟩
  · rw [e11 _ (by omega), e11 _ (by omega), e11 _ (by omega), e11 _ (by omega), e11 _ (by omega)]
    exact d b hb
  · rw [e14 _ (by omega), e14 _ (by omega), e14 _ (by omega), e14 _ (by omega), e14 _ (by omega), e14 _ (by omega), e14 _ (by omega)]
    exact ⟨f1, f2, f3, f4, f5, f6, f7⟩
theorem RelT.eq {v : Rl} {j : Nat} {ma mb : A2} (h : RelT v j ma) (e12 : mb 12 = ma 12) (e13 : mb 13 = ma 13) : RelT v j mb := by
  unfold RelT at h ⊢
  rw [e12, e13]
  exact h
theorem RelP.eq {v : Rl} {j : Nat} {ma mb : A2} (h : RelP v j ma) (e6 : mb 6 = ma 6) (e7 : mb 7 = ma 7) : RelP v j mb := by
  unfold RelP at h ⊢
  rw [e6, e7]
  exact h
theorem RelY.eq {v : Rl} {j : Nat} {ma mb : A2} (h : RelY v j ma) (e16 : mb 16 = ma 16) : RelY v j mb := by
  unfold RelY at h ⊢
  rw [e16]
  exact h
theorem ImR.g {im : Img} {ma mb : A2} (h : ImR im ma) (e : ∀ i, i ≤ 17 → i ≠ 11 → i ≠ 14 → i ≠ 15 → mb i = ma i) (e11 : ∀ x, 50 ≤ x → mb 11 x = ma 11 x) (e14 : ∀ x, 7 ≤ x → mb 14 x = ma 14 x) : ImR im mb := by
  intro k hk
  have hh := h k hk
  cases hm : im k with
  | none =>
    rw [hm] at hh
    simp only at hh ⊢
    rw [e 17 (by decide) (by decide) (by decide) (by decide)]
    exact hh
  | some q =>
    rw [hm] at hh
    simp only at hh ⊢
    rw [e 17 (by decide) (by decide) (by decide) (by decide)]
    obtain ⟨h0, v, h1, h2, h3, h4, h5, h6⟩ := hh
    exact ⟨h0, v, h1, h2, h3.row (by omega) (ok13 h1.1) e e11 e14, h4.eq (e 12 (by decide) (by decide) (by decide) (by decide)) (e 13 (by decide) (by decide) (by decide) (by decide)), h5.eq (e 6 (by decide) (by decide) (by decide) (by decide)) (e 7 (by decide) (by decide) (by decide) (by decide)), h6.eq (e 16 (by decide) (by decide) (by decide) (by decide))⟩
/-- a call on the rail keeps all, if it keeps the rail -/
theorem Inv.step {us : A1} {ua : A2} {rs : A1} {ra ra2 sa : A2} {sl : L2} {ns : A1} {na : A2} {nl : L2} {yt : Int32} {im : Img} {ms : A1} {ma : A2} {ml : L2} (h : Inv us ua rs ra ra2 sa sl ns na nl yt im ms ma ml) {rs' : A1} {ra' ra2' : A2} {ns' : A1} {na' : A2} {nl' : L2} {mt : A1} {mb : A2} {mk : L2} (hG : MG ms ma ml mt mb mk) {v' : Rl} (hv' : okR v') (hC : RelC v' rs' ra') (hN : RelN v' 0 mb) (hT : RelT v' 0 mb) (hP : RelP v' 0 mb) (hY : RelY v' 0 mb) (hB : BOK ra2') (hK : NOK ns' na' nl') : Inv us ua rs' ra' ra2' sa sl ns' na' nl' yt im mt mb mk := by
  obtain ⟨⟨t1, t2, n, t3, t4, t5, t6⟩, -, -, -, hS, hI, ⟨h10, h11⟩, hy⟩ := h
  refine ⟨⟨t1.trans (hG.1 8 (by decide) (by decide) (by decide)).symm, t2.trans (hG.1 9 (by decide) (by decide) (by decide)).symm, n, t3, t4, (hG.1 1 (by decide) (by decide) (by decide)).trans t5, fun i hi => by rw [hG.2.1 2 (by decide) (by decide) (by decide) (by decide)]; exact t6 i hi⟩, ⟨v', hv', hC, hN, hT, hP, hY⟩, hB, hK, fun k hk => ?_, hI.g hG.2.1 hG.2.2.1 hG.2.2.2.1, ⟨(hG.1 10 (by decide) (by decide) (by decide)).trans h10, (hG.1 11 (by decide) (by decide) (by decide)).trans h11⟩, hy⟩
  rw [hG.2.1 0 (by decide) (by decide) (by decide) (by decide), hG.2.1 1 (by decide) (by decide) (by decide) (by decide), hG.2.2.2.2]
  exact hS k hk
/-- a call that leaves row 0's rail as it is -/
theorem Inv.same {us : A1} {ua : A2} {rs : A1} {ra ra2 sa : A2} {sl : L2} {ns : A1} {na : A2} {nl : L2} {yt : Int32} {im : Img} {ms : A1} {ma : A2} {ml : L2} (h : Inv us ua rs ra ra2 sa sl ns na nl yt im ms ma ml) {v : Rl} (hv : okR v) (hC : RelC v rs ra) (hT : RelT v 0 ma) (hP : RelP v 0 ma) (hY : RelY v 0 ma) {ra2' : A2} {ns' : A1} {na' : A2} {nl' : L2} {mt : A1} {mb : A2} {mk : L2} (hG : MG ms ma ml mt mb mk) (hN : RelN v 0 mb) (hB : BOK ra2') (hK : NOK ns' na' nl') : Inv us ua rs ra ra2' sa sl ns' na' nl' yt im mt mb mk :=
  h.step hG hv hC hN (hT.eq (hG.2.1 12 (by decide) (by decide) (by decide) (by decide)) (hG.2.1 13 (by decide) (by decide) (by decide) (by decide))) (hP.eq (hG.2.1 6 (by decide) (by decide) (by decide) (by decide)) (hG.2.1 7 (by decide) (by decide) (by decide) (by decide))) (hY.eq (hG.2.1 16 (by decide) (by decide) (by decide) (by decide))) hB hK
/-! tests of a number's bounds -/
theorem wide0 {p : Int32} : p.toInt64 < 0 ↔ p < 0 := fa_wide_lt p 0
theorem m_in_ok {j n : Nat} (h : j < n) (hn : n < 2 ^ 30) {post : Int32 → Prop} (hp : post 1) : P_X12_in (nI j).toInt64 0 ((nI n - 1).toInt64) post := by
  refine ⟨fun c => absurd (wide0.mp c) (nI_pos (by omega)), fun _ => ⟨fun c => absurd ((fa_wide_lt _ _).mp c) ?_, fun _ => hp⟩⟩
  rw [nI_pre (by omega)]
  exact nI_nlt (by omega) (by omega)
theorem m_in_bad {p : Int32} {n : Nat} (h : p < 0 ∨ nI n ≤ p) (hn : n < 2 ^ 30) {post : Int32 → Prop} (hp : post 0) : P_X12_in p.toInt64 0 ((nI n - 1).toInt64) post := by
  refine ⟨fun _ => hp, fun c => ⟨fun _ => hp, fun c2 => absurd ((fa_wide_lt _ _).mpr ?_) c2⟩⟩
  rw [wide0] at c
  have h2 : nI n ≤ p := h.resolve_left c
  rw [Int32.lt_iff_toInt_lt, show (1 : Int32) = nI 1 from rfl, nS (by omega) (by decide)]
  rw [Int32.le_iff_toInt_le, nI_toInt (by omega)] at h2
  omega
/-- bounds 0 .. m, as a literal -/
theorem m_inL_ok {j m : Nat} (h : j ≤ m) (hm : m < 2 ^ 30) {post : Int32 → Prop} (hp : post 1) : P_X12_in (nI j).toInt64 0 (lN m) post := by
  rw [nI_l (by omega)]
  refine ⟨fun c => absurd ((lN_lt (b := 0) (by omega) (by decide)).mp c) (by omega), fun _ => ⟨fun c => absurd ((lN_lt (by omega) (by omega)).mp c) (by omega), fun _ => hp⟩⟩
theorem m_inL_bad {p : Int32} {m : Nat} (h : p < 0 ∨ nI (m + 1) ≤ p) (hm : m < 2 ^ 30) {post : Int32 → Prop} (hp : post 0) : P_X12_in p.toInt64 0 (lN m) post := by
  refine ⟨fun _ => hp, fun c => ⟨fun _ => hp, fun c2 => absurd ?_ c2⟩⟩
  rw [wide0] at c
  have h2 : nI (m + 1) ≤ p := h.resolve_left c
  rw [← nI_l (by omega), fa_wide_lt, Int32.lt_iff_toInt_lt, nI_toInt (by omega)]
  rw [Int32.le_iff_toInt_le, nI_toInt (by omega)] at h2
  omega
section HAS
variable {v : Rl} {rs : A1} {ra ma : A2} {post : Int32 → Prop} {p : Int32} {j : Nat}
theorem c_hasP (hR : RelC v rs ra) (hv : okV v) (h : j < v 0 0) (hp : post 1) : P_X4_hasPlace rs (nI j) post := by
  have := ok0 hv
  exact ⟨fun c => absurd c (nI_pos (by omega)), fun _ => ⟨fun c => absurd ((cmp_le (rc_s hR 0) (by omega) (by omega)).mp c) (by omega), fun _ => hp⟩⟩
theorem c_hasP0 (hR : RelC v rs ra) (h : p < 0 ∨ nI (v 0 0) ≤ p) (hp : post 0) : P_X4_hasPlace rs p post :=
  ⟨fun _ => hp, fun c => ⟨fun _ => hp, fun c2 => absurd (by rw [rc_s hR 0]; exact h.resolve_left c) c2⟩⟩
theorem c_hasB (hR : RelC v rs ra) (hv : okV v) (h : j < v 13 0) (hp : post 1) : P_X4_hasBike rs (nI j) post := by
  have := ok13 hv
  exact ⟨fun c => absurd c (nI_pos (by omega)), fun _ => ⟨fun c => absurd ((cmp_le (rc_s hR 13) (by omega) (by omega)).mp c) (by omega), fun _ => hp⟩⟩
theorem c_hasB0 (hR : RelC v rs ra) (h : p < 0 ∨ nI (v 13 0) ≤ p) (hp : post 0) : P_X4_hasBike rs p post :=
  ⟨fun _ => hp, fun c => ⟨fun _ => hp, fun c2 => absurd (by rw [rc_s hR 13]; exact h.resolve_left c) c2⟩⟩
theorem c_hasT (hR : RelC v rs ra) (hv : okV v) (h : j < v 14 0) (hp : post 1) : P_X4_hasThief rs (nI j) post := by
  have := ok14 hv
  exact ⟨fun c => absurd c (nI_pos (by omega)), fun _ => ⟨fun c => absurd ((cmp_le (rc_s hR 14) (by omega) (by omega)).mp c) (by omega), fun _ => hp⟩⟩
theorem c_hasT0 (hR : RelC v rs ra) (h : p < 0 ∨ nI (v 14 0) ≤ p) (hp : post 0) : P_X4_hasThief rs p post :=
  ⟨fun _ => hp, fun c => ⟨fun _ => hp, fun c2 => absurd (by rw [rc_s hR 14]; exact h.resolve_left c) c2⟩⟩
theorem c_hasL (hR : RelC v rs ra) (hv : okV v) (h : j < v 12 0) (hp : post 1) : P_X4_hasLock rs (nI j) post := by
  have := ok12 hv
  exact ⟨fun c => absurd c (nI_pos (by omega)), fun _ => ⟨fun c => absurd ((cmp_le (rc_s hR 12) (by omega) (by omega)).mp c) (by omega), fun _ => hp⟩⟩
theorem c_hasL0 (hR : RelC v rs ra) (h : p < 0 ∨ nI (v 12 0) ≤ p) (hp : post 0) : P_X4_hasLock rs p post :=
  ⟨fun _ => hp, fun c => ⟨fun _ => hp, fun c2 => absurd (by rw [rc_s hR 12]; exact h.resolve_left c) c2⟩⟩
theorem c_told (hR : RelC v rs ra) (hv : okV v) (h : 0 < v 2 0) (hp : post 1) : P_X4_isTold rs post := by
  have := ok2 hv
  exact ⟨fun c => absurd ((cmp_le (i := 0) (rc_s hR 2) (by omega) (by decide)).mp c) (by omega), fun _ => hp⟩
theorem c_told0 (hR : RelC v rs ra) (h : v 2 0 = 0) (hp : post 0) : P_X4_isTold rs post :=
  ⟨fun _ => hp, fun c => absurd (by rw [rc_s hR 2, h]; decide) c⟩
theorem c_options (hR : RelC v rs ra) (hv : okV v) (h : 0 < v 2 0) (hp : post (nI (2 * (v 12 0 + 1)))) : P_X4_options rs post := by
  refine c_told hR hv h ⟨fun c => absurd c (by decide), fun _ => ?_⟩
  rw [rc_s hR 12, nI_1, show (2 : Int32) = nI 2 from rfl, pk_mul]
  exact hp
theorem c_hasO (hR : RelC v rs ra) (hv : okV v) (ht : 0 < v 2 0) (h : j < 2 * (v 12 0 + 1)) (hp : post 1) : P_X4_hasOption rs (nI j) post := by
  have := ok12 hv
  refine ⟨fun c => absurd c (nI_pos (by omega)), fun _ => c_options hR hv ht ⟨fun c => absurd ((nI_leI (by omega) (by omega)).mp c) (by omega), fun _ => hp⟩⟩
theorem c_hasO0 (hR : RelC v rs ra) (hv : okV v) (ht : 0 < v 2 0) (h : p < 0 ∨ nI (2 * (v 12 0 + 1)) ≤ p) (hp : post 0) : P_X4_hasOption rs p post :=
  ⟨fun _ => hp, fun c => c_options hR hv ht ⟨fun _ => hp, fun c2 => absurd (h.resolve_left c) c2⟩⟩
theorem c_hasS (hR : RelC v rs ra) (hv : okV v) (h : j < 2 ^ v 13 0) (hp : post 1) : P_X4_hasSet rs (nI j) post := by
  have h13 := ok13 hv
  have hn := pow13 h13
  unfold P_X4_hasSet
  rw [rc_s hR 13, sh1 (by omega)]
  exact ⟨fun c => absurd c (nI_pos (by omega)), fun _ => ⟨fun c => absurd ((nI_leI (by omega) (by omega)).mp c) (by omega), fun _ => hp⟩⟩
theorem c_hasS0 (hR : RelC v rs ra) (hv : okV v) (h : p < 0 ∨ nI (2 ^ v 13 0) ≤ p) (hp : post 0) : P_X4_hasSet rs p post := by
  have h13 := ok13 hv
  unfold P_X4_hasSet
  rw [rc_s hR 13, sh1 (by omega)]
  exact ⟨fun _ => hp, fun c => ⟨fun _ => hp, fun c2 => absurd (h.resolve_left c) c2⟩⟩
theorem m_rail (hN : RelN v 0 ma) (hv : okV v) (h : 0 < v 2 0) (hp : post 1) : P_X12_isRail ma post := by
  have h0 := ok0 hv
  have hz := hv.1.2.2.2.2.2.2.2.2.2.2.2.2.2.2.2.2
  have : 0 < v 0 0 := by omega
  exact ⟨fun c => absurd ((cmp_le (i := 0) (show ma 4 0 = nI (v 0 0) from hN.1.2.1) (by omega) (by decide)).mp c) (by omega), fun _ => hp⟩
theorem m_rail0 (hN : RelN v 0 ma) (hv : okV v) (h : v 2 0 = 0) (hp : post 0) : P_X12_isRail ma post := by
  have hz := hv.1.2.2.2.2.2.2.2.2.2.2.2.2.2.2.2.2
  have : v 0 0 = 0 := by omega
  exact ⟨fun _ => hp, fun c => absurd (by rw [show ma 4 0 = nI (v 0 0) from hN.1.2.1, this]; decide) c⟩
theorem m_isP (hN : RelN v 0 ma) (hv : okV v) (h : j < v 0 0) (hp : post 1) : P_X12_isPlace ma (nI j) post := by
  have := ok0 hv
  unfold P_X12_isPlace
  rw [show ma 4 0 = nI (v 0 0) from hN.1.2.1]
  exact m_in_ok h (by omega) ⟨Or.inr rfl, hp⟩
theorem m_isP0 (hN : RelN v 0 ma) (hv : okV v) (h : p < 0 ∨ nI (v 0 0) ≤ p) (hp : post 0) : P_X12_isPlace ma p post := by
  have := ok0 hv
  unfold P_X12_isPlace
  rw [show ma 4 0 = nI (v 0 0) from hN.1.2.1]
  exact m_in_bad h (by omega) ⟨Or.inl rfl, hp⟩
theorem m_isB (hN : RelN v 0 ma) (hv : okV v) (h : j < v 13 0) (hp : post 1) : P_X12_isBike ma (nI j) post := by
  have := ok13 hv
  unfold P_X12_isBike
  rw [show ma 10 0 = nI (v 13 0) from hN.1.2.2.2.2]
  exact m_in_ok h (by omega) ⟨Or.inr rfl, hp⟩
theorem m_isB0 (hN : RelN v 0 ma) (hv : okV v) (h : p < 0 ∨ nI (v 13 0) ≤ p) (hp : post 0) : P_X12_isBike ma p post := by
  have := ok13 hv
  unfold P_X12_isBike
  rw [show ma 10 0 = nI (v 13 0) from hN.1.2.2.2.2]
  exact m_in_bad h (by omega) ⟨Or.inl rfl, hp⟩
theorem m_isT (hT : RelT v 0 ma) (hv : okV v) (h : j < v 14 0) (hp : post 1) : P_X12_isThief ma (nI j) post := by
  have := ok14 hv
  unfold P_X12_isThief
  rw [show ma 12 0 = nI (v 14 0) from hT.1]
  exact m_in_ok h (by omega) ⟨Or.inr rfl, hp⟩
theorem m_isT0 (hT : RelT v 0 ma) (hv : okV v) (h : p < 0 ∨ nI (v 14 0) ≤ p) (hp : post 0) : P_X12_isThief ma p post := by
  have := ok14 hv
  unfold P_X12_isThief
  rw [show ma 12 0 = nI (v 14 0) from hT.1]
  exact m_in_bad h (by omega) ⟨Or.inl rfl, hp⟩
theorem m_optionMany (hN : RelN v 0 ma) (hp : post (nI (2 * (v 12 0 + 1)))) : P_X12_optionMany ma post := by
  unfold P_X12_optionMany
  rw [show ma 8 0 = nI (v 12 0) from hN.1.2.2.2.1, nI_1, show (2 : Int32) = nI 2 from rfl, pk_mul]
  exact hp
theorem m_isO (hN : RelN v 0 ma) (hv : okV v) (h : j < 2 * (v 12 0 + 1)) (hp : post 1) : P_X12_isOption ma (nI j) post := by
  have := ok12 hv
  exact m_optionMany hN (m_in_ok h (by omega) ⟨Or.inr rfl, hp⟩)
theorem m_isO0 (hN : RelN v 0 ma) (hv : okV v) (h : p < 0 ∨ nI (2 * (v 12 0 + 1)) ≤ p) (hp : post 0) : P_X12_isOption ma p post := by
  have := ok12 hv
  exact m_optionMany hN (m_in_bad h (by omega) ⟨Or.inl rfl, hp⟩)
theorem m_inS (hN : RelN v 0 ma) (hv : okV v) (h : j < 2 ^ v 13 0) (hp : post 1) : P_X12_in (nI j).toInt64 0 ((((1 : Int32) <<< ((ma 10 0) &&& 31)) - 1).toInt64) post := by
  have h13 := ok13 hv
  have hn := pow13 h13
  rw [show ma 10 0 = nI (v 13 0) from hN.1.2.2.2.2, sh1 (by omega)]
  exact m_in_ok h (by omega) hp
theorem m_inS0 (hN : RelN v 0 ma) (hv : okV v) (h : p < 0 ∨ nI (2 ^ v 13 0) ≤ p) (hp : post 0) : P_X12_in p.toInt64 0 ((((1 : Int32) <<< ((ma 10 0) &&& 31)) - 1).toInt64) post := by
  have h13 := ok13 hv
  have hn := pow13 h13
  rw [show ma 10 0 = nI (v 13 0) from hN.1.2.2.2.2, sh1 (by omega)]
  exact m_in_bad h (by omega) hp
end HAS
/-- a number is out of 0 .. n less 1, or in -/
theorem ixs (p : Int32) {n : Nat} (hn : n < 2 ^ 31) : (p < 0 ∨ nI n ≤ p) ∨ ∃ j, j < n ∧ p = nI j := by
  rcases pk_ix p hn with h | h | h
  · exact Or.inl (Or.inl h)
  · exact Or.inl (Or.inr h)
  · exact Or.inr h
theorem b1f {A B : Prop} (h : B) : ((1 : Int32) = 0 → A) ∧ ((¬ (1 : Int32) = 0) → B) := ⟨fun c => absurd c (by decide), fun _ => h⟩
theorem b1t {A B : Prop} (h : A) : ((¬ (1 : Int32) = 0) → A) ∧ ((1 : Int32) = 0 → B) := ⟨fun _ => h, fun c => absurd c (by decide)⟩
theorem b0f {A B : Prop} (h : A) : ((0 : Int32) = 0 → A) ∧ ((¬ (0 : Int32) = 0) → B) := ⟨fun _ => h, fun c => absurd rfl c⟩
theorem b0t {A B : Prop} (h : B) : ((¬ (0 : Int32) = 0) → A) ∧ ((0 : Int32) = 0 → B) := ⟨fun c => absurd rfl c, fun _ => h⟩
/-- the marks of the bikes are copied one by one -/
theorem c_cpMarks {ec : Int32} {ew es ep el em : Nat → Int32} (hm : ∀ i, i < 10 → em i = 0 ∨ em i = 1) {ac : Int32} {aw as_ ap al am : Nat → Int32} {post : Int32 → (Nat → Int32) → (Nat → Int32) → (Nat → Int32) → (Nat → Int32) → (Nat → Int32) → Prop} (h : ∀ mr : Nat → Int32, (∀ i, i < 10 → mr i = em i) → post ac aw as_ ap al mr) : ∃ n : Nat, P_X0_copyFrom_82 ec ew es ep el em post ac aw as_ ap al n 0 am := by
  have L : ∀ (d i : Nat) (mr : Nat → Int32), i + d = 10 → (∀ c, c < i → mr c = em c) → P_X0_copyFrom_82 ec ew es ep el em post ac aw as_ ap al (d + 1) (nI i) mr := by
    intro d
    induction d with
    | zero =>
      intro i mr hi r1
      obtain rfl : i = 10 := by omega
      exact ⟨fun _ => h mr r1, fun c => absurd (show (10 : Int32) ≤ nI 10 by decide) c⟩
    | succ d ih =>
      intro i mr hi r1
      have hlt : ¬ (10 : Int32) ≤ nI i := fun c => absurd ((nI_leI (a := 10) (b := i) (by decide) (by omega)).mp c) (by omega)
      refine ⟨fun c => absurd c hlt, fun _ => ⟨vp_in_nI (by omega) (by decide), vp_in_nI (by omega) (by decide), ?_⟩⟩
      rw [nI_1, nI_clamp (by omega)]
      refine ⟨hm i (by omega), ih (i + 1) _ (by omega) (fun c hc => ?_)⟩
      by_cases e : c = i
      · rw [e, u_at]
      · rw [u_ne e]; exact r1 c (by omega)
  exact ⟨11, L 10 0 am rfl (fun c hc => absurd hc (Nat.not_lt_zero _))⟩
/-- a copy of a rail -/
theorem c_copyFrom {v : Rl} {rs : A1} {ra : A2} (hR : RelC v rs ra) (hv : okV v) {rs2 : A1} {ra2 : A2} {post : A1 → A2 → Prop} (h : ∀ (rs' : A1) (ra' : A2), RelC v rs' ra' → BOK ra' → (∀ j, j < 16 → rs' j = rs j) → post rs' ra') : P_X4_copyFrom rs2 ra2 rs ra post := by
  have hb : ∀ j, j < 16 → v j 0 ≤ 1 → rs j = 0 ∨ rs j = 1 := fun j hj hle => by
    rw [hR.1 j hj]
    rcases Nat.lt_or_ge (v j 0) 1 with c | c
    · rw [show v j 0 = 0 by omega]; exact Or.inl rfl
    · rw [show v j 0 = 1 by omega]; exact Or.inr rfl
  have h13 := ok13 hv
  have h14 := ok14 hv
  have h12 := ok12 hv
  have h11 := ok11 hv
  obtain ⟨r0, r1, r2, r3, r4, r5, r6, r7⟩ := hR
  intro x1 e1 x2 e2 x3 e3
  refine c_cpMarks r7 (fun mr hmr => ?_)
  intro x22 e22
  refine ⟨by rw [e22]; exact hb 3 (by decide) hv.1.2.2.2.1, ?_⟩
  intro x23 e23 x24 e24 x25 e25
  refine ⟨by rw [e25]; exact hb 6 (by decide) (ok6 hv), ?_⟩
  intro x26 e26
  refine ⟨by rw [e26]; exact hb 7 (by decide) (ok7 hv), ?_⟩
  intro x27 e27 x28 e28 x29 e29
  refine ⟨by rw [e29]; exact hb 10 (by decide) (ok10 hv), hb 15 (by decide) (ok15 hv), ?_⟩
  subst e1 e2 e3 e22 e23 e24 e25 e26 e27 e28 e29
  have ers : ∀ j, j < 16 → (va_up (va_up (va_up (va_up (va_up (va_up (va_up (va_up (va_up (va_up (va_up (va_up (va_up (va_up (va_up (va_up rs2 0 (rs 0)) 1 (rs 1)) 2 (rs 2)) 3 (rs 3)) 4 (rs 4)) 5 (rs 5)) 6 (rs 6)) 7 (rs 7)) 8 (rs 8)) 9 (rs 9)) 10 (rs 10)) 11 (rs 11)) 12 (rs 12)) 13 (rs 13)) 14 (rs 14)) 15 (rs 15)) j = rs j := by
    intro j hj
    have : j = 0 ∨ j = 1 ∨ j = 2 ∨ j = 3 ∨ j = 4 ∨ j = 5 ∨ j = 6 ∨ j = 7 ∨ j = 8 ∨ j = 9 ∨ j = 10 ∨ j = 11 ∨ j = 12 ∨ j = 13 ∨ j = 14 ∨ j = 15 := by omega
    rcases this with rfl | rfl | rfl | rfl | rfl | rfl | rfl | rfl | rfl | rfl | rfl | rfl | rfl | rfl | rfl | rfl <;> simp [va_up]
  have cp : ∀ (f g : Nat → Int32) (n k : Nat), k < n → va_cpy f g 0 0 n k = f k := fun f g n k hk => by rw [pk_cpy_in (Nat.zero_le _) (by omega)]; congr 1; omega
  refine h _ _ ⟨fun j hj => (ers j hj).trans (r0 j hj), fun k hk => ?_, fun k hk => ?_, fun k hk => ?_, fun b hb => ?_, fun t ht => ?_, fun hy => ⟨fun b hb => ?_, fun t ht => ?_⟩, fun b hb => ?_⟩ (fun b hb => ?_) ers
  all_goals simp only [va_up]
  all_goals simp only [Nat.reduceEqDiff, if_false, if_true]
  · rw [cp _ _ _ _ (by omega), cp _ _ _ _ (by omega)]; exact r1 k hk
  · rw [cp _ _ _ _ (by omega)]; exact r2 k hk
  · rw [cp _ _ _ _ (by omega)]; exact r3 k hk
  · rw [cp _ _ _ _ (by omega), cp _ _ _ _ (by omega), cp _ _ _ _ (by omega), cp _ _ _ _ (by omega), hmr b (by omega)]; exact r4 b hb
  · rw [cp _ _ _ _ (by omega), cp _ _ _ _ (by omega), cp _ _ _ _ (by omega), cp _ _ _ _ (by omega), cp _ _ _ _ (by omega)]; exact r5 t ht
  · rw [cp _ _ _ _ hb]; exact (r6 hy).1 b hb
  · rw [cp _ _ _ _ ht]; exact (r6 hy).2 t ht
  · rw [hmr b hb]; exact r7 b hb
  · rw [hmr b hb]; exact r7 b hb
theorem RelC.bok {v : Rl} {rs : A1} {ra : A2} (h : RelC v rs ra) : BOK ra := h.2.2.2.2.2.2.2
/-! a bike's option -/
def vo (v : Rl) (b o : Nat) : Rl := fun f k => if f = 23 ∧ k = b then o / 2 else if f = 24 ∧ k = b then o % 2 else v f k
def opt (v : Rl) (b : Nat) : Nat := 2 * v 23 b + v 24 b
theorem vo_f {v : Rl} {b o f : Nat} (h1 : f ≠ 23) (h2 : f ≠ 24) : vo v b o f = v f := by
  funext k
  unfold vo
  rw [if_neg (by omega), if_neg (by omega)]
theorem vo_23 (v : Rl) (b o k : Nat) : vo v b o 23 k = if k = b then o / 2 else v 23 k := by
  unfold vo
  by_cases c : k = b
  · simp [c]
  · simp [c]
theorem vo_24 (v : Rl) (b o k : Nat) : vo v b o 24 k = if k = b then o % 2 else v 24 k := by
  unfold vo
  by_cases c : k = b
  · simp [c]
  · simp [c]
theorem vo_vo (v : Rl) (b o o' : Nat) : vo (vo v b o) b o' = vo v b o' := by
  funext f k
  unfold vo
  by_cases c1 : f = 23 ∧ k = b
  · rw [if_pos c1, if_pos c1]
  · rw [if_neg c1, if_neg c1, if_neg c1]
    by_cases c2 : f = 24 ∧ k = b
    · rw [if_pos c2, if_pos c2]
    · rw [if_neg c2, if_neg c2, if_neg c2]
theorem vo_opt {v : Rl} {b : Nat} (h : v 24 b ≤ 1) : vo v b (opt v b) = v := by
  funext f k
  unfold vo opt
  by_cases c1 : f = 23 ∧ k = b
  · rw [if_pos c1, c1.1, c1.2]; omega
  · rw [if_neg c1]
    by_cases c2 : f = 24 ∧ k = b
    · rw [if_pos c2, c2.1, c2.2]; omega
    · rw [if_neg c2]
theorem opt_vo (v : Rl) (b o : Nat) : opt (vo v b o) b = o := by
  unfold opt
  rw [vo_23, vo_24, if_pos rfl, if_pos rfl]
  omega
theorem opt_lt {v : Rl} (hv : okV v) {b : Nat} (hb : b < v 13 0) : opt v b < 2 * (v 12 0 + 1) := by
  obtain ⟨-, -, -, b23, b24⟩ := hv.2.2.2.2.1 b hb
  unfold opt
  omega
theorem okV.vo {v : Rl} (hv : okV v) {b o : Nat} (ho : o < 2 * (v 12 0 + 1)) : okV (vo v b o) := by
  obtain ⟨h0, h1, h2, h3, h4, h5, h6⟩ := hv
  unfold okV
  simp only [vo_f (v := v) (b := b) (o := o) (f := 0) (by decide) (by decide), vo_f (v := v) (b := b) (o := o) (f := 1) (by decide) (by decide), vo_f (v := v) (b := b) (o := o) (f := 2) (by decide) (by decide), vo_f (v := v) (b := b) (o := o) (f := 3) (by decide) (by decide), vo_f (v := v) (b := b) (o := o) (f := 4) (by decide) (by decide), vo_f (v := v) (b := b) (o := o) (f := 5) (by decide) (by decide), vo_f (v := v) (b := b) (o := o) (f := 6) (by decide) (by decide), vo_f (v := v) (b := b) (o := o) (f := 7) (by decide) (by decide), vo_f (v := v) (b := b) (o := o) (f := 8) (by decide) (by decide), vo_f (v := v) (b := b) (o := o) (f := 9) (by decide) (by decide), vo_f (v := v) (b := b) (o := o) (f := 10) (by decide) (by decide), vo_f (v := v) (b := b) (o := o) (f := 11) (by decide) (by decide), vo_f (v := v) (b := b) (o := o) (f := 12) (by decide) (by decide), vo_f (v := v) (b := b) (o := o) (f := 13) (by decide) (by decide), vo_f (v := v) (b := b) (o := o) (f := 14) (by decide) (by decide), vo_f (v := v) (b := b) (o := o) (f := 15) (by decide) (by decide), vo_f (v := v) (b := b) (o := o) (f := 16) (by decide) (by decide), vo_f (v := v) (b := b) (o := o) (f := 17) (by decide) (by decide), vo_f (v := v) (b := b) (o := o) (f := 18) (by decide) (by decide), vo_f (v := v) (b := b) (o := o) (f := 19) (by decide) (by decide), vo_f (v := v) (b := b) (o := o) (f := 20) (by decide) (by decide), vo_f (v := v) (b := b) (o := o) (f := 21) (by decide) (by decide), vo_f (v := v) (b := b) (o := o) (f := 22) (by decide) (by decide), vo_f (v := v) (b := b) (o := o) (f := 25) (by decide) (by decide), vo_f (v := v) (b := b) (o := o) (f := 26) (by decide) (by decide), vo_f (v := v) (b := b) (o := o) (f := 27) (by decide) (by decide), vo_f (v := v) (b := b) (o := o) (f := 28) (by decide) (by decide), vo_f (v := v) (b := b) (o := o) (f := 29) (by decide) (by decide)]
  refine ⟨h0, h1, h2, h3, fun k hk => ?_, h5, h6⟩
  obtain ⟨a, b', c, d, e⟩ := h4 k hk
  rw [vo_23, vo_24]
  refine ⟨a, b', c, ?_, ?_⟩ <;> split <;> omega
theorem okR.vo {v : Rl} (hv : okR v) {b o : Nat} (ho : o < 2 * (v 12 0 + 1)) : okR (vo v b o) := by
  refine ⟨hv.1.vo ho, fun t ht => ?_, fun h => ?_⟩
  · rw [vo_f (by decide) (by decide), vo_f (by decide) (by decide)]
    rw [vo_f (by decide) (by decide)] at ht
    exact hv.2.1 t ht
  · rw [vo_f (by decide) (by decide)] at h ⊢
    exact hv.2.2 h
end
