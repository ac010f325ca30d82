/-! the reference: its rows hold a rail -/
/-- row j: all but lamps and thieves -/
def RelN (v : Rl) (j : Nat) (ma : Nat → Nat → Int32) : Prop :=
  (ma 3 j = nI (v 2 0) ∧ ma 4 j = nI (v 0 0) ∧ ma 5 j = nI (v 1 0) ∧ ma 8 j = nI (v 12 0) ∧ ma 10 j = nI (v 13 0)) ∧
  (∀ k, k < v 12 0 → ma 9 (4 * (5 * j + k)) = nI (v 18 k)) ∧ (∀ k i, k < v 12 0 → i < 3 → ma 9 (4 * (5 * j + k) + 1 + i) = nI (v 19 (3 * k + i))) ∧
  (∀ b, b < v 13 0 → ma 11 (5 * (10 * j + b)) = nI (v 20 b) ∧ ma 11 (5 * (10 * j + b) + 1) = nI (v 21 b) ∧ ma 11 (5 * (10 * j + b) + 2) = nI (v 22 b) ∧ ma 11 (5 * (10 * j + b) + 3) = nI (v 23 b) - 1 ∧ ma 11 (5 * (10 * j + b) + 4) = nI (v 24 b)) ∧
  (ma 14 (7 * j) = nI (v 4 0) ∧ ma 14 (7 * j + 1) = nI (v 5 0) ∧ ma 14 (7 * j + 2) = nI (v 6 0) ∧ ma 14 (7 * j + 3) = nI (v 7 0) ∧ ma 14 (7 * j + 4) = nI (v 8 0) ∧ ma 14 (7 * j + 5) = nI (v 9 0) ∧ ma 14 (7 * j + 6) = nI (v 10 0))
/-- row j: thieves -/
def RelT (v : Rl) (j : Nat) (ma : Nat → Nat → Int32) : Prop := ma 12 j = nI (v 14 0) ∧ ∀ t, t < v 14 0 → ma 13 (5 * (6 * j + t)) = nI (v 25 t) ∧ ma 13 (5 * (6 * j + t) + 1) = nI (v 26 t) ∧ ma 13 (5 * (6 * j + t) + 2) = nI (v 27 t) ∧ ma 13 (5 * (6 * j + t) + 3) = nI (v 28 t) ∧ ma 13 (5 * (6 * j + t) + 4) = nI (v 29 t) - 1
/-- row j: lamps -/
def RelP (v : Rl) (j : Nat) (ma : Nat → Nat → Int32) : Prop := ma 6 j = nI (v 11 0) ∧ v 11 0 ≤ 4 ∧ ∀ k, k < v 11 0 → ma 7 (2 * (4 * j + k)) = nI (v 16 k) ∧ ma 7 (2 * (4 * j + k) + 1) = nI (v 17 k)
/-- row j: the year -/
def RelY (v : Rl) (j : Nat) (ma : Nat → Nat → Int32) : Prop := ma 16 (17 * j) = nI (v 15 0) ∧ (v 15 0 = 1 → (∀ b, b < 10 → ma 16 (17 * j + 1 + b) = nI (v 30 b)) ∧ ∀ t, t < 6 → ma 16 (17 * j + 11 + t) = nI (v 31 t))
/-- the light of row j, with the one lamp more -/
def LX (v : Rl) (j : Nat) (ms : Nat → Int32) (ma : Nat → Nat → Int32) : Prop := ∃ (la : Nat) (lp lb : Nat → Nat) (a b : Nat), ma 6 j = nI la ∧ la ≤ 4 ∧ (∀ k, k < la → ma 7 (2 * (4 * j + k)) = nI (lp k) ∧ ma 7 (2 * (4 * j + k) + 1) = nI (lb k) ∧ lp k < 20 ∧ lb k ≤ 99) ∧ ms 10 = nI a ∧ ms 11 = nI b ∧ a < 20 ∧ b ≤ 99 ∧ ∀ p, p < 20 → sumN (fun k => lb k - dist p (lp k)) la + (b - dist p a) = sumN (fun k => v 17 k - dist p (v 16 k)) (v 11 0)
theorem LX.of {v : Rl} (hv : okV v) {j : Nat} {ms : Nat → Int32} {ma : Nat → Nat → Int32} (h : RelP v j ma) (h10 : ms 10 = 0) (h11 : ms 11 = 0) : LX v j ms ma := by
  obtain ⟨h1, h2, h3⟩ := h
  refine ⟨v 11 0, v 16, v 17, 0, 0, h1, h2, fun k hk => ⟨(h3 k hk).1, (h3 k hk).2, hv.2.1 k hk⟩, h10, h11, by decide, by decide, fun p _ => by simp⟩
/-- what a call works on: row j's rail, with row 0's thieves -/
def RM (v : Rl) (j : Nat) (ms : Nat → Int32) (ma : Nat → Nat → Int32) : Prop := RelN v j ma ∧ RelT v 0 ma ∧ LX v j ms ma
theorem mk_lam {p : Nat} {ma : Nat → Nat → Int32} : True := trivial
theorem m_apart {a p : Nat} (ha : a < 2 ^ 30) (hp : p < 2 ^ 30) {post : Int32 → Prop} (h : post (nI (dist p a))) : P_X12_apart (nI a) (nI p) post := by
  unfold P_X12_apart
  rw [nI_leI (by omega) (by omega)]
  unfold dist at h
  refine ⟨fun c => ?_, fun c => ?_⟩
  · rw [pk_sub c]
    rw [show p - a + (a - p) = a - p by omega] at h
    exact h
  · rw [pk_sub (by omega)]
    rw [show p - a + (a - p) = p - a by omega] at h
    exact h
theorem m_above {a b : Nat} (ha : a < 2 ^ 30) (hb : b < 2 ^ 30) {post : Int32 → Prop} (h : post (nI (a - b))) : P_X12_above (nI a - nI b) post := by
  unfold P_X12_above
  have hp := nS_pos ha hb
  refine ⟨fun c => ?_, fun c => ?_⟩
  · have : ¬ b < a := fun q => absurd c (Int32.not_le.mpr (hp.mpr q))
    rw [show a - b = 0 by omega] at h
    exact h
  · have : b < a := hp.mp (Int32.not_le.mp c)
    rw [pk_sub (by omega)]
    exact h
theorem m_lightOf {v : Rl} (hv : okV v) {j : Nat} {ms : Nat → Int32} {ma : Nat → Nat → Int32} (hN : RelN v j ma) (hX : LX v j ms ma) (hj : j < 5) {p : Nat} (hp : p < 20) {post : Int32 → Prop} (h : post (nI (light v p))) : P_X12_lightOf ms ma (nI j) (nI p) post := by
  obtain ⟨la, lp, lb, a, b, x1, x2, x3, x4, x5, x6, x7, x8⟩ := hX
  obtain ⟨-, -, -, -, -, -, -, -, -, e9, e10⟩ := hN
  have h10 := ok10 hv
  have h9 := ok9 hv
  have hda := dist_lt hp x6
  have e56 : ∀ i, (7 : Int32) * nI j + nI i = nI (7 * j + i) := fun i => by rw [show (7 : Int32) = nI 7 from rfl, pk_mul, nI_add]
  have L : ∀ (base : Nat), base + sumN (fun k => v 17 k - dist p (v 16 k)) (v 11 0) = light v p → ∀ k i, i + k = la → P_X12_lightOf_35 ms ma (nI j) (nI p) post (fun (x3_ : Int32) => P_X12_lightOf_89 ms ma (nI j) (nI p) post x3_) (k + 1) (nI (base + sumN (fun k => lb k - dist p (lp k)) i)) (nI i) := by
    intro base hbase k
    induction k with
    | zero =>
      intro i hi
      obtain rfl : i = la := by omega
      refine ⟨vp_in_nI hj (by decide), ?_⟩
      rw [nI_clamp (by omega), x1]
      refine ⟨fun _ => ?_, fun c => absurd (nI_le (Nat.le_refl _) (by omega)) c⟩
      unfold P_X12_lightOf_89
      rw [x4, x5]
      refine m_apart (by omega) (by omega) (m_above (by omega) (by omega) ?_)
      rw [nI_add]
      have := x8 p hp
      rw [← hbase, ← this] at h
      rw [Nat.add_assoc]
      exact h
    | succ k ih =>
      intro i hi
      obtain ⟨y1, y2, y3, y4⟩ := x3 i (by omega)
      have hd := dist_lt hp y3
      refine ⟨vp_in_nI hj (by decide), ?_⟩
      rw [nI_clamp (by omega), x1]
      refine ⟨fun c => absurd ((nI_leI (by omega) (by omega)).mp c) (by omega), fun _ => ?_⟩
      rw [show (2 : Int32) * ((4 : Int32) * nI j + nI i) = nI (2 * (4 * j + i)) by simp only [fa_lit, pk_mul, nI_add]]
      intro y hy
      subst hy
      rw [nI_1]
      refine ⟨vp_in_nI (by omega) (by decide), vp_in_nI (by omega) (by decide), ?_⟩
      rw [nI_clamp (by omega), nI_clamp (by omega), y1, y2]
      refine m_apart (by omega) (by omega) (m_above (by omega) (by omega) (fun z hz => ?_))
      rw [nI_add] at hz
      rw [hz, nI_1]
      have := ih (i + 1) (by omega)
      rw [sumN, ← Nat.add_assoc] at this
      exact this
  unfold P_X12_lightOf
  rw [show (6 : Int32) = nI 6 from rfl, show (5 : Int32) = nI 5 from rfl, e56, e56, nI_clamp (by omega), nI_clamp (by omega), e10, e9]
  refine ⟨vp_in_nI (by omega) (by decide), fun c => ⟨la + 1, ?_⟩, fun c => ⟨vp_in_nI (by omega) (by decide), fun y hy => ⟨la + 1, ?_⟩⟩⟩
  · have z : v 10 0 = 0 := by
      have : v 10 0 ≠ 1 := fun q => c (by rw [q]; rfl)
      omega
    exact L 0 (by unfold light; rw [if_neg (by omega)]) la 0 (by omega)
  · have z : v 10 0 = 1 := (nI_eq (b := 1) (by omega) (by decide)).mp c
    rw [hy]
    exact L (v 9 0) (by unfold light; rw [if_pos z]) la 0 (by omega)
theorem ix5 (j b c : Nat) : (5 : Int32) * ((10 : Int32) * nI j + nI b) + nI c = nI (5 * (10 * j + b) + c) := by simp only [fa_lit, pk_mul, nI_add]
theorem ix50 (j b : Nat) : (5 : Int32) * ((10 : Int32) * nI j + nI b) = nI (5 * (10 * j + b)) := by simp only [fa_lit, pk_mul, nI_add]
theorem m_troubleOf {v : Rl} (hv : okV v) {j : Nat} {ms : Nat → Int32} {ma : Nat → Nat → Int32} (hM : RM v j ms ma) (hj : j < 5) {t b : Nat} (ht : t < v 14 0) (hb : b < v 13 0) {post : Int32 → Prop} (h : post (nI (trouble v t b))) : P_X12_troubleOf ms ma (nI t) (nI j) (nI b) post := by
  obtain ⟨hN, hT, hX⟩ := hM
  have h13 := ok13 hv
  have h14 := ok14 hv
  have h12 := ok12 hv
  obtain ⟨-, -, e22, e23, -⟩ := hN.2.2.2.1 b hb
  have eT := hT.2 t ht
  simp only [Nat.mul_zero, Nat.zero_add] at eT
  obtain ⟨e25, -, e27, -, -⟩ := eT
  obtain ⟨-, -, b22, b23, -⟩ := hv.2.2.2.2.1 b hb
  obtain ⟨b25, -, b27, -, -⟩ := hv.2.2.2.2.2.1 t ht
  have hl := light_le hv (v 22 b)
  show vp_in ((5 : Int32) * ((10 : Int32) * nI j + nI b) + 3) 250 ∧ _
  rw [show (5 : Int32) * ((10 : Int32) * nI j + nI b) + 3 = nI (5 * (10 * j + b) + 3) from ix5 j b 3, show (5 : Int32) * ((10 : Int32) * nI j + nI b) + 2 = nI (5 * (10 * j + b) + 2) from ix5 j b 2, nI_clamp (by omega), nI_clamp (by omega), e23, e22]
  refine ⟨vp_in_nI (by omega) (by decide), fun c => ⟨vp_in_nI (by omega) (by decide), ?_⟩, fun c => ?_⟩
  · have hp : 0 < v 23 b := Nat.pos_of_ne_zero fun q => c ((nI_m1 (by omega)).mpr q)
    rw [nI_pre hp, show (5 : Int32) * nI t = nI (5 * t) from pk_mul 5 t, nI_clamp (by omega), e25, show nI (5 * t) + 2 = nI (5 * t + 2) from nI_add _ 2, nI_clamp (by omega), e27]
    rw [show (4 : Int32) * ((5 : Int32) * nI j + nI (v 23 b - 1)) + 1 + nI (v 25 t) = nI (4 * (5 * j + (v 23 b - 1)) + 1 + v 25 t) by simp only [fa_lit, pk_mul, nI_add], nI_clamp (by omega), hN.2.2.1 _ _ (by omega) (by omega)]
    have hix : v 19 (3 * (v 23 b - 1) + v 25 t) ≤ 999 := hv.2.2.2.1 _ (by omega)
    have a1 : v 19 (3 * (v 23 b - 1) + v 25 t) * v 27 t ≤ 999 * 99 := Nat.mul_le_mul hix b27
    have a2 : v 19 (3 * (v 23 b - 1) + v 25 t) * v 27 t * (1 + light v (v 22 b)) ≤ 999 * 99 * 595 := Nat.mul_le_mul a1 (by omega)
    refine ⟨vp_in_nI (by omega) (by decide), vp_in_nI (by omega) (by decide), vp_in_nI (by omega) (by decide), vp_in_nI (by omega) (by decide), ?_⟩
    refine m_lightOf hv hN hX hj b22 (fun x hx => ?_)
    rw [nI_l (by omega), nI_l (by omega), show (1 : Int32) + nI (light v (v 22 b)) = nI (1 + light v (v 22 b)) from nI_add 1 _, nI_l (by omega), lN_mul, lN_mul] at hx
    rw [hx, show (100 : Int64) = lN 100 from rfl, pk_lDiv (by omega) (by decide) (by decide), lN_i]
    unfold trouble at h
    rw [if_neg (by omega)] at h
    exact h
  · have hz : v 23 b = 0 := (nI_m1 (by omega)).mp c
    unfold trouble at h
    rw [if_pos hz] at h
    exact h
theorem m_markedOn {v : Rl} (hv : okV v) {j : Nat} {ma : Nat → Nat → Int32} (hN : RelN v j ma) (hj : j < 5) {post : Int32 → Prop} (h : post (nI (nMarked v))) : P_X12_markedOn ma (nI j) post := by
  have h13 := ok13 hv
  obtain ⟨-, -, -, -, e13⟩ := hN.1
  have L : ∀ k i, i + k = v 13 0 → P_X12_markedOn_4 ma (nI j) post (k + 1) (nI (sumN (fun b => v 24 b) i)) (nI i) := by
    intro k
    induction k with
    | zero =>
      intro i hi
      obtain rfl : i = v 13 0 := by omega
      refine ⟨vp_in_nI hj (by decide), ?_⟩
      rw [nI_clamp (by omega), e13]
      exact ⟨fun _ => h, fun c => absurd (nI_le (Nat.le_refl _) (by omega)) c⟩
    | succ k ih =>
      intro i hi
      refine ⟨vp_in_nI hj (by decide), ?_⟩
      rw [nI_clamp (by omega), e13]
      refine ⟨fun c => absurd ((nI_leI (by omega) (by omega)).mp c) (by omega), fun _ => ?_⟩
      show vp_in ((5 : Int32) * ((10 : Int32) * nI j + nI i) + 4) 250 ∧ _
      rw [show (5 : Int32) * ((10 : Int32) * nI j + nI i) + 4 = nI (5 * (10 * j + i) + 4) from ix5 j i 4, nI_clamp (by omega), (hN.2.2.2.1 i (by omega)).2.2.2.2]
      refine ⟨vp_in_nI (by omega) (by decide), fun x hx => ?_⟩
      rw [hx, nI_add, nI_1]
      exact ih (i + 1) (by omega)
  exact ⟨v 13 0 + 1, L (v 13 0) 0 (by omega)⟩
theorem m_gainOf {v : Rl} (hv : okV v) {j : Nat} {ma : Nat → Nat → Int32} (hN : RelN v j ma) (hj : j < 5) {b : Nat} (hb : b < v 13 0) {post : Int32 → Prop} (h : post (nI (gain v b))) : P_X12_gainOf ma (nI j) (nI b) post := by
  have h13 := ok13 hv
  have h6 := ok6 hv
  have h5 := ok5 hv
  obtain ⟨-, e21, -, -, e24⟩ := hN.2.2.2.1 b hb
  obtain ⟨-, b21, -, -, b24⟩ := hv.2.2.2.2.1 b hb
  obtain ⟨-, e5, e6, -⟩ := hN.2.2.2.2
  have hm := nMarked_le hv
  show vp_in ((7 : Int32) * nI j + 1) 35 ∧ _
  rw [show (7 : Int32) * nI j + 1 = nI (7 * j + 1) by simp only [fa_lit, pk_mul, nI_add], show (7 : Int32) * nI j + 2 = nI (7 * j + 2) by simp only [fa_lit, pk_mul, nI_add], nI_clamp (by omega), nI_clamp (by omega), e5, e6]
  refine ⟨vp_in_nI (by omega) (by decide), fun x hx => ?_⟩
  subst hx
  rw [show (5 : Int32) * ((10 : Int32) * nI j + nI b) + 4 = nI (5 * (10 * j + b) + 4) from ix5 j b 4, show (5 : Int32) * ((10 : Int32) * nI j + nI b) + 1 = nI (5 * (10 * j + b) + 1) from ix5 j b 1, nI_clamp (by omega), nI_clamp (by omega), e24, e21]
  refine ⟨vp_in_nI (by omega) (by decide), fun c => ⟨vp_in_nI (by omega) (by decide), fun c2 => ⟨vp_in_nI (by omega) (by decide), ?_⟩, fun c2 => ⟨vp_in_nI (by omega) (by decide), ?_⟩⟩, fun c => ⟨vp_in_nI (by omega) (by decide), vp_in_nI hj (by decide), ?_⟩⟩
  · have z : v 6 0 ≠ 1 := fun q => c (by rw [q]; rfl)
    have z2 : v 24 b ≠ 1 := fun q => c2 (by rw [q]; rfl)
    unfold gain at h
    rw [if_neg z, if_neg z2] at h
    exact h
  · have z : v 6 0 ≠ 1 := fun q => c (by rw [q]; rfl)
    have z2 : v 24 b = 1 := (nI_eq (b := 1) (by omega) (by decide)).mp c2
    unfold gain at h
    rw [if_neg z, if_pos z2] at h
    rw [show (100 : Int32) = nI 100 from rfl, pk_sub h5, pk_mul, pk_div ?_ (by decide) (by decide)]
    · exact h
    · have : v 21 b * (100 - v 5 0) ≤ 9999 * 100 := Nat.mul_le_mul b21 (by omega)
      omega
  · have z : v 6 0 = 1 := (nI_eq (b := 1) (by omega) (by decide)).mp c
    have hk : v 5 0 * nMarked v ≤ 100 * v 13 0 := Nat.mul_le_mul h5 hm
    have hq : v 21 b * (100 * v 13 0 - v 5 0 * nMarked v) ≤ 9999 * 1000 := Nat.mul_le_mul b21 (by omega)
    unfold gain at h
    rw [if_pos z] at h
    refine m_markedOn hv hN hj ⟨vp_in_nI hj (by decide), ?_⟩
    rw [nI_clamp (by omega), hN.1.2.2.2.2, show (100 : Int32) * nI (v 13 0) = nI (100 * v 13 0) from pk_mul 100 _, pk_mul, pk_sub hk, nI_l (by omega), nI_l (by omega), nI_l (by omega), lN_mul, pk_lDiv (by omega) (by omega) (by omega), lN_i, show (0 : Int64) = lN 0 from rfl, lN_eq (by omega) (by decide)]
    exact ⟨by omega, h⟩
