/-! a line without a fault keeps what a rail keeps to, and goes on -/
section OKL
variable {f : Nat → Int32} {n : Nat} {p q : PS} {v : Rl}
theorem rN_in {lo hi : Nat} (h : (rN f n lo hi p).2.1 = 0) : lo ≤ (rN f n lo hi p).1 ∧ (rN f n lo hi p).1 < hi := by
  have h0 := rN_0 h
  unfold rN at h ⊢
  rw [if_pos h0] at h ⊢
  by_cases k : kd f n p.2.2 = 2
  · rw [if_pos k] at h ⊢
    by_cases q : lo ≤ vlT f n p.2.2 ∧ vlT f n p.2.2 < hi
    · rw [if_pos q]
      exact q
    · rw [if_neg q] at h
      exact absurd (show (2 : Nat) = 0 from h) (by decide)
  · rw [if_neg k] at h
    exact absurd (show (1 : Nat) = 0 from h) (by decide)
theorem hd_ok {b : Bool} {c : Nat} (hc : c ≠ 0) (h : (hd f n b c p).1 = 0) : b = true := by
  cases b with
  | true => rfl
  | false =>
    exfalso
    have h' : (rF c p).1 = 0 := h
    have h0 := rF_0 h'
    exact rF_1 hc h0 h'
theorem lRail_in (h : (lRail f n p).2.2.1 = 0) : p.1 = 0 ∧ (1 ≤ (lRail f n p).1 ∧ (lRail f n p).1 < 21) ∧ (1 ≤ (lRail f n p).2.1 ∧ (lRail f n p).2.1 < 61) := by
  unfold lRail at h ⊢
  dsimp only at h ⊢
  exact ⟨rW_0 (rW_0 (rN_0 (rW_0 (rN_0 h)))), rN_in (rW_0 (rN_0 h)), rN_in h⟩
theorem lLamp_in (h : (lLamp f n v p).2.2.1 = 0) : p.1 = 0 ∧ (lLamp f n v p).1 < v 0 0 ∧ (lLamp f n v p).2.1 < 100 := by
  unfold lLamp at h ⊢
  dsimp only at h ⊢
  exact ⟨rW_0 (rN_0 (rW_0 (rN_0 h))), (rN_in (rW_0 (rN_0 h))).2, (rN_in h).2⟩
theorem lLock_in (h : (lLock f n p).2.2.2.2.1 = 0) : p.1 = 0 ∧ (lLock f n p).1 < 1000 ∧ (lLock f n p).2.1 < 1000 ∧ (lLock f n p).2.2.1 < 1000 ∧ (lLock f n p).2.2.2.1 < 1000 := by
  unfold lLock at h ⊢
  dsimp only at h ⊢
  exact ⟨rW_0 (rN_0 (rW_0 (rN_0 (rN_0 (rN_0 h))))), (rN_in (rW_0 (rN_0 (rN_0 (rN_0 h))))).2, (rN_in (rN_0 (rN_0 h))).2, (rN_in (rN_0 h)).2, (rN_in h).2⟩
theorem lMark_in (h : (lMark f n p).2.2.2.1 = 0) : p.1 = 0 ∧ (lMark f n p).1 < 1000 ∧ (lMark f n p).2.1 < 101 ∧ (lMark f n p).2.2.1 ≤ 1 := by
  unfold lMark at h ⊢
  dsimp only at h ⊢
  exact ⟨rW_0 (rN_0 (rW_0 (rN_0 (rI_0 h)))), (rN_in (rW_0 (rN_0 (rI_0 h)))).2, (rN_in (rI_0 h)).2, rI_le⟩
theorem lWatch_in (h : (lWatch f n p).2.2.1 = 0) : p.1 = 0 ∧ (lWatch f n p).1 < 1000 ∧ (lWatch f n p).2.1 < 100 := by
  unfold lWatch at h ⊢
  dsimp only at h ⊢
  exact ⟨rW_0 (rN_0 (rW_0 (rN_0 h))), (rN_in (rW_0 (rN_0 h))).2, (rN_in h).2⟩
theorem lB1_in (h : (lB1 f n p).2.2.1 = 0) : p.1 = 0 ∧ (lB1 f n p).1 < 10000 ∧ (lB1 f n p).2.1 < 10000 := by
  unfold lB1 at h ⊢
  dsimp only at h ⊢
  exact ⟨rW_0 (rN_0 (rW_0 (rN_0 (rW_0 h)))), (rN_in (rW_0 (rN_0 (rW_0 h)))).2, (rN_in (rW_0 h)).2⟩
theorem lB2_0 (h : (lB2 f n v p).1 = 0) : p.1 = 0 := by
  unfold lB2 at h
  split at h
  · exact rF_0 h
  · exact h
theorem lBk_in (h : (lBk f n v p).2.1 = 0) : p.1 = 0 ∧ (lBk f n v p).1 ≤ v 12 0 := by
  unfold lBk at h ⊢
  by_cases c : (rI f n [108, 111, 99, 107] p).1 = 0
  · rw [if_pos c] at h ⊢
    exact ⟨rI_0 h, Nat.zero_le _⟩
  · rw [if_neg c] at h ⊢
    exact ⟨rI_0 (rN_0 h), (rN_in h).2⟩
theorem lT1_in (h : (lT1 f n p).2.2.2.1 = 0) : p.1 = 0 ∧ (lT1 f n p).1 < 3 ∧ (lT1 f n p).2.1 < 101 ∧ (lT1 f n p).2.2.1 < 100 := by
  unfold lT1 at h ⊢
  dsimp only at h ⊢
  exact ⟨rW_0 (rN_0 (rW_0 (rN_0 (rW_0 (rN_0 h))))), (rN_in (rW_0 (rN_0 (rW_0 (rN_0 h))))).2, (rN_in (rW_0 (rN_0 h))).2, (rN_in h).2⟩
theorem lTk_in (h : (lTk f n v p).2.2.1 = 0) : p.1 = 0 ∧ (lTk f n v p).1 ≤ 2 ∧ (lTk f n v p).2.1 ≤ v 13 0 := by
  unfold lTk at h ⊢
  by_cases c : (rI f n [98, 101, 115, 116] p).1 = 0
  · rw [if_pos c] at h ⊢
    by_cases d : (rI f n [97, 110, 121] (rI f n [98, 101, 115, 116] p).2).1 = 0
    · rw [if_pos d] at h ⊢
      exact ⟨rI_0 (rI_0 (rW_0 (rN_0 h))), Nat.le_refl 2, (rN_in h).2⟩
    · rw [if_neg d] at h ⊢
      exact ⟨rI_0 (rI_0 h), (by decide : (1 : Nat) ≤ 2), Nat.zero_le _⟩
  · rw [if_neg c] at h ⊢
    exact ⟨rI_0 h, Nat.zero_le _, Nat.zero_le _⟩
theorem okV.aLine (hv : okV v) (h2 : v 2 0 < 1600) (h0 : 0 < v 0 0) : okV (aLine v) := by
  obtain ⟨⟨s0, s1, s2, s3, s4, s5, s6, s7, s8, s9, s10, s11, s12, s13, s14, s15, s16⟩, h1, hr⟩ := hv
  refine ⟨⟨s0, s1, ?_, s3, s4, s5, s6, s7, s8, s9, s10, s11, s12, s13, s14, s15, ?_⟩, h1, hr⟩
  · show v 2 0 + 1 ≤ 1600
    omega
  · show v 2 0 + 1 = 0 ↔ v 0 0 = 0
    omega
theorem okV.aLamp (hv : okV v) {a b : Nat} (h11 : v 11 0 < 5) (ha : a < 20) (hb : b ≤ 99) : okV (aLamp v a b) := by
  obtain ⟨⟨s0, s1, s2, s3, s4, s5, s6, s7, s8, s9, s10, s11, s12, s13, s14, s15, s16⟩, h1, hr⟩ := hv
  refine ⟨⟨s0, s1, s2, s3, s4, s5, s6, s7, s8, s9, s10, ?_, s12, s13, s14, s15, s16⟩, fun k hk => ?_, hr⟩
  · show v 11 0 + 1 ≤ 5
    omega
  · have hk' : k < v 11 0 + 1 := hk
    show (if k = v 11 0 then a else v 16 k) < 20 ∧ (if k = v 11 0 then b else v 17 k) ≤ 99
    by_cases c : k = v 11 0
    · rw [if_pos c, if_pos c]; exact ⟨ha, hb⟩
    · rw [if_neg c, if_neg c]; exact h1 k (by omega)
theorem okV.aLock (hv : okV v) {a b c d : Nat} (h12 : v 12 0 < 5) (ha : a ≤ 999) (hb : b ≤ 999) (hc : c ≤ 999) (hd : d ≤ 999) : okV (aLock v a b c d) := by
  obtain ⟨⟨s0, s1, s2, s3, s4, s5, s6, s7, s8, s9, s10, s11, s12, s13, s14, s15, s16⟩, h1, h2, h3, h4, h5⟩ := hv
  refine ⟨⟨s0, s1, s2, s3, s4, s5, s6, s7, s8, s9, s10, s11, ?_, s13, s14, s15, s16⟩, h1, fun k hk => ?_, fun k hk => ?_, fun k hk => ?_, h5⟩
  · show v 12 0 + 1 ≤ 5
    omega
  · have hk' : k < v 12 0 + 1 := hk
    show (if k = v 12 0 then a else v 18 k) ≤ 999
    by_cases c : k = v 12 0
    · rw [if_pos c]; exact ha
    · rw [if_neg c]; exact h2 k (by omega)
  · have hk' : k < 3 * (v 12 0 + 1) := hk
    show (if k = 3 * v 12 0 then b else if k = 3 * v 12 0 + 1 then c else if k = 3 * v 12 0 + 2 then d else v 19 k) ≤ 999
    by_cases c0 : k = 3 * v 12 0
    · rw [if_pos c0]; exact hb
    · rw [if_neg c0]
      by_cases c1 : k = 3 * v 12 0 + 1
      · rw [if_pos c1]; exact hc
      · rw [if_neg c1]
        by_cases c2 : k = 3 * v 12 0 + 2
        · rw [if_pos c2]; exact hd
        · rw [if_neg c2]; exact h3 k (by omega)
  · obtain ⟨e1, e2, e3, e4, e5⟩ := h4 k hk
    exact ⟨e1, e2, e3, Nat.le_succ_of_le e4, e5⟩
theorem okV.aBike (hv : okV v) {a b c d e : Nat} (h13 : v 13 0 < 10) (ha : a ≤ 9999) (hb : b ≤ 9999) (hc : c < 20) (hd : d ≤ v 12 0) (he : e ≤ 1) : okV (aBike v a b c d e) := by
  obtain ⟨⟨s0, s1, s2, s3, s4, s5, s6, s7, s8, s9, s10, s11, s12, s13, s14, s15, s16⟩, h1, h2, h3, h4, h5⟩ := hv
  refine ⟨⟨s0, s1, s2, s3, s4, s5, s6, s7, s8, s9, s10, s11, s12, ?_, s14, s15, s16⟩, h1, h2, h3, fun k hk => ?_, h5⟩
  · show v 13 0 + 1 ≤ 10
    omega
  · have hk' : k < v 13 0 + 1 := hk
    show (if k = v 13 0 then a else v 20 k) ≤ 9999 ∧ (if k = v 13 0 then b else v 21 k) ≤ 9999 ∧ (if k = v 13 0 then c else v 22 k) < 20 ∧ (if k = v 13 0 then d else v 23 k) ≤ v 12 0 ∧ (if k = v 13 0 then e else v 24 k) ≤ 1
    by_cases c : k = v 13 0
    · rw [if_pos c, if_pos c, if_pos c, if_pos c, if_pos c]; exact ⟨ha, hb, hc, hd, he⟩
    · rw [if_neg c, if_neg c, if_neg c, if_neg c, if_neg c]; exact h4 k (by omega)
theorem okV.aThief (hv : okV v) {a b c d e : Nat} (h14 : v 14 0 < 6) (ha : a ≤ 2) (hb : b ≤ 100) (hc : c ≤ 99) (hd : d ≤ 2) (he : e ≤ 10) : okV (aThief v a b c d e) := by
  obtain ⟨⟨s0, s1, s2, s3, s4, s5, s6, s7, s8, s9, s10, s11, s12, s13, s14, s15, s16⟩, h1, h2, h3, h4, h5, h6⟩ := hv
  refine ⟨⟨s0, s1, s2, s3, s4, s5, s6, s7, s8, s9, s10, s11, s12, s13, ?_, s15, s16⟩, h1, h2, h3, h4, fun k hk => ?_, h6⟩
  · show v 14 0 + 1 ≤ 6
    omega
  · have hk' : k < v 14 0 + 1 := hk
    show (if k = v 14 0 then a else v 25 k) ≤ 2 ∧ (if k = v 14 0 then b else v 26 k) ≤ 100 ∧ (if k = v 14 0 then c else v 27 k) ≤ 99 ∧ (if k = v 14 0 then d else v 28 k) ≤ 2 ∧ (if k = v 14 0 then e else v 29 k) ≤ 10
    by_cases c : k = v 14 0
    · rw [if_pos c, if_pos c, if_pos c, if_pos c, if_pos c]; exact ⟨ha, hb, hc, hd, he⟩
    · rw [if_neg c, if_neg c, if_neg c, if_neg c, if_neg c]; exact h5 k (by omega)
theorem okV.aMark (hv : okV v) {a b c : Nat} (ha : a ≤ 999) (hb : b ≤ 100) (hc : c ≤ 1) : okV (aMark v a b c) := by
  obtain ⟨⟨s0, s1, s2, s3, s4, s5, s6, s7, s8, s9, s10, s11, s12, s13, s14, s15, s16⟩, hr⟩ := hv
  exact ⟨⟨s0, s1, s2, Nat.le_refl 1, ha, hb, hc, s7, s8, s9, s10, s11, s12, s13, s14, s15, s16⟩, hr⟩
theorem okV.aWatch (hv : okV v) {a b : Nat} (ha : a ≤ 999) (hb : b ≤ 99) : okV (aWatch v a b) := by
  obtain ⟨⟨s0, s1, s2, s3, s4, s5, s6, s7, s8, s9, s10, s11, s12, s13, s14, s15, s16⟩, hr⟩ := hv
  exact ⟨⟨s0, s1, s2, s3, s4, s5, s6, Nat.le_refl 1, ha, hb, s10, s11, s12, s13, s14, s15, s16⟩, hr⟩
/-- rails that are read keep to this -/
def okL (v : Rl) : Prop := okR v ∧ v 11 0 ≤ 4
theorem okL.line {w : Rl} (hw : okV w) (hj : okJ w) (h2 : w 2 0 < 1600) (h0 : 0 < w 0 0) (hl : w 11 0 ≤ 4) : okL (aLine w) := by
  refine ⟨⟨hw.aLine h2 h0, hj, fun z => ?_⟩, hl⟩
  have z' : w 2 0 + 1 = 0 := z
  omega
theorem lLine_ok (hv : okL v) (h2 : v 2 0 < 1600) (h : (lLine f n v p).2.1 = 0) : okL (aLine (lLine f n v p).1) := by
  obtain ⟨⟨hV, hJ, hz3⟩, hl⟩ := hv
  have h0 := ok0 hV
  have h13 := ok13 hV
  have hzz := hV.1.2.2.2.2.2.2.2.2.2.2.2.2.2.2.2.2
  unfold lLine at h ⊢
  by_cases z : v 2 0 = 0
  · rw [if_pos z] at h ⊢
    obtain ⟨-, ⟨a1, a2⟩, b1, b2⟩ := lRail_in h
    obtain ⟨⟨s0, s1, s2, s3, s4, s5, s6, s7, s8, s9, s10, s11, s12, s13, s14, s15, s16⟩, hr⟩ := hV
    refine ⟨⟨⟨⟨?_, ?_, ?_, s3, s4, s5, s6, s7, s8, s9, s10, s11, s12, s13, s14, s15, ?_⟩, hr⟩, hJ, fun q => ?_⟩, hl⟩
    · show (lRail f n p).1 ≤ 20
      omega
    · show (lRail f n p).2.1 ≤ 60
      omega
    · show v 2 0 + 1 ≤ 1600
      omega
    · show v 2 0 + 1 = 0 ↔ (lRail f n p).1 = 0
      omega
    · have q' : v 2 0 + 1 = 0 := q
      omega
  rw [if_neg z] at h ⊢
  have hp0 : 0 < v 0 0 := by omega
  by_cases t : tokIs f n p.2.2 [108, 97, 109, 112]
  · rw [if_pos t] at h ⊢
    obtain ⟨a0, a1, a2⟩ := lLamp_in h
    have c := of_decide_eq_true (hd_ok (by decide) a0)
    exact okL.line (hV.aLamp (by omega) (by omega) (by omega)) hJ h2 hp0 (show v 11 0 + 1 ≤ 4 by omega)
  rw [if_neg t] at h ⊢
  by_cases t : tokIs f n p.2.2 [108, 111, 99, 107]
  · rw [if_pos t] at h ⊢
    obtain ⟨a0, a1, a2, a3, a4⟩ := lLock_in h
    have c := of_decide_eq_true (hd_ok (by decide) a0)
    exact okL.line (hV.aLock (by omega) (by omega) (by omega) (by omega) (by omega)) hJ h2 hp0 hl
  rw [if_neg t] at h ⊢
  by_cases t : tokIs f n p.2.2 [98, 105, 107, 101]
  · rw [if_pos t] at h ⊢
    dsimp only [bikeL] at h ⊢
    have q1 := rI_0 h
    obtain ⟨q2, q3⟩ := lBk_in q1
    have q4 := (rN_in q2).2
    obtain ⟨a0, a1, a2⟩ := lB1_in (lB2_0 (rN_0 q2))
    have c := of_decide_eq_true (hd_ok (by decide) a0)
    exact okL.line (hV.aBike (by omega) (by omega) (by omega) (by omega) q3 rI_le) (fun t ht => Nat.le_succ_of_le (hJ t ht)) h2 hp0 hl
  rw [if_neg t] at h ⊢
  by_cases t : tokIs f n p.2.2 [116, 104, 105, 101, 102]
  · rw [if_pos t] at h ⊢
    dsimp only [thiefL] at h ⊢
    obtain ⟨q1, q2, q3⟩ := lTk_in h
    obtain ⟨a0, a1, a2, a3⟩ := lT1_in q1
    have c := of_decide_eq_true (hd_ok (by decide) a0)
    refine okL.line (hV.aThief (by omega) (by omega) (by omega) (by omega) q2 (by omega)) (fun t ht => ?_) h2 hp0 hl
    have ht' : t < v 14 0 + 1 := ht
    show (if t = v 14 0 then _ else v 29 t) ≤ v 13 0
    by_cases c : t = v 14 0
    · rw [if_pos c]; exact q3
    · rw [if_neg c]; exact hJ t (by omega)
  rw [if_neg t] at h ⊢
  by_cases t : tokIs f n p.2.2 [109, 97, 114, 107]
  · rw [if_pos t] at h ⊢
    obtain ⟨a0, a1, a2, a3⟩ := lMark_in h
    exact okL.line (hV.aMark (by omega) (by omega) a3) hJ h2 hp0 hl
  rw [if_neg t] at h ⊢
  by_cases t : tokIs f n p.2.2 [119, 97, 116, 99, 104]
  · rw [if_pos t] at h ⊢
    obtain ⟨a0, a1, a2⟩ := lWatch_in h
    exact okL.line (hV.aWatch (by omega) (by omega)) hJ h2 hp0 hl
  rw [if_neg t] at h ⊢
  exact absurd h (rF_1 (by decide) (rF_0 h))
/-! it goes on -/
def Mo (n : Nat) (p q : PS) : Prop := p.2.2 ≤ n → p.2.2 ≤ q.2.2 ∧ q.2.2 ≤ n
theorem Mo.refl (p : PS) : Mo n p p := fun h => ⟨Nat.le_refl _, h⟩
theorem Mo.trans {r : PS} (h : Mo n p q) (g : Mo n q r) : Mo n p r := fun a => ⟨Nat.le_trans (h a).1 (g (h a).2).1, (g (h a).2).2⟩
theorem adv_ge (h : p.2.2 ≤ n) : p.2.2 + tl f n p.2.2 ≤ adv f n p.2.2 := (sk_le (tl_le h)).1
theorem Mo.adv : Mo n p (0, 0, adv f n p.2.2) := fun h => ⟨Nat.le_trans (Nat.le_add_right _ _) (adv_ge h), adv_le h⟩
theorem Mo.rF {c : Nat} : Mo n p (rF c p) := fun h => by
  unfold Jvm.Pilot.@@N@@.rF
  split
  · exact ⟨Nat.le_refl _, h⟩
  · exact ⟨Nat.le_refl _, h⟩
theorem Mo.rW {w : List Int32} : Mo n p (rW f n w p) := fun h => by
  unfold Jvm.Pilot.@@N@@.rW
  split
  · split
    · exact Mo.adv h
    · exact ⟨Nat.le_refl _, h⟩
  · exact ⟨Nat.le_refl _, h⟩
theorem Mo.rN {lo hi : Nat} : Mo n p (rN f n lo hi p).2 := fun h => by
  unfold Jvm.Pilot.@@N@@.rN
  split
  · split
    · split
      · exact Mo.adv h
      · exact ⟨Nat.le_refl _, h⟩
    · exact ⟨Nat.le_refl _, h⟩
  · exact ⟨Nat.le_refl _, h⟩
theorem Mo.rI {w : List Int32} : Mo n p (rI f n w p).2 := fun h => by
  unfold Jvm.Pilot.@@N@@.rI
  split
  · exact Mo.adv h
  · exact ⟨Nat.le_refl _, h⟩
theorem Mo.hd {b : Bool} {c : Nat} : Mo n p (hd f n b c p) := by
  unfold Jvm.Pilot.@@N@@.hd
  split
  · exact Mo.adv
  · exact Mo.rF
theorem Mo.lRail : Mo n p (lRail f n p).2.2 := by
  unfold Jvm.Pilot.@@N@@.lRail
  exact (((Mo.rW.trans Mo.rW).trans Mo.rN).trans Mo.rW).trans Mo.rN
theorem Mo.lLamp : Mo n p (lLamp f n v p).2.2 := by
  unfold Jvm.Pilot.@@N@@.lLamp
  exact ((Mo.rW.trans Mo.rN).trans Mo.rW).trans Mo.rN
theorem Mo.lLock : Mo n p (lLock f n p).2.2.2.2 := by
  unfold Jvm.Pilot.@@N@@.lLock
  exact ((((Mo.rW.trans Mo.rN).trans Mo.rW).trans Mo.rN).trans Mo.rN).trans Mo.rN
theorem Mo.lMark : Mo n p (lMark f n p).2.2.2 := by
  unfold Jvm.Pilot.@@N@@.lMark
  exact (((Mo.rW.trans Mo.rN).trans Mo.rW).trans Mo.rN).trans Mo.rI
theorem Mo.lWatch : Mo n p (lWatch f n p).2.2 := by
  unfold Jvm.Pilot.@@N@@.lWatch
  exact ((Mo.rW.trans Mo.rN).trans Mo.rW).trans Mo.rN
theorem Mo.lB1 : Mo n p (lB1 f n p).2.2 := by
  unfold Jvm.Pilot.@@N@@.lB1
  exact (((Mo.rW.trans Mo.rN).trans Mo.rW).trans Mo.rN).trans Mo.rW
theorem Mo.lB2 : Mo n p (lB2 f n v p) := by
  unfold Jvm.Pilot.@@N@@.lB2
  split
  · exact Mo.rF
  · exact Mo.refl _
theorem Mo.lBk : Mo n p (lBk f n v p).2 := by
  unfold Jvm.Pilot.@@N@@.lBk
  split
  · exact Mo.rI
  · exact Mo.rI.trans Mo.rN
theorem Mo.lT1 : Mo n p (lT1 f n p).2.2.2 := by
  unfold Jvm.Pilot.@@N@@.lT1
  exact ((((Mo.rW.trans Mo.rN).trans Mo.rW).trans Mo.rN).trans Mo.rW).trans Mo.rN
theorem Mo.lTk : Mo n p (lTk f n v p).2.2 := by
  unfold Jvm.Pilot.@@N@@.lTk
  split
  · split
    · exact ((Mo.rI.trans Mo.rI).trans Mo.rW).trans Mo.rN
    · exact Mo.rI.trans Mo.rI
  · exact Mo.rI
theorem Mo.lLine : Mo n p (lLine f n v p).2 := by
  unfold Jvm.Pilot.@@N@@.lLine
  split
  · exact Mo.lRail
  split
  · exact Mo.hd.trans Mo.lLamp
  split
  · exact Mo.hd.trans Mo.lLock
  split
  · dsimp only [bikeL]
    exact (((Mo.hd.trans Mo.lB1).trans Mo.lB2).trans Mo.rN).trans (Mo.lBk.trans Mo.rI)
  split
  · dsimp only [thiefL]
    exact (Mo.hd.trans Mo.lT1).trans Mo.lTk
  split
  · exact Mo.hd.trans Mo.lMark
  split
  · exact Mo.hd.trans Mo.lWatch
  exact Mo.rF
theorem rS_go (hq : q.2.2 ≤ n) (h : (rS f n q).1 = 0) : q.2.2 + 1 ≤ (rS f n q).2.2 ∧ (rS f n q).2.2 ≤ n := by
  have h0 := rS_0 h
  unfold rS at h ⊢
  rw [if_pos h0] at h ⊢
  by_cases k : kd f n q.2.2 = 3
  · rw [if_pos k]
    have := tl_pos (f := f) (n := n) (s := q.2.2) (by omega)
    have h1 := adv_ge (f := f) hq
    exact ⟨by show q.2.2 + 1 ≤ adv f n q.2.2; omega, adv_le hq⟩
  · rw [if_neg k] at h
    exact absurd (show (1 : Nat) = 0 from h) (by decide)
theorem line_go (hp : p.2.2 ≤ n) (h : (rS f n (lLine f n v p).2).1 = 0) : p.2.2 + 1 ≤ (rS f n (lLine f n v p).2).2.2 ∧ (rS f n (lLine f n v p).2).2.2 ≤ n := by
  have h1 := Mo.lLine (f := f) (v := v) hp
  have h2 := rS_go h1.2 h
  exact ⟨by omega, h2.2⟩
end OKL
