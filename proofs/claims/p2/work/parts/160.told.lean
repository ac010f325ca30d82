/-! rows of numbers; a year that a row tells -/
theorem shL {x : Int64} {m : Nat} (hm : m < 7) : (x >>> ((nI m).toInt64 &&& 63)).toInt = x.toInt / ((2 ^ m : Nat) : Int) := by
  have hD : ∀ m, m < 7 → (((nI m).toInt64 &&& 63).toBitVec.smod 64).toNat = m := by decide +kernel
  have e : (x >>> ((nI m).toInt64 &&& 63)).toInt = x.toInt >>> m := by
    have := hD m hm
    conv => rhs; rw [← this]
    exact BitVec.toInt_sshiftRight ..
  rw [e, Int.shiftRight_eq_div_pow]
theorem div0 {a : Int} {N : Nat} (hN : 0 < N) : a / (N : Int) = 0 ↔ 0 ≤ a ∧ a < (N : Int) := by
  constructor
  · intro h
    have h1 := Int.mul_ediv_add_emod a (N : Int)
    rw [h, Int.mul_zero, Int.zero_add] at h1
    have h2 := Int.emod_nonneg a (show (N : Int) ≠ 0 by omega)
    have h3 := Int.emod_lt_of_pos a (show (0 : Int) < N by omega)
    omega
  · intro h
    exact Int.ediv_eq_zero_of_lt h.1 h.2
def cN (x : Int64) : Nat := x.toInt.toNat
theorem num_ok {x : Int64} {m : Nat} (hm : m < 7) : (x >>> ((nI m).toInt64 &&& 63)) = 0 ↔ cN x < 2 ^ m ∧ x = lN (cN x) := by
  have hp : 0 < 2 ^ m := Nat.two_pow_pos m
  have hl : 2 ^ m ≤ 2 ^ 6 := Nat.pow_le_pow_right (by decide) (by omega)
  have e : (x >>> ((nI m).toInt64 &&& 63)) = 0 ↔ (x >>> ((nI m).toInt64 &&& 63)).toInt = 0 := by
    rw [← Int64.toInt_inj]
    rfl
  rw [e, shL hm, div0 hp]
  unfold cN
  constructor
  · intro h
    refine ⟨by omega, ?_⟩
    apply Int64.toInt_inj.mp
    rw [pk_lT (by omega)]
    omega
  · rintro ⟨h1, h2⟩
    have : x.toInt = (x.toInt.toNat : Int) := by
      conv => lhs; rw [h2]
      rw [pk_lT (by omega)]
    omega
theorem num_in {x : Int64} {m : Nat} (hm : m < 7) {post : Int32 → Prop} (h : post (if cN x < 2 ^ m ∧ x = lN (cN x) then 1 else 0)) : P_X12_in x 0 (((1 : Int64) <<< ((nI m).toInt64 &&& 63)) - 1) post := by
  have hp : 0 < 2 ^ m := Nat.two_pow_pos m
  have hl : 2 ^ m ≤ 2 ^ 6 := Nat.pow_le_pow_right (by decide) (by omega)
  have hb : ∀ m, m < 7 → ((1 : Int64) <<< ((nI m).toInt64 &&& 63)) - 1 = lN (2 ^ m - 1) := by decide +kernel
  rw [hb m hm]
  by_cases c : cN x < 2 ^ m ∧ x = lN (cN x)
  · rw [if_pos c] at h
    have e : x.toInt = (cN x : Int) := by
      conv => lhs; rw [c.2]
      rw [pk_lT (by omega)]
    refine ⟨fun z => ?_, fun _ => ⟨fun z => ?_, fun _ => h⟩⟩
    · exfalso
      rw [Int64.lt_iff_toInt_lt, e, show (0 : Int64).toInt = 0 from rfl] at z
      omega
    · exfalso
      rw [Int64.lt_iff_toInt_lt, e, pk_lT (by omega)] at z
      omega
  · rw [if_neg c] at h
    refine ⟨fun _ => h, fun z1 => ⟨fun _ => h, fun z2 => absurd ?_ c⟩⟩
    rw [Int64.lt_iff_toInt_lt, show (0 : Int64).toInt = 0 from rfl] at z1
    rw [Int64.lt_iff_toInt_lt, pk_lT (by omega)] at z2
    unfold cN
    refine ⟨by omega, ?_⟩
    apply Int64.toInt_inj.mp
    rw [pk_lT (by omega)]
    omega
theorem num_bit {c t : Nat} (hc : c < 2 ^ 31) (ht : t < 7) : ((lN c >>> ((nI t).toInt64 &&& 63)) &&& 1) = 1 ↔ c.testBit t = true := by
  have e : lN c >>> ((nI t).toInt64 &&& 63) = lN (c / 2 ^ t) := by
    have : c / 2 ^ t ≤ c := Nat.div_le_self _ _
    apply Int64.toInt_inj.mp
    rw [shL ht, pk_lT (by omega), pk_lT (by omega)]
    rfl
  rw [e, show (1 : Int64) = lN 1 from rfl, andL, Nat.and_one_is_mod, lN_eq (by omega) (by decide), Nat.testBit_eq_decide_div_mod_eq]
  simp
section TL
variable {us : A1} {ua : A2} {rs : A1} {ra ra2 sa : A2} {sl : L2} {ns : A1} {na : A2} {nl : L2} {yt : Int32} {im : Img} {ms : A1} {ma : A2} {ml : L2}
theorem c_slot {k : Nat} (hk : k < 4) {post : Int32 → Prop} (h : post 1) : P_X6_isSlot (nI k) post := ⟨fun c => absurd c (nI_pos (by omega)), fun _ => ⟨fun c => absurd ((nI_leI (a := 4) (by decide) (by omega)).mp c) (by omega), fun _ => h⟩⟩
theorem c_slot0 {p : Int32} (hp : p < 0 ∨ nI 4 ≤ p) {post : Int32 → Prop} (h : post 0) : P_X6_isSlot p post := ⟨fun _ => h, fun c => ⟨fun _ => h, fun c2 => absurd (hp.resolve_left c) c2⟩⟩
theorem m_slot {k : Nat} (hk : k < 4) {post : Int32 → Prop} (h : post 1) : P_X12_isSlot (nI k) post := m_inL_ok (m := 3) (by omega) (by decide) ⟨Or.inr rfl, h⟩
theorem m_slot0 {p : Int32} (hp : p < 0 ∨ nI 4 ≤ p) {post : Int32 → Prop} (h : post 0) : P_X12_isSlot p post := m_inL_bad (m := 3) hp (by decide) ⟨Or.inl rfl, h⟩
theorem c_hasRow {k w : Nat} (hk : k < 4) (hw : w ≤ 4) (e : sa 1 k = nI w) {post : Int32 → Prop} (h0 : w = 0 → post 0) (h1 : w ≠ 0 → post 1) : P_X6_hasRow sa (nI k) post := by
  refine ⟨vp_in_nI hk (by decide), ?_⟩
  rw [nI_clamp (by omega), e, show (nI w ≤ (0 : Int32)) = (nI w ≤ nI 0) from rfl, nI_leI (show w < 2 ^ 31 by omega) (by decide)]
  exact ⟨fun c => h0 (by omega), fun c => h1 (by omega)⟩
def TC (sl : L2) (k : Nat) : Nat → Nat → Bool := fun i t => (cN (sl 0 (60 * k + i))).testBit t
def okT (v : Rl) (sl : L2) (k n : Nat) : Prop := ∀ i, i < n → cN (sl 0 (60 * k + i)) < 2 ^ v 14 0 ∧ sl 0 (60 * k + i) = lN (cN (sl 0 (60 * k + i)))
theorem c_tells {v : Rl} (h14 : v 14 0 ≤ 6) (h1 : v 1 0 ≤ 60) {k n : Nat} (hk : k < 4) (hn : n ≤ 60) (e : sa 0 k = nI n) {post : Int32 → Prop} (hy : n ≤ v 1 0 → okT v sl k n → post 1) (hno : ¬ (n ≤ v 1 0 ∧ okT v sl k n) → post 0) : P_X6_tellsNights sa sl (nI k) (nI (v 1 0)) (nI (v 14 0)) post := by
  refine ⟨vp_in_nI hk (by decide), ?_⟩
  rw [nI_clamp (by omega), e, nI_leI (by omega) (by omega)]
  refine ⟨fun c => ?_, fun c => hno (fun q => c q.1)⟩
  have L : ∀ (d i : Nat), i + d = n → (∀ j, j < i → cN (sl 0 (60 * k + j)) < 2 ^ v 14 0 ∧ sl 0 (60 * k + j) = lN (cN (sl 0 (60 * k + j)))) → P_X6_tellsNights_15 sa sl (nI k) (nI (v 1 0)) (nI (v 14 0)) post (d + 1) (nI i) := by
    intro d
    induction d with
    | zero =>
      intro i hi q
      obtain rfl : i = n := by omega
      refine ⟨vp_in_nI hk (by decide), ?_⟩
      rw [nI_clamp (by omega), e]
      exact ⟨fun _ => hy c q, fun z => absurd (nI_le (Nat.le_refl _) (by omega)) z⟩
    | succ d ih =>
      intro i hi q
      refine ⟨vp_in_nI hk (by decide), ?_⟩
      rw [nI_clamp (by omega), e]
      refine ⟨fun z => absurd ((nI_leI (by omega) (by omega)).mp z) (by omega), fun _ => ?_⟩
      unfold P_X6_numberAt
      rw [show nI k * (60 : Int32) + nI i = nI (60 * k + i) by rw [Nat.mul_comm]; simp only [fa_lit, pk_mul, nI_add], nI_clamp (by omega)]
      refine ⟨vp_in_nI (by omega) (by decide), ?_⟩
      simp only []
      rw [num_ok (m := v 14 0) (by omega), nI_1]
      refine ⟨fun z => ih (i + 1) (by omega) (fun j hj => ?_), fun z => hno (fun w => z (w.2 i (by omega)))⟩
      by_cases ej : j = i
      · rw [ej]; exact z
      · exact q j (by omega)
  exact ⟨n + 1, L n 0 (by omega) (fun j hj => by omega)⟩
theorem c_toldLoop {v : Rl} (hv : okR v) (hC : RelC v rs ra) (hN : NR v 0 ns na) {k n : Nat} (hk : k < 4) (hn : n ≤ 60) (e : sa 0 k = nI n) (hok : okT v sl k n) {tak too : Nat → Int32} (b1 : ∀ b, b < 10 → tak b = 0) (b2 : ∀ t, t < 6 → too t = 0) {post : Int32 → A1 → A2 → A1 → A2 → Prop} (h : ∀ rs' ra', RelC (vy v (yr v (TC sl k) n).1 (yr v (TC sl k) n).2) rs' ra' → post (nI (sumN (yr v (TC sl k) n).1 10)) rs' ra' ns na) : ∃ m, P_X11_told_94 sa sl (nI k) post (va_up rs 15 1) ns na m 0 0 (va_up (va_up ra 14 tak) 15 too) := by
  have h13 := ok13 hv.1
  have h14 := ok14 hv.1
  have e14 : va_up rs 15 1 14 = nI (v 14 0) := by rw [up_ne (by decide)]; exact rc_s hC 14
  have L : ∀ (d i : Nat) (rx : A2), i + d = n → (∀ j, j ≠ 14 → j ≠ 15 → rx j = ra j) → (∀ b, b < 10 → rx 14 b = nI ((yr v (TC sl k) i).1 b)) → (∀ t, t < 6 → rx 15 t = nI ((yr v (TC sl k) i).2 t)) → P_X11_told_94 sa sl (nI k) post (va_up rs 15 1) ns na (d + 1) (nI (sumN (yr v (TC sl k) i).1 10)) (nI i) rx := by
    intro d
    induction d with
    | zero =>
      intro i rx hi q1 q2 q3
      obtain rfl : i = n := by omega
      refine ⟨vp_in_nI hk (by decide), ?_⟩
      rw [nI_clamp (by omega), e]
      exact ⟨fun _ => h _ _ (hC.y (fun j hj => up_ne hj) up_at q1 q2 q3), fun z => absurd (nI_le (Nat.le_refl _) (by omega)) z⟩
    | succ d ih =>
      intro i rx hi q1 q2 q3
      refine ⟨vp_in_nI hk (by decide), ?_⟩
      rw [nI_clamp (by omega), e]
      refine ⟨fun z => absurd ((nI_leI (by omega) (by omega)).mp z) (by omega), fun _ => ?_⟩
      unfold P_X6_numberAt
      rw [show nI k * (60 : Int32) + nI i = nI (60 * k + i) by rw [Nat.mul_comm]; simp only [fa_lit, pk_mul, nI_add], nI_clamp (by omega)]
      refine ⟨vp_in_nI (by omega) (by decide), ?_⟩
      obtain ⟨o1, o2⟩ := hok i (by omega)
      have hl : 2 ^ v 14 0 ≤ 2 ^ 6 := Nat.pow_le_pow_right (by decide) (by omega)
      rw [o2, lN_i, e14]
      refine c_letAll hv hN (by omega) q2 q3 (fun tak too t1 t2 x hx => ?_)
      have := yr_sum h13 (TC sl k) i
      rw [nI_add] at hx
      rw [hx, nI_1]
      have go := ih (i + 1) (va_up (va_up rx 14 tak) 15 too) (by omega) (fun j a b => by rw [up_ne b, up_ne a]; exact q1 j a b) (fun b hb => by rw [up_ne (by decide), up_at]; exact t1 b hb) (fun t ht => by rw [up_at]; exact t2 t ht)
      rw [this] at go
      exact go
  exact ⟨n + 1, L n 0 _ (by omega) (fun j a b => by rw [up_ne b, up_ne a]) (fun b hb => by rw [up_ne (by decide), up_at]; exact b1 b hb) (fun t ht => by rw [up_at]; exact b2 t ht)⟩
theorem m_toldLoop {v : Rl} (hv : okR v) (hM : RM v 0 ms ma) {k n : Nat} (hk : k < 4) (hn : n ≤ 60) (e : ma 1 k = nI n) (hs : ∀ i, i < n → sl 0 (60 * k + i) = ml 0 (60 * k + i)) (hok : okT v sl k n) {post : Int32 → A1 → A2 → Prop} (h : ∀ mt mb, RM v 0 mt mb → MG ms ma ml mt mb ml → YRm mb (yr v (TC sl k) n).1 (yr v (TC sl k) n).2 → P_X12_told_179 ml (nI k) post mt mb) : P_X12_told_102 ml (nI k) post ms ma := by
  have h13 := ok13 hv.1
  have h14 := ok14 hv.1
  have hl : 2 ^ v 14 0 ≤ 2 ^ 6 := Nat.pow_le_pow_right (by decide) (by omega)
  refine m_newYear hv hM (fun mb hL hmb hY0 => ?_)
  have RMx : ∀ mc : A2, (∀ j, j ≠ 21 → mc j = mb j) → RM v 0 (va_up ms 12 (nI (v 13 0))) mc := fun mc hc => hM.fr (fun i _ _ => by rw [hc i (by omega)]; exact hmb i (by omega) (by omega) (by omega)) (up_ne (by decide)) (up_ne (by decide))
  have LRx : ∀ mc : A2, (∀ j, j ≠ 21 → mc j = mb j) → LR v 0 (v 13 0) (va_up ms 12 (nI (v 13 0))) mc := fun mc hc => by
    unfold LR at hL ⊢
    rw [hc 18 (by decide), hc 19 (by decide)]
    exact hL
  have e1 : ∀ mc : A2, (∀ j, j ≠ 21 → mc j = mb j) → mc 1 k = nI n := fun mc hc => by rw [hc 1 (by decide), hmb 1 (by decide) (by decide) (by decide)]; exact e
  have I : ∀ (i : Nat), i < n → ∀ (R108 : Int32 → A2 → Prop) (mc : A2), (∀ j, j ≠ 21 → mc j = mb j) → YRm mc (yr v (TC sl k) i).1 (yr v (TC sl k) i).2 → (∀ md, (∀ j, j ≠ 21 → md j = mb j) → YRm md (yr v (TC sl k) (i + 1)).1 (yr v (TC sl k) (i + 1)).2 → R108 (nI (i + 1)) md) → ∃ m, P_X12_told_123 ml (nI k) (va_up ms 12 (nI (v 13 0))) post R108 (nI i) m 0 0 mc := by
    intro i hi R108 mc g1 g3 kk
    have L : ∀ (d t : Nat) (md : A2), t + d = v 14 0 → (∀ j, j ≠ 21 → md j = mb j) → YRm md (nsn v (TC sl k i) (0, (yr v (TC sl k) i).1, (yr v (TC sl k) i).2) t).2.1 (nsn v (TC sl k i) (0, (yr v (TC sl k) i).1, (yr v (TC sl k) i).2) t).2.2 → P_X12_told_123 ml (nI k) (va_up ms 12 (nI (v 13 0))) post R108 (nI i) (d + 1) (nI (nsn v (TC sl k i) (0, (yr v (TC sl k) i).1, (yr v (TC sl k) i).2) t).1) (nI t) md := by
      intro d
      induction d with
      | zero =>
        intro t md ht q1 q3
        obtain rfl : t = v 14 0 := by omega
        refine ⟨fun _ => ?_, fun c => absurd ((cmp_le (RMx md q1).2.1.1 (by omega) (by omega)).mpr (Nat.le_refl _)) c⟩
        rw [nI_1]
        exact kk md q1 q3
      | succ d ih =>
        intro t md ht q1 q3
        obtain ⟨o1, o2⟩ := hok i hi
        refine ⟨fun c => absurd ((cmp_le (RMx md q1).2.1.1 (by omega) (by omega)).mp c) (by omega), fun _ => ?_⟩
        rw [show (60 : Int32) * nI k + nI i = nI (60 * k + i) by simp only [fa_lit, pk_mul, nI_add], nI_clamp (by omega), ← hs i hi, o2, num_bit (by omega) (by omega), nI_1]
        have hlt2 := nsn_lt h13 (TC sl k i) (S := (0, (yr v (TC sl k) i).1, (yr v (TC sl k) i).2)) (show (0 : Nat) < 1024 by decide) t
        refine ⟨vp_in_nI (by omega) (by decide), fun c => ?_, fun c => ?_⟩
        · have cf : ¬ TC sl k i t = true := c
          have go := ih (t + 1) md (by omega) q1
          rw [nsn] at go
          unfold ns1 at go
          rw [if_neg cf] at go
          exact go q3
        · have cf : TC sl k i t = true := c
          refine m_comes hv (RMx md q1).2.1 (LRx md q1) (by omega) hlt2 q3 cf (fun me f1 f2 => ?_)
          have go := ih (t + 1) me (by omega) (fun j hj => (f1 j hj).trans (q1 j hj))
          rw [nsn] at go
          exact go f2
    exact ⟨v 14 0 + 1, L (v 14 0) 0 mc (by omega) g1 g3⟩
  have L : ∀ (d i : Nat) (mc : A2), i + d = n → (∀ j, j ≠ 21 → mc j = mb j) → YRm mc (yr v (TC sl k) i).1 (yr v (TC sl k) i).2 → P_X12_told_108 ml (nI k) post (fun (ms : Nat → Int32) (ma : Nat → Nat → Int32) => P_X12_told_179 ml (nI k) post ms ma) (va_up ms 12 (nI (v 13 0))) (d + 1) (nI i) mc := by
    intro d
    induction d with
    | zero =>
      intro i mc hi q1 q3
      obtain rfl : i = n := by omega
      have q : ∀ j, j ≠ 18 → j ≠ 19 → j ≠ 21 → mc j = ma j := fun j a b c => (q1 j c).trans (hmb j a b c)
      refine ⟨vp_in_nI hk (by decide), ?_⟩
      rw [nI_clamp (by omega), e1 mc q1]
      exact ⟨fun _ => h _ _ (RMx mc q1) ⟨fun j _ b _ => up_ne b, fun j hj _ _ _ => q j (by omega) (by omega) (by omega), fun x _ => by rw [q 11 (by decide) (by decide) (by decide)], fun x _ => by rw [q 14 (by decide) (by decide) (by decide)], rfl⟩ q3, fun c => absurd (nI_le (Nat.le_refl _) (by omega)) c⟩
    | succ d ih =>
      intro i mc hi q1 q3
      refine ⟨vp_in_nI hk (by decide), ?_⟩
      rw [nI_clamp (by omega), e1 mc q1]
      refine ⟨fun c => absurd ((nI_leI (by omega) (by omega)).mp c) (by omega), fun _ => ?_⟩
      exact I i (by omega) _ mc q1 q3 (fun md d1 d3 => ih (i + 1) md (by omega) d1 d3)
  exact ⟨n + 1, L n 0 mb (by omega) (fun _ _ => rfl) hY0⟩
theorem m_toldCheck {v : Rl} (h14 : v 14 0 ≤ 6) {k n : Nat} (hk : k < 4) (hn : n ≤ 60) (e : ma 1 k = nI n) (e12 : ma 12 0 = nI (v 14 0)) (hs : ∀ i, i < n → sl 0 (60 * k + i) = ml 0 (60 * k + i)) {K102 : A1 → A2 → Prop} {post : Int32 → A1 → A2 → Prop} (hy : okT v sl k n → K102 ms ma) (hno : ¬ okT v sl k n → post (-2) ms ma) : ∃ m, P_X12_told_55 ml (nI k) post K102 ms ma m 0 := by
  have L : ∀ (d i : Nat), i + d = n → (∀ j, j < i → cN (sl 0 (60 * k + j)) < 2 ^ v 14 0 ∧ sl 0 (60 * k + j) = lN (cN (sl 0 (60 * k + j)))) → P_X12_told_55 ml (nI k) post K102 ms ma (d + 1) (nI i) := by
    intro d
    induction d with
    | zero =>
      intro i hi q
      obtain rfl : i = n := by omega
      refine ⟨vp_in_nI hk (by decide), ?_⟩
      rw [nI_clamp (by omega), e]
      exact ⟨fun _ => hy q, fun z => absurd (nI_le (Nat.le_refl _) (by omega)) z⟩
    | succ d ih =>
      intro i hi q
      refine ⟨vp_in_nI hk (by decide), ?_⟩
      rw [nI_clamp (by omega), e]
      refine ⟨fun z => absurd ((nI_leI (by omega) (by omega)).mp z) (by omega), fun _ => ?_⟩
      rw [show (60 : Int32) * nI k + nI i = nI (60 * k + i) by simp only [fa_lit, pk_mul, nI_add], nI_clamp (by omega), ← hs i (by omega), e12, nI_1]
      refine ⟨vp_in_nI (by omega) (by decide), num_in (by omega) ?_⟩
      by_cases z : cN (sl 0 (60 * k + i)) < 2 ^ v 14 0 ∧ sl 0 (60 * k + i) = lN (cN (sl 0 (60 * k + i)))
      · rw [if_pos z]
        refine b1t (ih (i + 1) (by omega) (fun j hj => ?_))
        by_cases ej : j = i
        · rw [ej]; exact z
        · exact q j (by omega)
      · rw [if_neg z]
        exact b0t (hno (fun w => z (w i (by omega))))
  exact ⟨n + 1, L n 0 (by omega) (fun j hj => by omega)⟩
theorem q_told (hI : Inv us ua rs ra ra2 sa sl ns na nl yt im ms ma ml) (p : Int32) : P_X11_told rs ra sa sl ns na p (fun r rs' ra' ns' na' => P_X12_told ms ma ml p (fun r' mt mb => r = r' ∧ Inv us ua rs' ra' ra2 sa sl ns' na' nl yt im mt mb ml)) := by
  obtain ⟨v, hv, hC, hM, hP, hY, hK, hB, F⟩ := hI.get
  have h1 := ok1 hv.1
  have h14 := ok14 hv.1
  have fin := F ra2 ns na nl _ _ _ (MG.refl _ _ ml) hM.1 hB hK
  rcases ixs p (n := 4) (by decide) with hp | ⟨k, hk, rfl⟩
  · have M : P_X12_told ms ma ml p (fun r' mt mb => -2 = r' ∧ Inv us ua rs ra ra2 sa sl ns na nl yt im mt mb ml) := m_slot0 hp (b0f ⟨rfl, fin⟩)
    rcases Nat.eq_zero_or_pos (v 2 0) with z | z
    · exact c_told0 hC z (b0f M)
    · exact c_told hC hv.1 z (b1f (c_slot0 hp (b0t M)))
  · rcases Nat.eq_zero_or_pos (v 2 0) with z | z
    · exact c_told0 hC z (b0f (m_slot hk (b1f (m_rail0 hM.1 hv.1 z (b0t ⟨rfl, fin⟩)))))
    · obtain ⟨w, n, hw, hn, e1, e2, e3, e4, e5⟩ := hI.2.2.2.2.1 k hk
      have e5' : ma 5 0 = nI (v 1 0) := hM.1.1.2.2.1
      -- the reference, where there is a row
      have M : w ≠ 0 → ∀ post : Int32 → A1 → A2 → Prop, ((n ≤ v 1 0 ∧ okT v sl k n) → P_X12_told_102 ml (nI k) post (va_up ms 0 0) ma) → (¬ (n ≤ v 1 0 ∧ okT v sl k n) → post (-2) (va_up ms 0 0) ma) → P_X12_told ms ma ml (nI k) post := by
        intro hw0 post a b
        refine m_slot hk (b1f (m_rail hM.1 hv.1 z (b1t ⟨vp_in_nI hk (by decide), ?_⟩)))
        rw [nI_clamp (by omega), e2, nI_m1 (by omega)]
        refine ⟨fun _ => ⟨vp_in_nI hk (by decide), ?_⟩, fun c => absurd c hw0⟩
        rw [e4, e5', nI_leI (by omega) (by omega)]
        exact ⟨fun c => m_toldCheck h14 hk hn e4 hM.2.1.1 e5 (fun q => a ⟨c, q⟩) (fun q => b (fun r => q r.2)), fun c => b (fun r => c r.1)⟩
      refine c_told hC hv.1 z (b1f (c_slot hk (b1t (c_hasRow hk hw e1 (fun w0 => b0t ?_) (fun w0 => b1t ?_)))))
      · refine m_slot hk (b1f (m_rail hM.1 hv.1 z (b1t ⟨vp_in_nI hk (by decide), ?_⟩)))
        rw [nI_clamp (by omega), e2, nI_m1 (by omega)]
        exact ⟨fun c => absurd w0 c, fun _ => ⟨rfl, fin⟩⟩
      · rw [rc_s hC 1, rc_s hC 14]
        refine c_tells h14 h1 hk hn e3 (fun c1 c2 => b1t (c_lookAt hC hv.1 (fun nb hN hb => c_yearBegin (fun tak too b1 b2 => c_toldLoop hv hC hN hk hn e3 c2 b1 b2 (fun rs' ra' hC' => ?_))))) (fun c => b0t (M w0 _ (fun q => absurd q c) (fun _ => ⟨rfl, fin⟩)))
        refine M w0 _ (fun _ => m_toldLoop hv hM hk hn e4 e5 c2 (fun mt mb hM' hG hYr => m_tellsYear hYr (fun r r0 r1 r2 r3 => ⟨rfl, ?_⟩))) (fun q => absurd ⟨c1, c2⟩ q)
        have I1 := F ra2 ns na nl mt mb ml hG hM'.1 hB hK
        exact I1.year hv hC' hM'.1 hM'.2.1 (hP.eq (hG.2.1 6 (by decide) (by decide) (by decide) (by decide)) (hG.2.1 7 (by decide) (by decide) (by decide) (by decide))) r0 r1 r2 r3 (hK.look hb _)
end TL
