/-! the reference: whom a thief takes -/
theorem RelN.fr {v : Rl} {j : Nat} {ma mb : Nat → Nat → Int32} (h : RelN v j ma) (e : ∀ i, 3 ≤ i → i ≤ 14 → mb i = ma i) : RelN v j mb := by
  unfold RelN at h ⊢
  simp only [e 3 (by decide) (by decide), e 4 (by decide) (by decide), e 5 (by decide) (by decide), e 8 (by decide) (by decide), e 9 (by decide) (by decide), e 10 (by decide) (by decide), e 11 (by decide) (by decide), e 14 (by decide) (by decide)]
  exact h
theorem RelT.fr {v : Rl} {j : Nat} {ma mb : Nat → Nat → Int32} (h : RelT v j ma) (e : ∀ i, 3 ≤ i → i ≤ 14 → mb i = ma i) : RelT v j mb := by
  unfold RelT at h ⊢
  simp only [e 12 (by decide) (by decide), e 13 (by decide) (by decide)]
  exact h
theorem RelP.fr {v : Rl} {j : Nat} {ma mb : Nat → Nat → Int32} (h : RelP v j ma) (e : ∀ i, 3 ≤ i → i ≤ 14 → mb i = ma i) : RelP v j mb := by
  unfold RelP at h ⊢
  simp only [e 6 (by decide) (by decide), e 7 (by decide) (by decide)]
  exact h
theorem LX.fr {v : Rl} {j : Nat} {ms mt : Nat → Int32} {ma mb : Nat → Nat → Int32} (h : LX v j ms ma) (e : ∀ i, 3 ≤ i → i ≤ 14 → mb i = ma i) (e10 : mt 10 = ms 10) (e11 : mt 11 = ms 11) : LX v j mt mb := by
  unfold LX at h ⊢
  simp only [e 6 (by decide) (by decide), e 7 (by decide) (by decide), e10, e11]
  exact h
theorem RM.fr {v : Rl} {j : Nat} {ms mt : Nat → Int32} {ma mb : Nat → Nat → Int32} (h : RM v j ms ma) (e : ∀ i, 3 ≤ i → i ≤ 14 → mb i = ma i) (e10 : mt 10 = ms 10) (e11 : mt 11 = ms 11) : RM v j mt mb := ⟨h.1.fr e, h.2.1.fr e, h.2.2.fr e e10 e11⟩
theorem bit_o {g c : Nat} (hg : g < 2 ^ 31) (hc : c < 32) : ((nI g >>> (nI c &&& 31)) &&& 1) = 1 ↔ g.testBit c = true := by
  rw [pk_shrN hg _ c (sh_c c hc), bit_and1 (Nat.lt_of_le_of_lt (Nat.div_le_self _ _) hg), show (1 : Int32) = nI 1 from rfl, nI_eq (by omega) (by decide), Nat.testBit_eq_decide_div_mod_eq]
  simp
/-- the reference's table of troubles and nets -/
def LR (v : Rl) (s th : Nat) (ms : Nat → Int32) (ma : Nat → Nat → Int32) : Prop := ms 12 = nI th ∧ (th = v 13 0 ∧ s = 0 ∨ th = v 13 0 + 1) ∧ (∀ t, t < v 14 0 → ∀ b, b < v 13 0 → ma 18 (11 * t + b) = nI (trouble v t b) ∧ ma 19 (11 * t + b) = nI (gain v b) - nI (trouble v t b)) ∧ (th = v 13 0 + 1 → ∀ t, t < v 14 0 → ma 18 (11 * t + v 13 0) = 0 ∧ ma 19 (11 * t + v 13 0) = nI s)
/-- the same of one thief -/
def LRt (v : Rl) (s th : Nat) (ms : Nat → Int32) (ma : Nat → Nat → Int32) (t : Nat) : Prop := ms 12 = nI th ∧ (th = v 13 0 ∧ s = 0 ∨ th = v 13 0 + 1) ∧ (∀ b, b < v 13 0 → ma 18 (11 * t + b) = nI (trouble v t b) ∧ ma 19 (11 * t + b) = nI (gain v b) - nI (trouble v t b)) ∧ (th = v 13 0 + 1 → ma 18 (11 * t + v 13 0) = 0 ∧ ma 19 (11 * t + v 13 0) = nI s)
theorem LR.t {v : Rl} {s th : Nat} {ms : Nat → Int32} {ma : Nat → Nat → Int32} (h : LR v s th ms ma) {t : Nat} (ht : t < v 14 0) : LRt v s th ms ma t := ⟨h.1, h.2.1, h.2.2.1 t ht, fun e => h.2.2.2 e t ht⟩
def seI : Option Nat → Int32
  | none => -1
  | some s => nI s
def thO (v : Rl) : Option Nat → Nat
  | none => v 13 0
  | some _ => v 13 0 + 1
def seO : Option Nat → Nat
  | none => 0
  | some s => s
theorem m_lays {v : Rl} (hv : okV v) {ms : Nat → Int32} {ma : Nat → Nat → Int32} (hM : RM v 0 ms ma) (o : Option Nat) (ho : seO o ≤ 9999) {post : (Nat → Int32) → (Nat → Nat → Int32) → Prop}
    (h : ∀ mb : Nat → Nat → Int32, LR v (seO o) (thO v o) (va_up ms 12 (nI (thO v o))) mb → (∀ j, j ≠ 18 → j ≠ 19 → mb j = ma j) → post (va_up ms 12 (nI (thO v o))) mb) : P_X12_lays ms ma (seI o) post := by
  have h13 := ok13 hv
  have h14 := ok14 hv
  have e13 : ma 10 0 = nI (v 13 0) := hM.1.1.2.2.2.2
  have e14 : ma 12 0 = nI (v 14 0) := hM.2.1.1
  have hth : thO v o ≤ 11 := by unfold thO; split <;> omega
  -- the bikes of thief t
  have B : ∀ (t : Nat), t < v 14 0 → ∀ (K : Int32 → (Nat → Nat → Int32) → Prop), (∀ mb : Nat → Nat → Int32, (∀ j, j ≠ 18 → j ≠ 19 → mb j = ma j) → True → K (nI t) mb → True) → ∀ (mc : Nat → Nat → Int32), (∀ j, j ≠ 18 → j ≠ 19 → mc j = ma j) →
      (∀ mb : Nat → Nat → Int32, (∀ j, j ≠ 18 → j ≠ 19 → mb j = ma j) → (∀ x, (x < 11 * t ∨ 11 * t + v 13 0 ≤ x) → mb 18 x = mc 18 x ∧ mb 19 x = mc 19 x) → (∀ b, b < v 13 0 → mb 18 (11 * t + b) = nI (trouble v t b) ∧ mb 19 (11 * t + b) = nI (gain v b) - nI (trouble v t b)) → K (nI t) mb) →
      ∃ n, P_X12_lays_34 (seI o) (va_up ms 12 (nI (thO v o))) post K (nI t) n 0 mc := by
    intro t ht K _ mc hmc kk
    have L : ∀ (k i : Nat) (mb : Nat → Nat → Int32), i + k = v 13 0 → (∀ j, j ≠ 18 → j ≠ 19 → mb j = ma j) → (∀ x, (x < 11 * t ∨ 11 * t + v 13 0 ≤ x) → mb 18 x = mc 18 x ∧ mb 19 x = mc 19 x) → (∀ b, b < i → mb 18 (11 * t + b) = nI (trouble v t b) ∧ mb 19 (11 * t + b) = nI (gain v b) - nI (trouble v t b)) → P_X12_lays_34 (seI o) (va_up ms 12 (nI (thO v o))) post K (nI t) (k + 1) (nI i) mb := by
      intro k
      induction k with
      | zero =>
        intro i mb hi q1 q2 q3
        obtain rfl : i = v 13 0 := by omega
        exact ⟨fun _ => kk mb q1 q2 q3, fun c => absurd ((cmp_le ((congrFun (q1 10 (by decide) (by decide)) 0).trans e13) (by omega) (by omega)).mpr (Nat.le_refl _)) c⟩
      | succ k ih =>
        intro i mb hi q1 q2 q3
        refine ⟨fun c => absurd ((cmp_le ((congrFun (q1 10 (by decide) (by decide)) 0).trans e13) (by omega) (by omega)).mp c) (by omega), fun _ => ?_⟩
        have hM2 : RM v 0 (va_up ms 12 (nI (thO v o))) mb := hM.fr (fun i h3 h4 => q1 i (by omega) (by omega)) (up_ne (by decide)) (up_ne (by decide))
        refine m_troubleOf (j := 0) hv hM2 (by decide) ht (by omega) ?_
        rw [show (11 : Int32) * nI t + nI i = nI (11 * t + i) by simp only [fa_lit, pk_mul, nI_add], nI_clamp (by omega)]
        refine ⟨vp_in_nI (by omega) (by decide), ?_⟩
        refine m_gainOf (j := 0) hv (hM2.1.fr (fun i h3 h4 => up_ne (by omega))) (by decide) (by omega) ⟨vp_in_nI (by omega) (by decide), vp_in_nI (by omega) (by decide), ?_⟩
        rw [nI_1, u_at]
        refine ih (i + 1) _ (by omega) (fun j j1 j2 => by rw [up_ne j2, up_ne j1, q1 j j1 j2]) (fun x hx => ?_) (fun b hb => ?_)
        · rw [up_ne (by decide), up_at, up_at, u_ne (by omega), u_ne (by omega)]
          exact q2 x hx
        · rw [up_ne (by decide), up_at, up_at]
          by_cases e : b = i
          · subst e; rw [u_at, u_at]; exact ⟨rfl, rfl⟩
          · rw [u_ne (by omega), u_ne (by omega)]; exact q3 b (by omega)
    exact ⟨v 13 0 + 1, L (v 13 0) 0 mc (by omega) hmc (fun _ _ => ⟨rfl, rfl⟩) (fun b hb => by omega)⟩
  have T : ∀ (k i : Nat) (mb : Nat → Nat → Int32), i + k = v 14 0 → (∀ j, j ≠ 18 → j ≠ 19 → mb j = ma j) → (∀ t, t < i → ∀ b, b < v 13 0 → mb 18 (11 * t + b) = nI (trouble v t b) ∧ mb 19 (11 * t + b) = nI (gain v b) - nI (trouble v t b)) → (thO v o = v 13 0 + 1 → ∀ t, t < i → mb 18 (11 * t + v 13 0) = 0 ∧ mb 19 (11 * t + v 13 0) = nI (seO o)) → P_X12_lays_22 (seI o) post (va_up ms 12 (nI (thO v o))) (k + 1) (nI i) mb := by
    intro k
    induction k with
    | zero =>
      intro i mb hi q1 q2 q3
      obtain rfl : i = v 14 0 := by omega
      refine ⟨fun _ => h mb ⟨up_at, ?_, q2, q3⟩ q1, fun c => absurd ((cmp_le ((congrFun (q1 12 (by decide) (by decide)) 0).trans e14) (by omega) (by omega)).mpr (Nat.le_refl _)) c⟩
      cases o with
      | none => exact Or.inl ⟨rfl, rfl⟩
      | some s => exact Or.inr rfl
    | succ k ih =>
      intro i mb hi q1 q2 q3
      refine ⟨fun c => absurd ((cmp_le ((congrFun (q1 12 (by decide) (by decide)) 0).trans e14) (by omega) (by omega)).mp c) (by omega), fun _ => ?_⟩
      refine B i (by omega) _ (fun _ _ _ _ => trivial) mb q1 (fun mc r1 r2 r3 => ?_)
      have e13' : mc 10 0 = nI (v 13 0) := (congrFun (r1 10 (by decide) (by decide)) 0).trans e13
      cases o with
      | none =>
        refine ⟨fun c => absurd c (by decide), fun _ => ?_⟩
        rw [nI_1]
        refine ih (i + 1) mc (by omega) r1 (fun t ht b hb => ?_) (fun z => absurd z (by simp [thO]))
        by_cases e : t = i
        · subst e; exact r3 b hb
        · rw [(r2 _ (by omega)).1, (r2 _ (by omega)).2]; exact q2 t (by omega) b hb
      | some s =>
        have hs : s ≤ 9999 := ho
        refine ⟨fun _ => ?_, fun c => absurd (nI_pos' (by omega)) c⟩
        rw [e13', show (11 : Int32) * nI i + nI (v 13 0) = nI (11 * i + v 13 0) by simp only [fa_lit, pk_mul, nI_add], nI_clamp (by omega), nI_1]
        refine ⟨vp_in_nI (by omega) (by decide), vp_in_nI (by omega) (by decide), ?_⟩
        refine ih (i + 1) _ (by omega) (fun j j1 j2 => by rw [up_ne j2, up_ne j1, r1 j j1 j2]) (fun t ht b hb => ?_) (fun z t ht => ?_)
        · rw [up_ne (by decide), up_at, up_at, u_ne (by omega), u_ne (by omega)]
          by_cases e : t = i
          · subst e; exact r3 b hb
          · rw [(r2 _ (by omega)).1, (r2 _ (by omega)).2]; exact q2 t (by omega) b hb
        · rw [up_ne (by decide), up_at, up_at]
          by_cases e : t = i
          · subst e; rw [u_at, u_at]; exact ⟨rfl, rfl⟩
          · rw [u_ne (by omega), u_ne (by omega), (r2 _ (by omega)).1, (r2 _ (by omega)).2]; exact q3 z t (by omega)
  have fin := T (v 14 0) 0 ma (by omega) (fun _ _ _ => rfl) (fun t ht => by omega) (fun _ t ht => by omega)
  cases o with
  | none =>
    refine ⟨fun c => absurd c (by decide), fun _ x hx => ⟨v 14 0 + 1, ?_⟩⟩
    rw [e13, show nI (v 13 0) + 0 = nI (v 13 0) from nI_add _ 0] at hx
    subst hx
    exact fin
  | some s =>
    have hs : s ≤ 9999 := ho
    refine ⟨fun _ x hx => ⟨v 14 0 + 1, ?_⟩, fun c => absurd (nI_pos' (by omega)) c⟩
    rw [e13, nI_1] at hx
    subst hx
    exact fin
/-- a thief who takes just one wants one of the bikes there are -/
def okJ (v : Rl) : Prop := ∀ t, t < v 14 0 → v 29 t ≤ v 13 0
theorem scn_just {v : Rl} {s t g i : Nat} (hk : v 28 t = 2) (hw : wnt v s t i = true) (hg : g.testBit i = false) (h0 : scn v s t g i = none) : ∀ n, i < n → scn v s t g n = some i
  | 0, h => absurd h (Nat.not_lt_zero i)
  | n + 1, h => by
    have hi : i < v 13 0 ∧ v 29 t = i + 1 := by
      unfold wnt at hw
      split at hw
      · rename_i c
        simp [hk] at hw
        exact ⟨c, hw.2⟩
      · simp [hk] at hw
    unfold scn
    by_cases e : n = i
    · subst e
      rw [hw, hg, h0]
      simp
    · have hn : wnt v s t n = false := by
        unfold wnt
        split
        · simp [hk, hi.2]; omega
        · simp [hk]
      rw [hn, scn_just hk hw hg h0 n (by omega)]
      simp
theorem tk_no_bait (v : Rl) (t g : Nat) : tk v 0 t g = scn v 0 t g (v 13 0) := by
  rw [tk_scn, scn]
  have : wnt v 0 t (v 13 0) = false := by unfold wnt; simp
  rw [this]
  simp
theorem i32_le {x y : Int32} {a b : Int} (hx : x.toInt = a) (hy : y.toInt = b) : x ≤ y ↔ a ≤ b := by rw [Int32.le_iff_toInt_le, hx, hy]
theorem i32_lt {x y : Int32} {a b : Int} (hx : x.toInt = a) (hy : y.toInt = b) : x < y ↔ a < b := by rw [Int32.lt_iff_toInt_lt, hx, hy]
def netB (v : Rl) (s t b : Nat) : Int := if b < v 13 0 then net v t b else (s : Int)
def trbB (v : Rl) (t b : Nat) : Int := if b < v 13 0 then (trouble v t b : Int) else 0
theorem rnk_eq (v : Rl) (s t b : Nat) : rnk v s t b = if v 28 t = 0 then -(netB v s t b) else trbB v t b := by
  unfold rnk netB trbB
  split <;> split <;> rfl
theorem LRt.at {v : Rl} (hv : okV v) {s th : Nat} (hs : s ≤ 9999) {ms : Nat → Int32} {ma : Nat → Nat → Int32} {t b : Nat} (h : LRt v s th ms ma t) (ht : t < v 14 0) (hb : b < th) : (ma 18 (11 * t + b)).toInt = trbB v t b ∧ (ma 19 (11 * t + b)).toInt = netB v s t b := by
  obtain ⟨h1, h2, h3, h4⟩ := h
  unfold trbB netB net
  by_cases c : b < v 13 0
  · have hg := gain_le hv c
    have htr := trouble_le hv ht c
    rw [if_pos c, if_pos c, (h3 b c).1, (h3 b c).2, nI_toInt (by omega), nS (by omega) (by omega)]
    exact ⟨rfl, rfl⟩
  · have e : th = v 13 0 + 1 := by omega
    obtain rfl : b = v 13 0 := by omega
    rw [if_neg c, if_neg c, (h4 e).1, (h4 e).2, nI_toInt (by omega)]
    exact ⟨rfl, rfl⟩
theorem LR.at {v : Rl} (hv : okV v) {s th : Nat} (hs : s ≤ 9999) {ms : Nat → Int32} {ma : Nat → Nat → Int32} (h : LR v s th ms ma) {t b : Nat} (ht : t < v 14 0) (hb : b < th) : (ma 18 (11 * t + b)).toInt = trbB v t b ∧ (ma 19 (11 * t + b)).toInt = netB v s t b := (h.t ht).at hv hs ht hb
theorem m_takesOfT {v : Rl} (hv : okV v) (hJ : okJ v) {s th : Nat} (hs : s ≤ 9999) {ms : Nat → Int32} {ma : Nat → Nat → Int32} (hT : RelT v 0 ma) {t g : Nat} (hL : LRt v s th ms ma t) (ht : t < v 14 0) (hg : g < 2 ^ 31) {post : Int32 → Prop} (h : post (oI (tk v s t g))) : P_X12_takesOf ms ma (nI t) (nI g) post := by
  have h13 := ok13 hv
  have h14 := ok14 hv
  have eT := hT.2 t ht
  simp only [Nat.mul_zero, Nat.zero_add] at eT
  obtain ⟨-, -, -, e28, e29⟩ := eT
  obtain ⟨-, -, -, b28, b29⟩ := hv.2.2.2.2.2.1 t ht
  have hLk := hL
  obtain ⟨l1, l2, -⟩ := hL
  have hend : tk v s t g = scn v s t g th := by
    rcases l2 with ⟨a, b⟩ | a
    · rw [b, a]; exact tk_no_bait v t g
    · rw [a]; exact tk_scn v s t g
  have hscn : ∀ k b, scn v s t g k = some b → b < k := by
    intro k b hb
    rw [← pick_scn] at hb
    have hm : b ∈ ordl v s t k := List.mem_of_find?_eq_some hb
    exact (ordl_mem.mp hm).1
  have hw_i : ∀ i, i < th → wnt v s t i = (decide (0 < netB v s t i) && (v 28 t != 2 || v 29 t == i + 1)) := by
    intro i hi
    unfold wnt netB
    by_cases c : i < v 13 0
    · rw [if_pos c, if_pos c]
    · have e : th = v 13 0 + 1 := by omega
      obtain rfl : i = v 13 0 := by omega
      rw [if_neg c, if_neg c]
      have hj := hJ t ht
      have : (v 29 t == v 13 0 + 1) = false := by simp; omega
      simp [this]
  have L : ∀ k i, i + k = th → (v 28 t = 2 → scn v s t g i = none) → P_X12_takesOf_17 ms ma (nI t) (nI g) post (nI (v 28 t)) (k + 1) (oI (scn v s t g i)) (nI i) := by
    intro k
    induction k with
    | zero =>
      intro i hi _
      obtain rfl : i = th := by omega
      refine ⟨fun _ => by rw [← hend]; exact h, fun c => absurd ((cmp_le l1 (by omega) (by omega)).mpr (Nat.le_refl _)) c⟩
    | succ k ih =>
      intro i hi hj2
      have hith : i < th := by omega
      refine ⟨fun c => absurd ((cmp_le l1 (by omega) (by omega)).mp c) (by omega), fun _ x hx => ?_⟩
      rw [show (11 : Int32) * nI t + nI i = nI (11 * t + i) by simp only [fa_lit, pk_mul, nI_add]] at hx
      subst hx
      rw [bit_o hg (by omega), nI_1, nI_clamp (by omega)]
      obtain ⟨a18, a19⟩ := hLk.at hv hs ht hith
      have hstep : scn v s t g (i + 1) = if wnt v s t i && !g.testBit i then (match scn v s t g i with
        | none => some i
        | some b => if rnk v s t i < rnk v s t b then some i else some b) else scn v s t g i := rfl
      have skip : (wnt v s t i && !g.testBit i) = false → P_X12_takesOf_17 ms ma (nI t) (nI g) post (nI (v 28 t)) (k + 1) (oI (scn v s t g i)) (nI (i + 1)) := by
        intro z
        rw [z] at hstep
        simp at hstep
        rw [← hstep]
        exact ih (i + 1) (by omega) (fun q => by rw [hstep]; exact hj2 q)
      refine ⟨fun c => skip (by rw [c]; simp), fun c => ⟨vp_in_nI (by omega) (by decide), ?_⟩⟩
      have hgb : g.testBit i = false := by simpa using c
      rw [i32_lt (x := 0) (a := 0) rfl a19]
      refine ⟨fun cp => ?_, fun cp => skip (by rw [hw_i i hith]; simp [cp])⟩
      rw [show (2 : Int32) = nI 2 from rfl, show (0 : Int32) = nI 0 from rfl, nI_eq (by omega) (by decide), nI_eq (by omega) (by decide)]
      refine ⟨fun ck => ?_, fun ck => ?_⟩
      · have hw : wnt v s t i = true := by rw [hw_i i hith]; simp [cp, ck]
        rw [hw, hgb] at hstep
        simp at hstep
        have go := ih (i + 1) (by omega) (fun q => absurd q ck)
        rw [hstep] at go
        cases hsc : scn v s t g i with
        | none =>
          rw [hsc] at go
          exact ⟨fun _ => go, fun z => absurd rfl z⟩
        | some b =>
          rw [hsc] at go
          have hbi := hscn i b hsc
          obtain ⟨b18, b19⟩ := hLk.at hv hs ht (show b < th by omega)
          refine ⟨fun z => absurd z (nI_nm1 (by omega)), fun _ => ?_⟩
          show ((¬ v 28 t = 0) → vp_in (nI (11 * t + i)) 66 ∧ (vp_in ((11 * nI t) + nI b) 66 ∧ _)) ∧ _
          rw [show oI (some b) = nI b from rfl, show (11 : Int32) * nI t + nI b = nI (11 * t + b) by simp only [fa_lit, pk_mul, nI_add], nI_clamp (by omega)]
          rw [i32_le b18 a18, i32_le a19 b19]
          simp only [rnk_eq] at go
          refine ⟨fun c0 => ⟨vp_in_nI (by omega) (by decide), vp_in_nI (by omega) (by decide), fun c1 => ?_, fun c1 => ?_⟩, fun c0 => ⟨vp_in_nI (by omega) (by decide), vp_in_nI (by omega) (by decide), fun c1 => ?_, fun c1 => ?_⟩⟩
          · simp only [c0, if_false] at go
            rw [if_neg (by omega)] at go
            exact go
          · simp only [c0, if_false] at go
            rw [if_pos (by omega)] at go
            exact go
          · simp only [c0, if_true] at go
            rw [if_neg (by omega)] at go
            rw [c0]; exact go
          · simp only [c0, if_true] at go
            rw [if_pos (by omega)] at go
            rw [c0]; exact go
      · have hnone := hj2 ck
        rw [show (5 : Int32) * nI t + 4 = nI (5 * t + 4) by simp only [fa_lit, pk_mul, nI_add], nI_clamp (by omega), e29]
        have hjx : nI i = nI (v 29 t) - 1 ↔ v 29 t = i + 1 := by
          rw [← Int32.toInt_inj, show (1 : Int32) = nI 1 from rfl, nS (by omega) (by decide), nI_toInt (by omega)]
          omega
        rw [hjx]
        refine ⟨vp_in_nI (by omega) (by decide), fun cj => skip ?_, fun cj => ?_⟩
        · rw [hw_i i hith]; simp [ck, cj]
        · have hw : wnt v s t i = true := by rw [hw_i i hith]; simp [cp, cj]
          have := scn_just ck hw hgb hnone th hith
          rw [hend, this] at h
          exact h
  unfold P_X12_takesOf
  rw [show (5 : Int32) * nI t + 3 = nI (5 * t + 3) by simp only [fa_lit, pk_mul, nI_add], nI_clamp (by omega), e28]
  refine ⟨vp_in_nI (by omega) (by decide), fun x hx => ⟨th + 1, ?_⟩⟩
  subst hx
  exact L th 0 (by omega) (fun _ => rfl)
theorem m_takesOf {v : Rl} (hv : okV v) (hJ : okJ v) {s th : Nat} (hs : s ≤ 9999) {ms : Nat → Int32} {ma : Nat → Nat → Int32} (hT : RelT v 0 ma) (hL : LR v s th ms ma) {t g : Nat} (ht : t < v 14 0) (hg : g < 2 ^ 31) {post : Int32 → Prop} (h : post (oI (tk v s t g))) : P_X12_takesOf ms ma (nI t) (nI g) post := m_takesOfT hv hJ hs hT (hL.t ht) ht hg h
/-! how many a thief wants -/
def wantN (v : Rl) (t : Nat) : Nat := sumN (fun b => if 0 < net v t b then 1 else 0) (v 13 0)
theorem m_wantsOf {v : Rl} (hv : okV v) {s th : Nat} (hs : s ≤ 9999) {ms : Nat → Int32} {ma : Nat → Nat → Int32} (hN : RelN v 0 ma) (hL : LR v s th ms ma) {t : Nat} (ht : t < v 14 0) {post : Int32 → Prop} (h : post (nI (wantN v t))) : P_X12_wantsOf ma (nI t) post := by
  have h13 := ok13 hv
  have h14 := ok14 hv
  have e13 : ma 10 0 = nI (v 13 0) := hN.1.2.2.2.2
  have hth : v 13 0 ≤ th := by rcases hL.2.1 with a | a <;> omega
  have L : ∀ k i, i + k = v 13 0 → P_X12_wantsOf_4 ma (nI t) post (k + 1) (nI (sumN (fun b => if 0 < net v t b then 1 else 0) i)) (nI i) := by
    intro k
    induction k with
    | zero =>
      intro i hi
      obtain rfl : i = v 13 0 := by omega
      exact ⟨fun _ => h, fun c => absurd ((cmp_le e13 (by omega) (by omega)).mpr (Nat.le_refl _)) c⟩
    | succ k ih =>
      intro i hi
      refine ⟨fun c => absurd ((cmp_le e13 (by omega) (by omega)).mp c) (by omega), fun _ => ?_⟩
      rw [show (11 : Int32) * nI t + nI i = nI (11 * t + i) by simp only [fa_lit, pk_mul, nI_add], nI_clamp (by omega)]
      obtain ⟨-, a19⟩ := hL.at hv hs ht (show i < th by omega)
      rw [i32_le (y := 0) (b := 0) a19 rfl, nI_1]
      unfold netB
      rw [if_pos (by omega)]
      have := ih (i + 1) (by omega)
      rw [sumN] at this
      refine ⟨vp_in_nI (by omega) (by decide), fun c x hx => ?_, fun c x hx => ?_⟩
      · rw [if_neg (by omega)] at this
        rw [show (0 : Int32) = nI 0 from rfl, nI_add] at hx
        rw [hx]; exact this
      · rw [if_pos (by omega)] at this
        rw [nI_1] at hx
        rw [hx]; exact this
  exact ⟨v 13 0 + 1, L (v 13 0) 0 (by omega)⟩
theorem c_netOf {v : Rl} {rs : Nat → Int32} {ra : Nat → Nat → Int32} (hR : RelC v rs ra) (hv : okV v) {s : Nat} {ns : Nat → Int32} {na : Nat → Nat → Int32} (hN : NR v s ns na) {t b : Nat} (ht : t < v 14 0) (hb : b < v 13 0) {post : Int32 → Prop} (h : post (nI (gain v b) - nI (trouble v t b))) : P_X3_netOf na ra (nI t) (nI b) post := by
  have h13 := ok13 hv
  unfold P_X3_netOf
  rw [nI_clamp (by omega), (hN.2.1 b hb).1, (hN.2.1 b hb).2]
  exact ⟨vp_in_nI (by omega) (by decide), vp_in_nI (by omega) (by decide), c_troubleOf hR hv ht hb rfl h⟩
theorem net_int {v : Rl} (hv : okV v) {t b : Nat} (ht : t < v 14 0) (hb : b < v 13 0) : (nI (gain v b) - nI (trouble v t b)).toInt = net v t b := by
  have hg := gain_le hv hb
  have htr := trouble_le hv ht hb
  rw [nS (by omega) (by omega)]
  rfl
theorem c_wantedBy {v : Rl} {rs : Nat → Int32} {ra : Nat → Nat → Int32} (hR : RelC v rs ra) (hv : okV v) {s : Nat} {ns : Nat → Int32} {na : Nat → Nat → Int32} (hN : NR v s ns na) {t : Nat} (ht : t < v 14 0) {post : Int32 → Prop} (h : post (nI (wantN v t))) : P_X3_wantedBy na rs ra (nI t) post := by
  have h13 := ok13 hv
  have e13 := rc_s hR 13
  have L : ∀ k i, i + k = v 13 0 → P_X3_wantedBy_5 na rs ra (nI t) post (k + 1) (nI (sumN (fun b => if 0 < net v t b then 1 else 0) i)) (nI i) := by
    intro k
    induction k with
    | zero =>
      intro i hi
      obtain rfl : i = v 13 0 := by omega
      exact ⟨fun _ => h, fun c => absurd ((cmp_le e13 (by omega) (by omega)).mpr (Nat.le_refl _)) c⟩
    | succ k ih =>
      intro i hi
      refine ⟨fun c => absurd ((cmp_le e13 (by omega) (by omega)).mp c) (by omega), fun _ => ?_⟩
      refine c_netOf hR hv hN ht (by omega) ?_
      rw [i32_le (y := 0) (b := 0) (net_int hv ht (by omega)) rfl, nI_1]
      have := ih (i + 1) (by omega)
      rw [sumN] at this
      refine ⟨fun c => ?_, fun c => ?_⟩
      · rw [if_neg (by omega)] at this
        exact this
      · rw [if_pos (by omega)] at this
        rw [nI_1]
        exact this
  exact ⟨v 13 0 + 1, L (v 13 0) 0 (by omega)⟩
