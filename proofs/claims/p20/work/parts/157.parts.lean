section
/-! promises 44 to 49: years that are drawn or told -/
def upN (f : Nat → Nat) (k : Nat) : Nat → Nat := fun i => if i = k then f i + 1 else f i
abbrev NS : Type := Nat × (Nat → Nat) × (Nat → Nat)
def ns1 (v : Rl) (C : Nat → Bool) (t : Nat) (S : NS) : NS := if C t = true then (match tk v 0 t S.1 with
  | none => S
  | some b => (S.1 ||| 2 ^ b, upN S.2.1 b, upN S.2.2 t)) else S
def nsn (v : Rl) (C : Nat → Bool) (S : NS) : Nat → NS
  | 0 => S
  | t + 1 => ns1 v C t (nsn v C S t)
theorem nsn_cong {v : Rl} {C D : Nat → Bool} (S : NS) : ∀ {k : Nat}, (∀ t, t < k → C t = D t) → nsn v C S k = nsn v D S k
  | 0, _ => rfl
  | k + 1, h => by
    rw [nsn, nsn, nsn_cong S (fun t ht => h t (by omega))]
    unfold ns1
    rw [h k (by omega)]
theorem tk0_lt {v : Rl} {t g b : Nat} (h : tk v 0 t g = some b) : b < v 13 0 := by
  rw [tk_no_bait] at h
  exact (scn_lt v 0 t g _ _ h).1
theorem nsn_lt {v : Rl} (h13 : v 13 0 ≤ 10) (C : Nat → Bool) {S : NS} (hS : S.1 < 1024) : ∀ k, (nsn v C S k).1 < 1024
  | 0 => hS
  | k + 1 => by
    have ih := nsn_lt h13 C hS k
    rw [nsn]
    unfold ns1
    split
    · split
      · exact ih
      · rename_i b hb
        have := tk0_lt hb
        exact or_ltN (n := 10) ih (by omega)
    · exact ih
theorem sumN_upN {f : Nat → Nat} {k : Nat} : ∀ {n : Nat}, k < n → sumN (upN f k) n = sumN f n + 1
  | 0, h => absurd h (Nat.not_lt_zero k)
  | n + 1, h => by
    rw [sumN, sumN]
    by_cases c : k = n
    · subst c
      rw [sumN_cong (g := f) (fun i hi => by unfold upN; rw [if_neg (by omega)])]
      unfold upN
      rw [if_pos rfl]
      omega
    · rw [sumN_upN (n := n) (by omega)]
      unfold upN
      rw [if_neg (fun e => c e.symm)]
      omega
theorem nsn_sum {v : Rl} (h13 : v 13 0 ≤ 10) (C : Nat → Bool) (S : NS) : ∀ k, sumN (nsn v C S k).2.1 10 + popc S.1 = sumN S.2.1 10 + popc (nsn v C S k).1
  | 0 => rfl
  | k + 1 => by
    have ih := nsn_sum h13 C S k
    rw [nsn]
    unfold ns1
    split
    · split
      · exact ih
      · rename_i b hb
        have h1 := tk0_lt hb
        have h2 := (tk_some hb).2.2
        have e : popc ((nsn v C S k).1 ||| 2 ^ b) = popc (nsn v C S k).1 + 1 := sumN_off (n := 11) (by omega) h2
        show sumN (upN (nsn v C S k).2.1 b) 10 + popc S.1 = sumN S.2.1 10 + popc ((nsn v C S k).1 ||| 2 ^ b)
        rw [e, sumN_upN (by omega)]
        omega
    · exact ih
def yr (v : Rl) (CC : Nat → Nat → Bool) : Nat → (Nat → Nat) × (Nat → Nat)
  | 0 => (fun _ => 0, fun _ => 0)
  | i + 1 => (nsn v (CC i) (0, (yr v CC i).1, (yr v CC i).2) (v 14 0)).2
theorem popc_le (x : Nat) : popc x ≤ 11 := by
  have := sumN_le (f := fun j => if x.testBit j then 1 else 0) (c := 1) (n := 11) (fun k _ => by split <;> omega)
  unfold popc
  omega
theorem yr_sum {v : Rl} (h13 : v 13 0 ≤ 10) (CC : Nat → Nat → Bool) (i : Nat) : sumN (yr v CC (i + 1)).1 10 = sumN (yr v CC i).1 10 + popc (nsn v (CC i) (0, (yr v CC i).1, (yr v CC i).2) (v 14 0)).1 := by
  have := nsn_sum h13 (CC i) (0, (yr v CC i).1, (yr v CC i).2) (v 14 0)
  rw [show popc 0 = 0 by decide] at this
  exact this
theorem yr_zero : sumN (fun _ => 0) 10 = 0 := rfl
theorem yr_le {v : Rl} (h13 : v 13 0 ≤ 10) (CC : Nat → Nat → Bool) : ∀ i, sumN (yr v CC i).1 10 ≤ 11 * i
  | 0 => by rw [yr, yr_zero]; omega
  | i + 1 => by
    have := yr_le h13 CC i
    have := popc_le (nsn v (CC i) (0, (yr v CC i).1, (yr v CC i).2) (v 14 0)).1
    rw [yr_sum h13]
    omega
/-! the draw -/
def dr (x : Nat) : Nat := (1103515245 * x + 12345) % 2147483648
def dN (x : Nat) : Nat → Nat
  | 0 => x
  | t + 1 => dr (dN x t)
theorem dr_lt (x : Nat) : dr x < 2147483648 := Nat.mod_lt _ (by decide)
theorem dN_lt {x : Nat} (hx : x < 2147483648) : ∀ t, dN x t < 2147483648
  | 0 => hx
  | t + 1 => dr_lt _
theorem andL (a b : Nat) : lN a &&& lN b = lN (a &&& b) := by
  apply Int64.toBitVec_inj.1
  show BitVec.ofNat 64 a &&& BitVec.ofNat 64 b = BitVec.ofNat 64 (a &&& b)
  apply BitVec.eq_of_getLsbD_eq
  intro i hi
  simp [hi]
theorem dr_c (x : Nat) : ((1103515245 * lN x) + 12345) &&& 2147483647 = lN (dr x) := by
  rw [show (1103515245 : Int64) = lN 1103515245 from rfl, lN_mul, show (12345 : Int64) = lN 12345 from rfl, lN_add, show (2147483647 : Int64) = lN (2 ^ 31 - 1) from rfl, andL, Nat.and_two_pow_sub_one_eq_mod]
  rfl
theorem dr_m {x : Nat} (hx : x < 2147483648) : ((1103515245 * lN x) + 12345) - ((1103515245 * lN x) + 12345) / 2147483648 * 2147483648 = lN (dr x) := by
  rw [show (1103515245 : Int64) = lN 1103515245 from rfl, lN_mul, show (12345 : Int64) = lN 12345 from rfl, lN_add, show (2147483648 : Int64) = lN 2147483648 from rfl, pk_lRem (by omega) (by decide) (by decide)]
  rfl
theorem dr_p {y : Nat} (hy : y < 2147483648) : (lN y / 65536) - (lN y / 65536) / 100 * 100 = lN (y / 65536 % 100) := by
  rw [show (65536 : Int64) = lN 65536 from rfl, pk_lDiv (by omega) (by decide) (by decide), show (100 : Int64) = lN 100 from rfl, pk_lRem (by omega) (by decide) (by decide)]
def cmb (v : Rl) (x t : Nat) : Bool := decide (dN x (t + 1) / 65536 % 100 < v 26 t)
def msk (v : Rl) (x : Nat) : Nat → Nat
  | 0 => 0
  | t + 1 => if cmb v x t = true then msk v x t ||| 2 ^ t else msk v x t
theorem msk_lt (v : Rl) (x : Nat) : ∀ t, msk v x t < 2 ^ t
  | 0 => by rw [msk]; decide
  | t + 1 => by
    have := msk_lt v x t
    have h2 : msk v x t < 2 ^ (t + 1) := Nat.lt_of_lt_of_le this (Nat.pow_le_pow_right (by decide) (by omega))
    rw [msk]
    split
    · exact or_ltN h2 (by omega)
    · exact h2
theorem msk_bit (v : Rl) (x : Nat) {t : Nat} : ∀ {k : Nat}, t < k → (msk v x k).testBit t = cmb v x t
  | 0, h => absurd h (Nat.not_lt_zero t)
  | k + 1, h => by
    rw [msk]
    by_cases c : t = k
    · subst c
      have hz : (msk v x t).testBit t = false := Nat.testBit_lt_two_pow (msk_lt v x t)
      split
      · rename_i e
        rw [tb_or, e]
        simp
      · rename_i e
        rw [hz]
        simpa using e
    · have ih := msk_bit v x (k := k) (t := t) (by omega)
      split
      · rw [tb_or, ih]
        simp
        intro e
        omega
      · exact ih
def xs (v : Rl) (s : Nat) : Nat → Nat
  | 0 => s
  | i + 1 => dN (xs v s i) (v 14 0)
theorem xs_lt {v : Rl} {s : Nat} (hs : s < 2147483648) : ∀ i, xs v s i < 2147483648
  | 0 => hs
  | i + 1 => dN_lt (xs_lt hs i) _
def CR (v : Rl) (s : Nat) : Nat → Nat → Bool := fun i t => cmb v (xs v s i) t
/-- the rail with a year -/
def vy (v : Rl) (T K : Nat → Nat) : Rl := fun f k => if f = 15 then 1 else if f = 30 then T k else if f = 31 then K k else v f k
theorem vy_f {v : Rl} {T K : Nat → Nat} {f : Nat} (h1 : f ≠ 15) (h2 : f ≠ 30) (h3 : f ≠ 31) : vy v T K f = v f := funext fun k => by
  unfold vy
  rw [if_neg h1, if_neg h2, if_neg h3]
theorem okR.y {v : Rl} (hv : okR v) (T K : Nat → Nat) : okR (vy v T K) := by
  obtain ⟨⟨⟨h0, h1, h2, h3, h4, h5, h6, h7, h8, h9, h10, h11, h12, h13, h14, h15, h16⟩, b1, b2, b3, b4, b5, b6⟩, hj, hz⟩ := hv
  exact ⟨⟨⟨h0, h1, h2, h3, h4, h5, h6, h7, h8, h9, h10, h11, h12, h13, h14, Nat.le_refl 1, h16⟩, b1, b2, b3, b4, b5, b6⟩, hj, hz⟩
theorem RelC.y {v : Rl} {rs rs' : A1} {ra ra' : A2} (hC : RelC v rs ra) {T K : Nat → Nat} (h1 : ∀ j, j ≠ 15 → rs' j = rs j) (h2 : rs' 15 = 1) (h3 : ∀ j, j ≠ 14 → j ≠ 15 → ra' j = ra j) (h4 : ∀ b, b < 10 → ra' 14 b = nI (T b)) (h5 : ∀ t, t < 6 → ra' 15 t = nI (K t)) : RelC (vy v T K) rs' ra' := by
  obtain ⟨r0, r1, r2, r3, r4, r5, r6, r7⟩ := hC
  refine ⟨fun j hj => ?_, ?_⟩
  · by_cases c : j = 15
    · rw [c, h2]; rfl
    · rw [h1 j c, r0 j hj, vy_f c (by omega) (by omega)]
  · rw [h3 0 (by decide) (by decide), h3 1 (by decide) (by decide), h3 2 (by decide) (by decide), h3 3 (by decide) (by decide), h3 4 (by decide) (by decide), h3 5 (by decide) (by decide), h3 6 (by decide) (by decide), h3 7 (by decide) (by decide), h3 8 (by decide) (by decide), h3 9 (by decide) (by decide), h3 10 (by decide) (by decide), h3 11 (by decide) (by decide), h3 12 (by decide) (by decide), h3 13 (by decide) (by decide)]
    exact ⟨r1, r2, r3, r4, r5, fun _ => ⟨h4, h5⟩, r7⟩
section YR
variable {us : A1} {ua : A2} {rs : A1} {ra ra2 sa : A2} {sl : L2} {ns : A1} {na : A2} {nl : L2} {yt : Int32} {im : Img} {ms : A1} {ma : A2} {ml : L2}
theorem Inv.year (hI : Inv us ua rs ra ra2 sa sl ns na nl yt im ms ma ml) {v : Rl} (hv : okR v) {T K : Nat → Nat} {rs' : A1} {ra' : A2} (hC : RelC (vy v T K) rs' ra') (hN : RelN v 0 ma) (hT : RelT v 0 ma) (hP : RelP v 0 ma) {r : Nat → Int32} (r0 : r 0 = 1) (r1 : ∀ b, b < 10 → r (1 + b) = nI (T b)) (r2 : ∀ t, t < 6 → r (11 + t) = nI (K t)) (r3 : ∀ x, 17 ≤ x → r x = ma 16 x) {ns' : A1} {na' : A2} {nl' : L2} (hK : NOK ns' na' nl') : Inv us ua rs' ra' ra2 sa sl ns' na' nl' yt im ms (va_up ma 16 r) ml := by
  obtain ⟨hTp, -, hB, -, hS, hIm, h10, hy⟩ := hI
  have e : ∀ j, j ≠ 16 → va_up ma 16 r j = ma j := fun j hj => up_ne hj
  refine ⟨?_, ⟨vy v T K, hv.y T K, hC, ?_, ?_, ?_, ?_⟩, hB, hK, ?_, ?_, h10, hy⟩
  · unfold TapeR at hTp ⊢
    rw [e 2 (by decide)]
    exact hTp
  · exact RelN.fr (v := vy v T K) (ma := ma) hN (fun i _ _ => e i (by omega))
  · exact RelT.eq (v := vy v T K) (ma := ma) hT (e 12 (by decide)) (e 13 (by decide))
  · exact RelP.eq (v := vy v T K) (ma := ma) hP (e 6 (by decide)) (e 7 (by decide))
  · unfold RelY
    rw [up_at]
    exact ⟨r0, fun _ => ⟨fun b hb => by rw [show 17 * 0 + 1 + b = 1 + b by omega]; exact r1 b hb, fun t ht => by rw [show 17 * 0 + 11 + t = 11 + t by omega]; exact r2 t ht⟩⟩
  · intro k hk
    rw [e 0 (by decide), e 1 (by decide)]
    exact hS k hk
  · intro k hk
    have hh := hIm k hk
    cases hm : im k with
    | none =>
      rw [hm] at hh
      simp only at hh ⊢
      rw [e 17 (by decide)]
      exact hh
    | some q =>
      rw [hm] at hh
      simp only at hh ⊢
      rw [e 17 (by decide)]
      obtain ⟨g0, w, g1, g2, g3, g4, g5, g6⟩ := hh
      refine ⟨g0, w, g1, g2, g3.fr (fun i _ _ => e i (by omega)), g4.eq (e 12 (by decide)) (e 13 (by decide)), g5.eq (e 6 (by decide)) (e 7 (by decide)), ?_⟩
      unfold RelY at g6 ⊢
      rw [up_at, r3 _ (by omega)]
      exact ⟨g6.1, fun h => ⟨fun b hb => by rw [r3 _ (by omega)]; exact (g6.2 h).1 b hb, fun t ht => by rw [r3 _ (by omega)]; exact (g6.2 h).2 t ht⟩⟩
/-! the class -/
theorem c_yearBegin {x : Int32} {et eo : Nat → Int32} {post : Int32 → (Nat → Int32) → (Nat → Int32) → Prop} (h : ∀ tak too, (∀ b, b < 10 → tak b = 0) → (∀ t, t < 6 → too t = 0) → post 1 tak too) : P_X10_begin x et eo post := by
  have L2 : ∀ (tak : Nat → Int32), (∀ b, b < 10 → tak b = 0) → ∀ (k i : Nat) (too : Nat → Int32), i + k = 6 → (∀ t, t < i → too t = 0) → P_X10_begin_28 post 1 tak (k + 1) (nI i) too := by
    intro tak ht k
    induction k with
    | zero =>
      intro i too hi q
      obtain rfl : i = 6 := by omega
      exact ⟨fun _ => h tak too ht q, fun c => absurd (nI_le (a := 6) (b := 6) (by decide) (by decide)) c⟩
    | succ k ih =>
      intro i too hi q
      refine ⟨fun c => absurd ((nI_leI (a := 6) (by decide) (by omega)).mp c) (by omega), fun _ => ⟨vp_in_nI (by omega) (by decide), ?_⟩⟩
      rw [nI_1, nI_clamp (by omega)]
      refine ih (i + 1) _ (by omega) (fun t ht => ?_)
      by_cases c : t = i
      · rw [c, u_at]
      · rw [u_ne c]; exact q t (by omega)
  have L1 : ∀ (k i : Nat) (tak : Nat → Int32), i + k = 10 → (∀ b, b < i → tak b = 0) → P_X10_begin_7 post (fun (a_isThere : Int32) (a_taken : Nat → Int32) (x1_ : Int32) (a_took : Nat → Int32) => (∃ n : Nat, P_X10_begin_28 post a_isThere a_taken n x1_ a_took)) 1 eo (k + 1) (nI i) tak := by
    intro k
    induction k with
    | zero =>
      intro i tak hi q
      obtain rfl : i = 10 := by omega
      exact ⟨fun _ => ⟨7, L2 tak q 6 0 eo (by omega) (fun t ht => by omega)⟩, fun c => absurd (nI_le (a := 10) (b := 10) (by decide) (by decide)) c⟩
    | succ k ih =>
      intro i tak hi q
      refine ⟨fun c => absurd ((nI_leI (a := 10) (by decide) (by omega)).mp c) (by omega), fun _ => ⟨vp_in_nI (by omega) (by decide), ?_⟩⟩
      rw [nI_1, nI_clamp (by omega)]
      refine ih (i + 1) _ (by omega) (fun t ht => ?_)
      by_cases c : t = i
      · rw [c, u_at]
      · rw [u_ne c]; exact q t (by omega)
  exact ⟨11, L1 10 0 et (by omega) (fun b hb => by omega)⟩
theorem c_letAll {v : Rl} (hv : okR v) (hN : NR v 0 ns na) {c : Nat} (hc : c < 2 ^ 31) {T K : Nat → Nat} {et eo : Nat → Int32} (h1 : ∀ b, b < 10 → et b = nI (T b)) (h2 : ∀ t, t < 6 → eo t = nI (K t)) {post : Int32 → (Nat → Int32) → (Nat → Int32) → Prop} (h : ∀ tak too, (∀ b, b < 10 → tak b = nI ((nsn v (fun t => c.testBit t) (0, T, K) (v 14 0)).2.1 b)) → (∀ t, t < 6 → too t = nI ((nsn v (fun t => c.testBit t) (0, T, K) (v 14 0)).2.2 t)) → post (nI (popc (nsn v (fun t => c.testBit t) (0, T, K) (v 14 0)).1)) tak too) : P_X3_letAllCome ns na et eo (nI c) (nI (v 14 0)) post := by
  have h13 := ok13 hv.1
  have h14 := ok14 hv.1
  have e0 : ns 0 = nI (v 13 0) := hN.1
  have L : ∀ (k i : Nat) (tak too : Nat → Int32), i + k = v 14 0 → (∀ b, b < 10 → tak b = nI ((nsn v (fun t => c.testBit t) (0, T, K) i).2.1 b)) → (∀ t, t < 6 → too t = nI ((nsn v (fun t => c.testBit t) (0, T, K) i).2.2 t)) → P_X3_letAllCome_6 ns na (nI c) (nI (v 14 0)) post (fun (x4_ : Int32) (e_taken : Nat → Int32) (e_took : Nat → Int32) => P_X3_letAllCome_88 ns na (nI c) (nI (v 14 0)) post x4_ e_taken e_took) (k + 1) (nI (nsn v (fun t => c.testBit t) (0, T, K) i).1) (nI i) tak too := by
    intro k
    induction k with
    | zero =>
      intro i tak too hi q1 q2
      obtain rfl : i = v 14 0 := by omega
      have := nsn_lt h13 (fun t => c.testBit t) (S := (0, T, K)) (show (0 : Nat) < 1024 by decide) (v 14 0)
      exact ⟨fun _ => c_bitCount (by omega) (h tak too q1 q2), fun z => absurd (nI_le (Nat.le_refl _) (by omega)) z⟩
    | succ k ih =>
      intro i tak too hi q1 q2
      have hlt := nsn_lt h13 (fun t => c.testBit t) (S := (0, T, K)) (show (0 : Nat) < 1024 by decide) i
      refine ⟨fun z => absurd ((nI_leI (by omega) (by omega)).mp z) (by omega), fun _ => ?_⟩
      rw [bit_o hc (by omega)]
      have go := ih (i + 1)
      rw [nsn] at go
      unfold ns1 at go
      refine ⟨fun z => ?_, fun z => ?_⟩
      · rw [if_neg z] at go
        refine ⟨fun _ => ?_, fun w => absurd rfl w⟩
        rw [nI_1]
        exact go tak too (by omega) q1 q2
      · rw [if_pos z] at go
        refine c_pickN hN (by omega) h14 (by omega) ?_
        cases hk : tk v 0 i (nsn v (fun t => c.testBit t) (0, T, K) i).1 with
        | none =>
          rw [hk] at go
          refine ⟨fun _ => ?_, fun w => absurd rfl w⟩
          rw [nI_1]
          exact go tak too (by omega) q1 q2
        | some b =>
          rw [hk] at go
          have hb := tk0_lt hk
          rw [show oI (some b) = nI b from rfl]
          refine ⟨fun w => absurd w (nI_nm1 (by omega)), fun _ => ⟨fun w => absurd ((nI_eq (by omega) (by omega)).mp (w.trans e0)) (by omega), fun _ x hx => ⟨vp_in_nI (by omega) (by decide), vp_in_nI (by omega) (by decide), vp_in_nI (by omega) (by decide), vp_in_nI (by omega) (by decide), ?_⟩⟩⟩
          rw [sh1 (by omega), fa_or] at hx
          rw [hx, nI_1, nI_clamp (by omega), nI_clamp (by omega), q1 b (by omega), q2 i (by omega), nI_1, nI_1]
          refine go _ _ (by omega) (fun y hy => ?_) (fun y hy => ?_)
          · show upd tak b (nI ((nsn v (fun t => c.testBit t) (0, T, K) i).2.1 b + 1)) y = nI (upN (nsn v (fun t => c.testBit t) (0, T, K) i).2.1 b y)
            unfold upN
            by_cases w : y = b
            · rw [w, u_at, if_pos rfl]
            · rw [u_ne w, if_neg w]; exact q1 y hy
          · show upd too i (nI ((nsn v (fun t => c.testBit t) (0, T, K) i).2.2 i + 1)) y = nI (upN (nsn v (fun t => c.testBit t) (0, T, K) i).2.2 i y)
            unfold upN
            by_cases w : y = i
            · rw [w, u_at, if_pos rfl]
            · rw [u_ne w, if_neg w]; exact q2 y hy
  exact ⟨v 14 0 + 1, L (v 14 0) 0 et eo (by omega) h1 h2⟩
end YR
end
section
/-! a year is drawn -/
section RN
variable {us : A1} {ua : A2} {rs : A1} {ra ra2 sa : A2} {sl : L2} {ns : A1} {na : A2} {nl : L2} {yt : Int32} {im : Img} {ms : A1} {ma : A2} {ml : L2}
theorem c_drawAl {v : Rl} (hv : okR v) (hC : RelC v rs ra) (hN : NR v 0 ns na) {s : Nat} (hs : s < 2147483648) {post : Int32 → A1 → A2 → Prop} (h : ∀ rs' ra', RelC (vy v (yr v (CR v s) (v 1 0)).1 (yr v (CR v s) (v 1 0)).2) rs' ra' → post (nI (sumN (yr v (CR v s) (v 1 0)).1 10)) rs' ra') : P_X3_drawYear_al ns na rs ra (nI s) post := by
  have h13 := ok13 hv.1
  have h14 := ok14 hv.1
  have h1 := ok1 hv.1
  refine c_yearBegin (fun tak too b1 b2 x hx => ?_)
  rw [nI_l (by omega)] at hx
  subst hx
  have e14 : va_up rs 15 1 14 = nI (v 14 0) := by rw [up_ne (by decide)]; exact rc_s hC 14
  have e1 : va_up rs 15 1 1 = nI (v 1 0) := by rw [up_ne (by decide)]; exact rc_s hC 1
  -- who comes
  have I : ∀ (x : Nat), x < 2147483648 → ∀ (rx : A2), (∀ j, j ≠ 14 → j ≠ 15 → rx j = ra j) → ∀ (x6 x7 : Int32) (K97 : Int64 → Int32 → Int32 → Int32 → A2 → Prop), K97 (lN (dN x (v 14 0))) x6 x7 (nI (msk v x (v 14 0))) rx → ∃ n, P_X3_drawYear_al_29 ns na (nI s) (va_up rs 15 1) post K97 x6 x7 rx n (lN x) 0 0 := by
    intro x hx rx hrx x6 x7 K97 kk
    have L : ∀ (k i : Nat), i + k = v 14 0 → P_X3_drawYear_al_29 ns na (nI s) (va_up rs 15 1) post K97 x6 x7 rx (k + 1) (lN (dN x i)) (nI (msk v x i)) (nI i) := by
      intro k
      induction k with
      | zero =>
        intro i hi
        obtain rfl : i = v 14 0 := by omega
        exact ⟨fun _ => kk, fun c => absurd ((cmp_le e14 (by omega) (by omega)).mpr (Nat.le_refl _)) c⟩
      | succ k ih =>
        intro i hi
        have hlt := dN_lt hx (i + 1)
        have b26 := (hv.1.2.2.2.2.2.1 i (by omega)).2.1
        have go := ih (i + 1) (by omega)
        rw [msk] at go
        refine ⟨fun c => absurd ((cmp_le e14 (by omega) (by omega)).mp c) (by omega), fun _ y hy => ⟨vp_in_nI (by omega) (by decide), ?_⟩⟩
        rw [dr_c, show dr (dN x i) = dN x (i + 1) from rfl] at hy
        rw [hy, dr_p hlt, nI_clamp (by omega), hrx 10 (by decide) (by decide), (hC.2.2.2.2.2.1 i (by omega)).2.1, nI_l (by omega), lN_le (by omega) (by omega), nI_1]
        refine ⟨fun c => ?_, fun c z hz => ?_⟩
        · rw [if_neg (by unfold cmb; simp; omega)] at go
          exact go
        · rw [if_pos (by unfold cmb; simp; omega)] at go
          rw [sh1 (by omega), fa_or] at hz
          rw [hz]
          exact go
    exact ⟨v 14 0 + 1, L (v 14 0) 0 (by omega)⟩
  have L : ∀ (k i : Nat) (rx : A2), i + k = v 1 0 → (∀ j, j ≠ 14 → j ≠ 15 → rx j = ra j) → (∀ b, b < 10 → rx 14 b = nI ((yr v (CR v s) i).1 b)) → (∀ t, t < 6 → rx 15 t = nI ((yr v (CR v s) i).2 t)) → P_X3_drawYear_al_14 ns na (nI s) post (va_up rs 15 1) (k + 1) (lN (xs v s i)) (nI (sumN (yr v (CR v s) i).1 10)) (nI i) rx := by
    intro k
    induction k with
    | zero =>
      intro i rx hi q1 q2 q3
      obtain rfl : i = v 1 0 := by omega
      exact ⟨fun _ => h _ _ (hC.y (fun j hj => up_ne hj) up_at q1 q2 q3), fun c => absurd ((cmp_le e1 (by omega) (by omega)).mpr (Nat.le_refl _)) c⟩
    | succ k ih =>
      intro i rx hi q1 q2 q3
      refine ⟨fun c => absurd ((cmp_le e1 (by omega) (by omega)).mp c) (by omega), fun _ => ?_⟩
      refine I (xs v s i) (xs_lt hs i) rx q1 _ _ _ ?_
      unfold P_X3_drawYear_al_97
      rw [e14]
      have hm : msk v (xs v s i) (v 14 0) < 2 ^ 31 := Nat.lt_of_lt_of_le (msk_lt _ _ _) (Nat.pow_le_pow_right (by decide) (by omega))
      have ec : nsn v (fun t => (msk v (xs v s i) (v 14 0)).testBit t) (0, (yr v (CR v s) i).1, (yr v (CR v s) i).2) (v 14 0) = nsn v (CR v s i) (0, (yr v (CR v s) i).1, (yr v (CR v s) i).2) (v 14 0) := nsn_cong _ (fun t ht => msk_bit v _ ht)
      refine c_letAll hv hN hm q2 q3 (fun tak too t1 t2 x hx => ?_)
      rw [ec] at t1 t2 hx
      rw [nI_add, ← yr_sum h13] at hx
      rw [hx, nI_1]
      exact ih (i + 1) _ (by omega) (fun j a b => by rw [up_ne b, up_ne a]; exact q1 j a b) (fun b hb => by rw [up_ne (by decide), up_at]; exact t1 b hb) (fun t ht => by rw [up_at]; exact t2 t ht)
  exact ⟨v 1 0 + 1, L (v 1 0) 0 _ (by omega) (fun j a b => by rw [up_ne b, up_ne a]) (fun b hb => by rw [up_ne (by decide), up_at]; exact b1 b hb) (fun t ht => by rw [up_at]; exact b2 t ht)⟩
theorem c_draw {v : Rl} (hv : okR v) (hC : RelC v rs ra) (hN : NR v 0 ns na) {s : Nat} (hs : s < 2147483648) (yt : Int32) (et eo : Nat → Int32) {post : Int32 → Int32 → (Nat → Int32) → (Nat → Int32) → Prop} (h : ∀ tak too, (∀ b, b < 10 → tak b = nI ((yr v (CR v s) (v 1 0)).1 b)) → post (nI (sumN (yr v (CR v s) (v 1 0)).1 10)) 1 tak too) : P_X3_drawYear ns na rs ra yt et eo (nI s) post := by
  have h13 := ok13 hv.1
  have h14 := ok14 hv.1
  have h1 := ok1 hv.1
  refine c_yearBegin (fun tak too b1 b2 x hx => ?_)
  rw [nI_l (by omega)] at hx
  subst hx
  have e14 : rs 14 = nI (v 14 0) := rc_s hC 14
  have e1 : rs 1 = nI (v 1 0) := rc_s hC 1
  have I : ∀ (x : Nat), x < 2147483648 → ∀ (x6 x7 : Int32) (tak too : Nat → Int32) (K97 : Int64 → Int32 → Int32 → Int32 → (Nat → Int32) → (Nat → Int32) → Prop), K97 (lN (dN x (v 14 0))) x6 x7 (nI (msk v x (v 14 0))) tak too → ∃ n, P_X3_drawYear_29 ns na rs ra (nI s) 1 post K97 x6 x7 tak too n (lN x) 0 0 := by
    intro x hx x6 x7 tak too K97 kk
    have L : ∀ (k i : Nat), i + k = v 14 0 → P_X3_drawYear_29 ns na rs ra (nI s) 1 post K97 x6 x7 tak too (k + 1) (lN (dN x i)) (nI (msk v x i)) (nI i) := by
      intro k
      induction k with
      | zero =>
        intro i hi
        obtain rfl : i = v 14 0 := by omega
        exact ⟨fun _ => kk, fun c => absurd ((cmp_le e14 (by omega) (by omega)).mpr (Nat.le_refl _)) c⟩
      | succ k ih =>
        intro i hi
        have hlt := dN_lt hx (i + 1)
        have b26 := (hv.1.2.2.2.2.2.1 i (by omega)).2.1
        have go := ih (i + 1) (by omega)
        rw [msk] at go
        refine ⟨fun c => absurd ((cmp_le e14 (by omega) (by omega)).mp c) (by omega), fun _ y hy => ⟨vp_in_nI (by omega) (by decide), ?_⟩⟩
        rw [dr_c, show dr (dN x i) = dN x (i + 1) from rfl] at hy
        rw [hy, dr_p hlt, nI_clamp (by omega), (hC.2.2.2.2.2.1 i (by omega)).2.1, nI_l (by omega), lN_le (by omega) (by omega), nI_1]
        refine ⟨fun c => ?_, fun c z hz => ?_⟩
        · rw [if_neg (by unfold cmb; simp; omega)] at go
          exact go
        · rw [if_pos (by unfold cmb; simp; omega)] at go
          rw [sh1 (by omega), fa_or] at hz
          rw [hz]
          exact go
    exact ⟨v 14 0 + 1, L (v 14 0) 0 (by omega)⟩
  have L : ∀ (k i : Nat) (tak too : Nat → Int32), i + k = v 1 0 → (∀ b, b < 10 → tak b = nI ((yr v (CR v s) i).1 b)) → (∀ t, t < 6 → too t = nI ((yr v (CR v s) i).2 t)) → P_X3_drawYear_14 ns na rs ra (nI s) post 1 (k + 1) (lN (xs v s i)) (nI (sumN (yr v (CR v s) i).1 10)) (nI i) tak too := by
    intro k
    induction k with
    | zero =>
      intro i tak too hi q2 q3
      obtain rfl : i = v 1 0 := by omega
      exact ⟨fun _ => h tak too q2, fun c => absurd ((cmp_le e1 (by omega) (by omega)).mpr (Nat.le_refl _)) c⟩
    | succ k ih =>
      intro i tak too hi q2 q3
      refine ⟨fun c => absurd ((cmp_le e1 (by omega) (by omega)).mp c) (by omega), fun _ => ?_⟩
      refine I (xs v s i) (xs_lt hs i) _ _ _ _ _ ?_
      unfold P_X3_drawYear_97
      rw [e14]
      have hm : msk v (xs v s i) (v 14 0) < 2 ^ 31 := Nat.lt_of_lt_of_le (msk_lt _ _ _) (Nat.pow_le_pow_right (by decide) (by omega))
      have ec : nsn v (fun t => (msk v (xs v s i) (v 14 0)).testBit t) (0, (yr v (CR v s) i).1, (yr v (CR v s) i).2) (v 14 0) = nsn v (CR v s i) (0, (yr v (CR v s) i).1, (yr v (CR v s) i).2) (v 14 0) := nsn_cong _ (fun t ht => msk_bit v _ ht)
      refine c_letAll hv hN hm q2 q3 (fun tak too t1 t2 x hx => ?_)
      rw [ec] at t1 t2 hx
      rw [nI_add, ← yr_sum h13] at hx
      rw [hx, nI_1]
      exact ih (i + 1) _ _ (by omega) t1 t2
  exact ⟨v 1 0 + 1, L (v 1 0) 0 _ _ (by omega) b1 b2⟩
/-! the reference -/
/-- row 21 holds what was taken, and by whom -/
def YRm (ma : A2) (T K : Nat → Nat) : Prop := (∀ b, b < 10 → ma 21 b = nI (T b)) ∧ ∀ t, t < 6 → ma 21 (10 + t) = nI (K t)
theorem m_newYear {v : Rl} (hv : okR v) (hM : RM v 0 ms ma) {post : A1 → A2 → Prop} (h : ∀ mb, LR v 0 (v 13 0) (va_up ms 12 (nI (v 13 0))) mb → (∀ j, j ≠ 18 → j ≠ 19 → j ≠ 21 → mb j = ma j) → YRm mb (fun _ => 0) (fun _ => 0) → post (va_up ms 12 (nI (v 13 0))) mb) : P_X12_newYear ms ma post := by
  refine m_lays hv.1 hM none (by decide) (fun mb hL hmb => ?_)
  have L : ∀ (k i : Nat) (mc : A2), i + k = 16 → (∀ j, j ≠ 21 → mc j = mb j) → (∀ x, x < i → mc 21 x = 0) → P_X12_newYear_7 post (va_up ms 12 (nI (v 13 0))) (k + 1) (nI i) mc := by
    intro k
    induction k with
    | zero =>
      intro i mc hi q1 q2
      obtain rfl : i = 16 := by omega
      refine ⟨fun _ => h mc ?_ (fun j a b c => by rw [q1 j c]; exact hmb j a b) ⟨fun b hb => q2 b (by omega), fun t ht => q2 _ (by omega)⟩, fun c => absurd (nI_le (a := 16) (b := 16) (by decide) (by decide)) c⟩
      unfold LR at hL ⊢
      rw [q1 18 (by decide), q1 19 (by decide)]
      exact hL
    | succ k ih =>
      intro i mc hi q1 q2
      refine ⟨fun c => absurd ((nI_leI (a := 16) (by decide) (by omega)).mp c) (by omega), fun _ => ⟨vp_in_nI (by omega) (by decide), ?_⟩⟩
      rw [nI_1, nI_clamp (by omega)]
      refine ih (i + 1) _ (by omega) (fun j hj => by rw [up_ne hj]; exact q1 j hj) (fun x hx => ?_)
      rw [up_at]
      by_cases c : x = i
      · rw [c, u_at]
      · rw [u_ne c]; exact q2 x (by omega)
  exact ⟨17, L 16 0 mb (by omega) (fun _ _ => rfl) (fun x hx => by omega)⟩
theorem m_comes {v : Rl} (hv : okR v) (hT : RelT v 0 ma) (hL : LR v 0 (v 13 0) ms ma) {t : Nat} (ht : t < v 14 0) {S : NS} (hS : S.1 < 1024) (hY : YRm ma S.2.1 S.2.2) {C : Nat → Bool} (hC : C t = true) {post : Int32 → A2 → Prop} (h : ∀ mb, (∀ j, j ≠ 21 → mb j = ma j) → YRm mb (ns1 v C t S).2.1 (ns1 v C t S).2.2 → post (nI (ns1 v C t S).1) mb) : P_X12_comes ms ma (nI t) (nI S.1) post := by
  have h13 := ok13 hv.1
  have h14 := ok14 hv.1
  refine m_takesOf (s := 0) hv.1 hv.2.1 (by decide) hT hL ht (by omega) ?_
  unfold ns1 at h
  rw [if_pos hC] at h
  cases hk : tk v 0 t S.1 with
  | none =>
    rw [hk] at h
    exact ⟨fun c => absurd rfl c, fun _ => h ma (fun _ _ => rfl) hY⟩
  | some b =>
    rw [hk] at h
    have hb := tk0_lt hk
    rw [show oI (some b) = nI b from rfl]
    refine ⟨fun _ => ?_, fun c => absurd c (nI_nm1 (by omega))⟩
    rw [show (10 : Int32) + nI t = nI (10 + t) by simp only [fa_lit, nI_add], sh1 (by omega), fa_or, nI_clamp (by omega), nI_clamp (by omega), u_ne (show 10 + t ≠ b by omega), hY.1 b (by omega), hY.2 t (by omega), nI_1, nI_1]
    refine ⟨vp_in_nI (by omega) (by decide), vp_in_nI (by omega) (by decide), vp_in_nI (by omega) (by decide), vp_in_nI (by omega) (by decide), h _ (fun j hj => up_ne hj) ⟨fun y hy => ?_, fun y hy => ?_⟩⟩
    · rw [up_at, u_ne (by omega)]
      show upd (ma 21) b (nI (S.2.1 b + 1)) y = nI (upN S.2.1 b y)
      unfold upN
      by_cases w : y = b
      · rw [w, u_at, if_pos rfl]
      · rw [u_ne w, if_neg w]; exact hY.1 y hy
    · rw [up_at]
      show upd _ (10 + t) (nI (S.2.2 t + 1)) (10 + y) = nI (upN S.2.2 t y)
      unfold upN
      by_cases w : y = t
      · rw [w, u_at, if_pos rfl]
      · rw [u_ne (by omega), u_ne (by omega), if_neg w]; exact hY.2 y hy
theorem m_draws {v : Rl} (hv : okR v) (hM : RM v 0 ms ma) (mw : Nat → Int64) {s : Nat} (hs : s < 2147483648) {post : A1 → (Nat → Int64) → A2 → Prop} (h : ∀ mt mw' mb, RM v 0 mt mb → MG ms ma ml mt mb ml → YRm mb (yr v (CR v s) (v 1 0)).1 (yr v (CR v s) (v 1 0)).2 → post mt mw' mb) : P_X12_draws ms mw ma (lN s) post := by
  have h13 := ok13 hv.1
  have h14 := ok14 hv.1
  have h1 := ok1 hv.1
  refine m_newYear hv hM (fun mb hL hmb hY0 => ?_)
  have RMx : ∀ mc : A2, (∀ j, j ≠ 21 → mc j = mb j) → RM v 0 (va_up ms 12 (nI (v 13 0))) mc := fun mc hc => hM.fr (fun i _ _ => by rw [hc i (by omega)]; exact hmb i (by omega) (by omega) (by omega)) (up_ne (by decide)) (up_ne (by decide))
  have LRx : ∀ mc : A2, (∀ j, j ≠ 21 → mc j = mb j) → LR v 0 (v 13 0) (va_up ms 12 (nI (v 13 0))) mc := fun mc hc => by
    unfold LR at hL ⊢
    rw [hc 18 (by decide), hc 19 (by decide)]
    exact hL
  have I : ∀ (i : Nat) (R11 : Int32 → (Nat → Int64) → A2 → Prop) (mc : A2) (mw' : Nat → Int64), (∀ j, j ≠ 21 → mc j = mb j) → mw' 4 = lN (xs v s i) → YRm mc (yr v (CR v s) i).1 (yr v (CR v s) i).2 → (∀ mw2 md, (∀ j, j ≠ 21 → md j = mb j) → mw2 4 = lN (xs v s (i + 1)) → YRm md (yr v (CR v s) (i + 1)).1 (yr v (CR v s) (i + 1)).2 → R11 (nI (i + 1)) mw2 md) → ∃ n, P_X12_draws_27 (lN s) (va_up ms 12 (nI (v 13 0))) post R11 (nI i) n 0 0 mw' mc := by
    intro i R11 mc mw' g1 g2 g3 kk
    have L : ∀ (k t : Nat) (w : Nat → Int64) (md : A2), t + k = v 14 0 → (∀ j, j ≠ 21 → md j = mb j) → w 4 = lN (dN (xs v s i) t) → YRm md (nsn v (CR v s i) (0, (yr v (CR v s) i).1, (yr v (CR v s) i).2) t).2.1 (nsn v (CR v s i) (0, (yr v (CR v s) i).1, (yr v (CR v s) i).2) t).2.2 → P_X12_draws_27 (lN s) (va_up ms 12 (nI (v 13 0))) post R11 (nI i) (k + 1) (nI (nsn v (CR v s i) (0, (yr v (CR v s) i).1, (yr v (CR v s) i).2) t).1) (nI t) w md := by
      intro k
      induction k with
      | zero =>
        intro t w md ht q1 q2 q3
        obtain rfl : t = v 14 0 := by omega
        refine ⟨fun _ => ?_, fun c => absurd ((cmp_le (RMx md q1).2.1.1 (by omega) (by omega)).mpr (Nat.le_refl _)) c⟩
        rw [nI_1]
        exact kk w md q1 q2 q3
      | succ k ih =>
        intro t w md ht q1 q2 q3
        have hx := xs_lt (v := v) hs i
        have hlt := dN_lt hx (t + 1)
        have b26 := (hv.1.2.2.2.2.2.1 t (by omega)).2.1
        have e26 := ((RMx md q1).2.1.2 t (by omega)).2.1
        refine ⟨fun c => absurd ((cmp_le (RMx md q1).2.1.1 (by omega) (by omega)).mp c) (by omega), fun _ y hy => ?_⟩
        rw [q2, dr_m (dN_lt hx t), show dr (dN (xs v s i) t) = dN (xs v s i) (t + 1) from rfl] at hy
        rw [hy, dr_p hlt, lN_i, show (5 : Int32) * nI t + 1 = nI (5 * (6 * 0 + t) + 1) by rw [show 6 * 0 + t = t by omega]; simp only [fa_lit, pk_mul, nI_add], nI_clamp (by omega), e26, nI_leI (by omega) (by omega), nI_1]
        have hlt2 := nsn_lt h13 (CR v s i) (S := (0, (yr v (CR v s) i).1, (yr v (CR v s) i).2)) (show (0 : Nat) < 1024 by decide) t
        refine ⟨vp_in_nI (by omega) (by decide), fun c => ?_, fun c => ?_⟩
        · have cf : ¬ CR v s i t = true := by unfold CR cmb; simp; omega
          have go := ih (t + 1) (va_up w 4 (lN (dN (xs v s i) (t + 1)))) md (by omega) q1 up_at
          rw [nsn] at go
          unfold ns1 at go
          rw [if_neg cf] at go
          exact go q3
        · have cf : CR v s i t = true := by unfold CR cmb; simp; omega
          refine m_comes hv (RMx md q1).2.1 (LRx md q1) (by omega) hlt2 q3 cf (fun me e1 e2 => ?_)
          have go := ih (t + 1) (va_up w 4 (lN (dN (xs v s i) (t + 1)))) me (by omega) (fun j hj => (e1 j hj).trans (q1 j hj)) up_at
          rw [nsn] at go
          exact go e2
    exact ⟨v 14 0 + 1, L (v 14 0) 0 mw' mc (by omega) g1 g2 g3⟩
  have L : ∀ (k i : Nat) (w : Nat → Int64) (mc : A2), i + k = v 1 0 → (∀ j, j ≠ 21 → mc j = mb j) → w 4 = lN (xs v s i) → YRm mc (yr v (CR v s) i).1 (yr v (CR v s) i).2 → P_X12_draws_11 (lN s) post (va_up ms 12 (nI (v 13 0))) (k + 1) (nI i) w mc := by
    intro k
    induction k with
    | zero =>
      intro i w mc hi q1 q2 q3
      obtain rfl : i = v 1 0 := by omega
      have e5 : mc 5 0 = nI (v 1 0) := (RMx mc q1).1.1.2.2.1
      have q : ∀ j, j ≠ 18 → j ≠ 19 → j ≠ 21 → mc j = ma j := fun j a b c => (q1 j c).trans (hmb j a b c)
      exact ⟨fun _ => h _ _ _ (RMx mc q1) ⟨fun j _ b _ => up_ne b, fun j hj _ _ _ => q j (by omega) (by omega) (by omega), fun x _ => by rw [q 11 (by decide) (by decide) (by decide)], fun x _ => by rw [q 14 (by decide) (by decide) (by decide)], rfl⟩ q3, fun c => absurd ((cmp_le e5 (by omega) (by omega)).mpr (Nat.le_refl _)) c⟩
    | succ k ih =>
      intro i w mc hi q1 q2 q3
      have e5 : mc 5 0 = nI (v 1 0) := (RMx mc q1).1.1.2.2.1
      refine ⟨fun c => absurd ((cmp_le e5 (by omega) (by omega)).mp c) (by omega), fun _ => ?_⟩
      exact I i _ mc w q1 q2 q3 (fun w2 md d1 d2 d3 => ih (i + 1) w2 md (by omega) d1 d2 d3)
  exact ⟨v 1 0 + 1, L (v 1 0) 0 _ mb (by omega) (fun _ _ => rfl) up_at hY0⟩
theorem m_drawnAll {T K : Nat → Nat} (hY : YRm ma T K) {post : Int32 → Prop} (h : post (nI (sumN T 10))) : P_X12_drawnAll ma post := by
  have L : ∀ (k i : Nat), i + k = 10 → P_X12_drawnAll_4 ma post (k + 1) (nI (sumN T i)) (nI i) := by
    intro k
    induction k with
    | zero =>
      intro i hi
      obtain rfl : i = 10 := by omega
      exact ⟨fun _ => h, fun c => absurd (nI_le (a := 10) (b := 10) (by decide) (by decide)) c⟩
    | succ k ih =>
      intro i hi
      refine ⟨fun c => absurd ((nI_leI (a := 10) (by decide) (by omega)).mp c) (by omega), fun _ => ⟨vp_in_nI (by omega) (by decide), fun x hx => ?_⟩⟩
      rw [nI_clamp (by omega), hY.1 i (by omega), nI_add] at hx
      rw [hx, nI_1]
      exact ih (i + 1) (by omega)
  exact ⟨11, L 10 0 (by omega)⟩
theorem m_tellsYear {T K : Nat → Nat} (hY : YRm ma T K) {post : Int32 → A2 → Prop} (h : ∀ r : Nat → Int32, r 0 = 1 → (∀ b, b < 10 → r (1 + b) = nI (T b)) → (∀ t, t < 6 → r (11 + t) = nI (K t)) → (∀ x, 17 ≤ x → r x = ma 16 x) → post (nI (sumN T 10)) (va_up ma 16 r)) : P_X12_tellsYear ma post := by
  have L : ∀ (k i : Nat) (r : Nat → Int32), i + k = 16 → r 0 = 1 → (∀ x, x < i → r (1 + x) = ma 21 x) → (∀ x, 17 ≤ x → r x = ma 16 x) → P_X12_tellsYear_9 post (fun (ma : Nat → Nat → Int32) => P_X12_tellsYear_35 post ma) (k + 1) (nI i) (va_up ma 16 r) := by
    intro k
    induction k with
    | zero =>
      intro i r hi q0 q1 q2
      obtain rfl : i = 16 := by omega
      refine ⟨fun _ => m_drawnAll (T := T) (K := K) (ma := va_up ma 16 r) ⟨fun b hb => by rw [up_ne (by decide)]; exact hY.1 b hb, fun t ht => by rw [up_ne (by decide)]; exact hY.2 t ht⟩ (h r q0 (fun b hb => (q1 b (by omega)).trans (hY.1 b hb)) (fun t ht => ?_) q2), fun c => absurd (nI_le (a := 16) (b := 16) (by decide) (by decide)) c⟩
      have := q1 (10 + t) (by omega)
      rw [show 1 + (10 + t) = 11 + t by omega] at this
      exact this.trans (hY.2 t ht)
    | succ k ih =>
      intro i r hi q0 q1 q2
      refine ⟨fun c => absurd ((nI_leI (a := 16) (by decide) (by omega)).mp c) (by omega), fun _ => ?_⟩
      rw [show (1 : Int32) + nI i = nI (1 + i) by simp only [fa_lit, nI_add], nI_clamp (by omega), nI_clamp (by omega), up_at, up_ne (show (21 : Nat) ≠ 16 by decide), nI_1]
      refine ⟨vp_in_nI (by omega) (by decide), vp_in_nI (by omega) (by decide), ?_⟩
      have e : va_up (va_up ma 16 r) 16 (upd r (1 + i) (ma 21 i)) = va_up ma 16 (upd r (1 + i) (ma 21 i)) := by
        funext j
        by_cases c : j = 16
        · rw [c, up_at, up_at]
        · rw [up_ne c, up_ne c, up_ne c]
      rw [e]
      refine ih (i + 1) _ (by omega) (by rw [u_ne (by omega)]; exact q0) (fun x hx => ?_) (fun x hx => by rw [u_ne (by omega)]; exact q2 x hx)
      by_cases c : x = i
      · rw [c, u_at]
      · rw [u_ne (by omega)]; exact q1 x (by omega)
  exact ⟨17, L 16 0 _ (by omega) u_at (fun x hx => by omega) (fun x hx => u_ne (by omega))⟩
theorem seed_cases (p : Int32) : ((∀ post : Int32 → Prop, post 0 → P_X11_isSeed p post) ∧ ∀ post : Int32 → Prop, post 0 → P_X12_isSeed p post) ∨ ∃ s, s ≤ 2000000000 ∧ p = nI s ∧ (∀ post : Int32 → Prop, post 1 → P_X11_isSeed p post) ∧ ∀ post : Int32 → Prop, post 1 → P_X12_isSeed p post := by
  by_cases c : p < 0
  · refine Or.inl ⟨fun post h => ⟨fun _ => h, fun z => absurd c z⟩, fun post h => ⟨fun _ => ⟨Or.inl rfl, h⟩, fun z => absurd (wide0.mpr c) z⟩⟩
  · rw [Int32.lt_iff_toInt_lt, show (0 : Int32).toInt = 0 from rfl] at c
    have hr := fb_rng p
    have e : p = nI p.toInt.toNat := by
      apply Int32.toInt_inj.mp
      rw [nI_toInt (by omega)]
      omega
    generalize p.toInt.toNat = s at e
    have hs : s < 2 ^ 31 ∨ 2 ^ 31 ≤ s := by omega
    by_cases d : (2000000000 : Int32) < p
    · refine Or.inl ⟨fun post h => ⟨fun _ => h, fun _ => ⟨fun _ => h, fun z => absurd d z⟩⟩, fun post h => ⟨fun _ => ⟨Or.inl rfl, h⟩, fun _ => ⟨fun _ => ⟨Or.inl rfl, h⟩, fun z => absurd ?_ z⟩⟩⟩
      rw [show (2000000000 : Int64) = (2000000000 : Int32).toInt64 from rfl, fa_wide_lt]
      exact d
    · refine Or.inr ⟨p.toInt.toNat, ?_, ?_, fun post h => ⟨fun z => absurd z (by rw [Int32.lt_iff_toInt_lt, show (0 : Int32).toInt = 0 from rfl]; exact c), fun _ => ⟨fun z => absurd z d, fun _ => h⟩⟩, fun post h => ⟨fun z => absurd (wide0.mp z) (by rw [Int32.lt_iff_toInt_lt, show (0 : Int32).toInt = 0 from rfl]; exact c), fun _ => ⟨fun z => absurd ?_ d, fun _ => ⟨Or.inr rfl, h⟩⟩⟩⟩
      · rw [Int32.lt_iff_toInt_lt, show (2000000000 : Int32).toInt = 2000000000 from rfl] at d
        omega
      · apply Int32.toInt_inj.mp
        rw [nI_toInt (by omega)]
        omega
      · rw [show (2000000000 : Int64) = (2000000000 : Int32).toInt64 from rfl, fa_wide_lt] at z
        exact z
theorem q_run (hI : Inv us ua rs ra ra2 sa sl ns na nl yt im ms ma ml) (mw : Nat → Int64) (p : Int32) : P_X11_run rs ra ns na p (fun r rs' ra' ns' na' => P_X12_run ms mw ma p (fun r' mt _ mb => r = r' ∧ Inv us ua rs' ra' ra2 sa sl ns' na' nl yt im mt mb ml)) := by
  obtain ⟨v, hv, hC, hM, hP, hY, hK, hB, F⟩ := hI.get
  have fin := F ra2 ns na nl _ _ _ (MG.refl _ _ _) hM.1 hB hK
  rcases seed_cases p with ⟨h1, h2⟩ | ⟨s, hs, rfl, h1, h2⟩
  · have M : P_X12_run ms mw ma p (fun r' mt _ mb => -2 = r' ∧ Inv us ua rs ra ra2 sa sl ns na nl yt im mt mb ml) := h2 _ (b0f ⟨rfl, fin⟩)
    rcases Nat.eq_zero_or_pos (v 2 0) with z | z
    · exact c_told0 hC z (b0f M)
    · exact c_told hC hv.1 z (b1f (h1 _ (b0t M)))
  · rcases Nat.eq_zero_or_pos (v 2 0) with z | z
    · exact c_told0 hC z (b0f (h2 _ (b1f (m_rail0 hM.1 hv.1 z (b0t ⟨rfl, fin⟩)))))
    · refine c_told hC hv.1 z (b1f (h1 _ (b1t (c_lookAt hC hv.1 (fun nb hN hb => c_drawAl hv hC hN (by omega) (fun rs' ra' hC' => ?_))))))
      refine h2 _ (b1f (m_rail hM.1 hv.1 z (b1t ?_)))
      rw [nI_l (by omega)]
      refine m_draws (ml := ml) hv hM mw (by omega) (fun mt mw' mb hM' hG hYr => m_tellsYear hYr (fun r r0 r1 r2 r3 => ⟨rfl, ?_⟩))
      have I1 := F ra2 ns na nl mt mb ml hG hM'.1 hB hK
      exact I1.year hv hC' hM'.1 hM'.2.1 (hP.eq (hG.2.1 6 (by decide) (by decide) (by decide) (by decide)) (hG.2.1 7 (by decide) (by decide) (by decide) (by decide))) r0 r1 r2 r3 (hK.look hb _)
end RN
end
section
/-! what a year held; several years; counts -/
theorem sumN_at {f : Nat → Nat} {b : Nat} : ∀ {n : Nat}, b < n → f b ≤ sumN f n
  | 0, h => absurd h (Nat.not_lt_zero b)
  | n + 1, h => by
    rw [sumN]
    by_cases c : b = n
    · rw [c]; omega
    · have := sumN_at (f := f) (b := b) (n := n) (by omega)
      omega
def yT (v : Rl) (s y : Nat) : Nat := sumN (yr v (CR v (s + y)) (v 1 0)).1 10
def yB (v : Rl) (s y k : Nat) : Nat := sumN (fun b => (yr v (CR v (s + y)) (v 1 0)).1 b * v 20 b) k
def yM (v : Rl) (s : Nat) : Nat → Nat
  | 0 => 0
  | n + 1 => max (yM v s n) (yT v s n)
def yA (v : Rl) (s n : Nat) : Nat := sumN (yT v s) n
def yW (v : Rl) (s n : Nat) : Nat := sumN (fun y => yB v s y (v 13 0)) n
def yQ (v : Rl) (s q n : Nat) : Nat := if q = 0 then yA v s n else if q = 1 then yM v s n else yW v s n
theorem yT_le {v : Rl} (hv : okV v) (s y : Nat) : yT v s y ≤ 660 := by
  have := yr_le (ok13 hv) (CR v (s + y)) (v 1 0)
  have := ok1 hv
  unfold yT
  omega
theorem yM_le {v : Rl} (hv : okV v) (s : Nat) : ∀ n, yM v s n ≤ 660
  | 0 => Nat.zero_le _
  | n + 1 => by
    have := yM_le hv s n
    have := yT_le hv s n
    rw [yM]
    omega
theorem yb_le {v : Rl} (hv : okV v) (s y : Nat) {b : Nat} (hb : b < 10) : (yr v (CR v (s + y)) (v 1 0)).1 b ≤ 660 := Nat.le_trans (sumN_at hb) (yT_le hv s y)
section Y2
variable {us : A1} {ua : A2} {rs : A1} {ra ra2 sa : A2} {sl : L2} {ns : A1} {na : A2} {nl : L2} {yt : Int32} {im : Img} {ms : A1} {ma : A2} {ml : L2}
theorem q_taken (hI : Inv us ua rs ra ra2 sa sl ns na nl yt im ms ma ml) (p : Int32) : P_X11_taken rs ra p (fun r => P_X12_taken ms ma p (fun r' mt => r = r' ∧ Inv us ua rs ra ra2 sa sl ns na nl yt im mt ma ml)) := by
  obtain ⟨v, hv, hC, hM, hP, hY, hK, hB, F⟩ := hI.get
  have h13 := ok13 hv.1
  have h15 : v 15 0 ≤ 1 := hv.1.1.2.2.2.2.2.2.2.2.2.2.2.2.2.2.2.1
  have fin := F ra2 ns na nl _ _ _ (MG.refl _ _ ml) hM.1 hB hK
  have e16 : ma 16 0 = nI (v 15 0) := hY.1
  rcases ixs p (n := v 13 0) (by omega) with h | ⟨b, hb, rfl⟩
  · exact c_hasB0 hC h (b0t (m_isB0 hM.1 hv.1 h (b0t ⟨rfl, fin⟩)))
  · refine c_hasB hC hv.1 hb (b1t ?_)
    rw [rc_s hC 15]
    rcases Nat.lt_or_ge (v 15 0) 1 with z | z
    · have z0 : v 15 0 = 0 := by omega
      rw [z0] at e16 ⊢
      exact ⟨fun _ => m_isB hM.1 hv.1 hb (b1t ⟨fun c => absurd e16 c, fun _ => ⟨rfl, fin⟩⟩), fun c => absurd rfl c⟩
    · have z1 : v 15 0 = 1 := by omega
      rw [z1] at e16 ⊢
      refine ⟨fun c => absurd c (by decide), fun _ => ⟨vp_in_nI (by omega) (by decide), m_isB hM.1 hv.1 hb (b1t ⟨fun _ => ?_, fun c => absurd (e16.symm.trans c) (by decide)⟩)⟩⟩
      rw [show (1 : Int32) + nI b = nI (1 + b) by simp only [fa_lit, nI_add], nI_clamp (by omega), nI_clamp (by omega)]
      refine ⟨vp_in_nI (by omega) (by decide), ?_, fin⟩
      have := (hY.2 z1).1 b (by omega)
      rw [show 17 * 0 + 1 + b = 1 + b by omega] at this
      rw [this]
      exact (hC.2.2.2.2.2.2.1 z1).1 b (by omega)
theorem q_took (hI : Inv us ua rs ra ra2 sa sl ns na nl yt im ms ma ml) (p : Int32) : P_X11_took rs ra p (fun r => P_X12_took ms ma p (fun r' mt => r = r' ∧ Inv us ua rs ra ra2 sa sl ns na nl yt im mt ma ml)) := by
  obtain ⟨v, hv, hC, hM, hP, hY, hK, hB, F⟩ := hI.get
  have h14 := ok14 hv.1
  have h15 : v 15 0 ≤ 1 := hv.1.1.2.2.2.2.2.2.2.2.2.2.2.2.2.2.2.1
  have fin := F ra2 ns na nl _ _ _ (MG.refl _ _ ml) hM.1 hB hK
  have e16 : ma 16 0 = nI (v 15 0) := hY.1
  rcases ixs p (n := v 14 0) (by omega) with h | ⟨b, hb, rfl⟩
  · exact c_hasT0 hC h (b0t (m_isT0 hM.2.1 hv.1 h (b0t ⟨rfl, fin⟩)))
  · refine c_hasT hC hv.1 hb (b1t ?_)
    rw [rc_s hC 15]
    rcases Nat.lt_or_ge (v 15 0) 1 with z | z
    · have z0 : v 15 0 = 0 := by omega
      rw [z0] at e16 ⊢
      exact ⟨fun _ => m_isT hM.2.1 hv.1 hb (b1t ⟨fun c => absurd e16 c, fun _ => ⟨rfl, fin⟩⟩), fun c => absurd rfl c⟩
    · have z1 : v 15 0 = 1 := by omega
      rw [z1] at e16 ⊢
      refine ⟨fun c => absurd c (by decide), fun _ => ⟨vp_in_nI (by omega) (by decide), m_isT hM.2.1 hv.1 hb (b1t ⟨fun _ => ?_, fun c => absurd (e16.symm.trans c) (by decide)⟩)⟩⟩
      rw [show (11 : Int32) + nI b = nI (11 + b) by simp only [fa_lit, nI_add], nI_clamp (by omega), nI_clamp (by omega)]
      refine ⟨vp_in_nI (by omega) (by decide), ?_, fin⟩
      have := (hY.2 z1).2 b (by omega)
      rw [show 17 * 0 + 11 + b = 11 + b by omega] at this
      rw [this]
      exact (hC.2.2.2.2.2.2.1 z1).2 b (by omega)
theorem c_worthTaken {v : Rl} (hv : okV v) (hC : RelC v rs ra) {T : Nat → Nat} {et : Nat → Int32} (hT : ∀ b, b < 10 → et b = nI (T b)) (hl : ∀ b, b < 10 → T b ≤ 660) {post : Int64 → Prop} (h : post (lN (sumN (fun b => T b * v 20 b) (v 13 0)))) : P_X4_worthTaken rs ra et post := by
  have h13 := ok13 hv
  have L : ∀ (k i : Nat), i + k = v 13 0 → P_X4_worthTaken_5 rs ra et post (k + 1) (lN (sumN (fun b => T b * v 20 b) i)) (nI i) := by
    intro k
    induction k with
    | zero =>
      intro i hi
      obtain rfl : i = v 13 0 := by omega
      exact ⟨fun _ => h, fun c => absurd ((cmp_le (rc_s hC 13) (by omega) (by omega)).mpr (Nat.le_refl _)) c⟩
    | succ k ih =>
      intro i hi
      have b20 := (hv.2.2.2.2.1 i (by omega)).1
      have bT := hl i (by omega)
      refine ⟨fun c => absurd ((cmp_le (rc_s hC 13) (by omega) (by omega)).mp c) (by omega), fun _ => ⟨vp_in_nI (by omega) (by decide), vp_in_nI (by omega) (by decide), fun x hx => ?_⟩⟩
      rw [nI_clamp (by omega), hT i (by omega), (hC.2.2.2.2.1 i (by omega)).1, nI_l (by omega), nI_l (by omega), lN_mul, lN_add] at hx
      rw [hx, nI_1]
      exact ih (i + 1) (by omega)
  exact ⟨v 13 0 + 1, L (v 13 0) 0 (by omega)⟩
theorem m_in1 {p : Int32} {post : Int32 → Prop} (h0 : p < 1 ∨ 100 < p → post 0) (h1 : ¬ p < 1 → ¬ 100 < p → post 1) : P_X12_in p.toInt64 1 100 post := by
  unfold P_X12_in
  rw [show (1 : Int64) = (1 : Int32).toInt64 from rfl, show (100 : Int64) = (100 : Int32).toInt64 from rfl, fa_wide_lt, fa_wide_lt]
  exact ⟨fun c => h0 (Or.inl c), fun c => ⟨fun d => h0 (Or.inr d), fun d => h1 c d⟩⟩
theorem m_years {v : Rl} (hv : okR v) (hM : RM v 0 ms ma) (mw : Nat → Int64) {s : Nat} (hs : s ≤ 2000000000) {n : Nat} (hn : n ≤ 100) {q : Nat} (hq : q < 3) {post : Int64 → A1 → (Nat → Int64) → A2 → Prop} (h : ∀ mt mw' mb, RM v 0 mt mb → MG ms ma ml mt mb ml → post (lN (yQ v s q n)) mt mw' mb) : ∃ k, P_X12_years_53 (nI s) (nI n) (nI q) post k 0 0 ms mw ma := by
  have h13 := ok13 hv.1
  have L : ∀ (k i : Nat) (mt : A1) (mw' : Nat → Int64) (mb : A2), i + k = n → RM v 0 mt mb → MG ms ma ml mt mb ml → P_X12_years_53 (nI s) (nI n) (nI q) post (k + 1) (lN (yQ v s q i)) (nI i) mt mw' mb := by
    intro k
    induction k with
    | zero =>
      intro i mt mw' mb hi q1 q2
      obtain rfl : i = n := by omega
      exact ⟨fun _ => h _ _ _ q1 q2, fun c => absurd (nI_le (Nat.le_refl _) (by omega)) c⟩
    | succ k ih =>
      intro i mt mw' mb hi q1 q2
      refine ⟨fun c => absurd ((nI_leI (by omega) (by omega)).mp c) (by omega), fun _ => ?_⟩
      rw [nI_l (show s < 2 ^ 31 by omega), nI_l (show i < 2 ^ 31 by omega), lN_add]
      refine m_draws (ml := ml) hv q1 mw' (by omega) (fun m2 w2 a2 hM2 hG2 hY2 => m_drawnAll hY2 ?_)
      have go := fun w => ih (i + 1) m2 w a2 (by omega) hM2 (q2.trans hG2)
      have hT := yT_le hv.1 s i
      have hMl := yM_le hv.1 s i
      have hT2 : sumN (yr v (CR v (s + i)) (v 1 0)).1 10 = yT v s i := rfl
      rw [hT2, nI_1, nI_l (by omega)]
      unfold yQ at go ⊢
      refine ⟨fun c => ⟨fun c2 => ?_, fun c2 => ?_⟩, fun c x hx => ?_⟩
      · have q0 : q ≠ 0 := fun e => c (by rw [e]; rfl)
        have q1' : q ≠ 1 := fun e => c2 (by rw [e]; rfl)
        rw [if_neg q0, if_neg q1'] at go ⊢
        have Li : ∀ (d j : Nat), j + d = v 13 0 → P_X12_years_120 (nI s) (nI n) (nI q) post (P_X12_years_53 (nI s) (nI n) (nI q) post (k + 1)) (nI i) m2 w2 a2 (d + 1) (lN (yW v s i + yB v s i j)) (nI j) := by
          intro d
          induction d with
          | zero =>
            intro j hj
            obtain rfl : j = v 13 0 := by omega
            refine ⟨fun _ => ?_, fun c => absurd ((cmp_le hM2.1.1.2.2.2.2 (by omega) (by omega)).mpr (Nat.le_refl _)) c⟩
            rw [nI_1]
            exact go w2
          | succ d id =>
            intro j hj
            have b20 := (hv.1.2.2.2.2.1 j (by omega)).1
            have bT := yb_le hv.1 s i (b := j) (by omega)
            have e20 := (hM2.1.2.2.2.1 j (by omega)).1
            refine ⟨fun c => absurd ((cmp_le hM2.1.1.2.2.2.2 (by omega) (by omega)).mp c) (by omega), fun _ => ⟨vp_in_nI (by omega) (by decide), m_at0 ⟨vp_in_nI (by omega) (by decide), fun x hx => ?_⟩⟩⟩
            rw [nI_clamp (by omega), nI_clamp (by omega), hY2.1 j (by omega), e20, nI_l (by omega), nI_l (by omega), lN_mul, lN_add] at hx
            rw [hx, nI_1, Nat.add_assoc]
            exact id (j + 1) (by omega)
        exact ⟨v 13 0 + 1, Li (v 13 0) 0 (by omega)⟩
      · have q1' : q = 1 := (nI_eq (b := 1) (by omega) (by decide)).mp c2
        have q0 : q ≠ 0 := by omega
        rw [if_neg q0, if_pos q1'] at go ⊢
        rw [yM] at go
        rw [lN_le (by omega) (by omega)]
        refine ⟨fun z => ?_, fun z x hx => ?_⟩
        · rw [Nat.max_eq_left z] at go
          exact go w2
        · rw [Nat.max_eq_right (by omega)] at go
          rw [hx]
          exact go w2
      · have q0 : q = 0 := (nI_eq (b := 0) (by omega) (by decide)).mp c
        rw [if_pos q0] at go hx
        rw [lN_add] at hx
        rw [hx]
        exact go w2
  have := L n 0 ms mw ma (by omega) hM (MG.refl _ _ _)
  have z : lN (yQ v s q 0) = 0 := by
    unfold yQ
    split
    · rfl
    · split <;> rfl
  rw [z] at this
  exact ⟨n + 1, this⟩
theorem q_years (hI : Inv us ua rs ra ra2 sa sl ns na nl yt im ms ma ml) (mw : Nat → Int64) (et eo : Nat → Int32) (p w q : Int32) : P_X11_years rs ra ns na yt et eo p w q (fun r ns' na' yt' _ _ => P_X12_years ms mw ma p w q (fun r' mt _ mb => r = r' ∧ Inv us ua rs ra ra2 sa sl ns' na' nl yt' im mt mb ml)) := by
  obtain ⟨v, hv, hC, hM, hP, hY, hK, hB, F⟩ := hI.get
  have fin := F ra2 ns na nl _ _ _ (MG.refl _ _ ml) hM.1 hB hK
  -- where the answer is -2
  have bad : (∀ post : Int64 → A1 → A2 → Int32 → (Nat → Int32) → (Nat → Int32) → Prop, post (-2) ns na yt et eo → P_X11_years rs ra ns na yt et eo p w q post) → (∀ post : Int64 → A1 → (Nat → Int64) → A2 → Prop, post (-2) (va_up ms 0 0) mw ma → P_X12_years ms mw ma p w q post) → P_X11_years rs ra ns na yt et eo p w q (fun r ns' na' yt' _ _ => P_X12_years ms mw ma p w q (fun r' mt _ mb => r = r' ∧ Inv us ua rs ra ra2 sa sl ns' na' nl yt' im mt mb ml)) := fun a b => a _ (b _ ⟨rfl, fin⟩)
  rcases seed_cases p with ⟨h1, h2⟩ | ⟨s, hs, rfl, h1, h2⟩
  · refine bad (fun post hp => ?_) (fun post hp => h2 _ (b0f hp))
    rcases Nat.eq_zero_or_pos (v 2 0) with z | z
    · exact c_told0 hC z (b0f hp)
    · exact c_told hC hv.1 z (b1f (h1 _ (b0f hp)))
  · by_cases w1 : w < 1
    · refine bad (fun post hp => ?_) (fun post hp => h2 _ (b1f (m_in1 (fun _ => b0f hp) (fun c => absurd w1 c))))
      rcases Nat.eq_zero_or_pos (v 2 0) with z | z
      · exact c_told0 hC z (b0f hp)
      · exact c_told hC hv.1 z (b1f (h1 _ (b1f ⟨fun _ => hp, fun c => absurd w1 c⟩)))
    · by_cases w2 : 100 < w
      · refine bad (fun post hp => ?_) (fun post hp => h2 _ (b1f (m_in1 (fun _ => b0f hp) (fun _ c => absurd w2 c))))
        rcases Nat.eq_zero_or_pos (v 2 0) with z | z
        · exact c_told0 hC z (b0f hp)
        · exact c_told hC hv.1 z (b1f (h1 _ (b1f ⟨fun c => absurd c w1, fun _ => ⟨fun _ => hp, fun c => absurd w2 c⟩⟩)))
      · rcases ixs q (n := 3) (by decide) with hq | ⟨j, hj, rfl⟩
        · refine bad (fun post hp => ?_) (fun post hp => h2 _ (b1f (m_in1 (fun c => c.elim (fun c => absurd c w1) (fun c => absurd c w2)) (fun _ _ => b1f (m_inL_bad (m := 2) hq (by decide) (b0f hp))))))
          rcases Nat.eq_zero_or_pos (v 2 0) with z | z
          · exact c_told0 hC z (b0f hp)
          · refine c_told hC hv.1 z (b1f (h1 _ (b1f ⟨fun c => absurd c w1, fun _ => ⟨fun c => absurd c w2, fun _ => ⟨fun _ => hp, fun c => ⟨fun c2 => ?_, fun _ => hp⟩⟩⟩⟩)))
            exfalso
            have h3 := hq.resolve_left c
            rw [Int32.le_iff_toInt_le, nI_toInt (by decide)] at h3
            rw [Int32.le_iff_toInt_le, show (2 : Int32).toInt = 2 from rfl] at c2
            omega
        · rcases Nat.eq_zero_or_pos (v 2 0) with z | z
          · exact bad (fun post hp => c_told0 hC z (b0f hp)) (fun post hp => h2 _ (b1f (m_in1 (fun c => c.elim (fun c => absurd c w1) (fun c => absurd c w2)) (fun _ _ => b1f (m_inL_ok (m := 2) (by omega) (by decide) (b1f (m_rail0 hM.1 hv.1 z (b0t hp))))))))
          · obtain ⟨n, hn, rfl⟩ : ∃ n, n ≤ 100 ∧ w = nI n := by
              rw [Int32.lt_iff_toInt_lt, show (1 : Int32).toInt = 1 from rfl] at w1
              rw [Int32.lt_iff_toInt_lt, show (100 : Int32).toInt = 100 from rfl] at w2
              refine ⟨w.toInt.toNat, by omega, ?_⟩
              apply Int32.toInt_inj.mp
              rw [nI_toInt (by omega)]
              omega
            refine c_told hC hv.1 z (b1f (h1 _ (b1f ⟨fun c => absurd c w1, fun _ => ⟨fun c => absurd c w2, fun _ => ⟨fun c => absurd c (nI_pos (by omega)), fun _ => ⟨fun _ => c_lookAt hC hv.1 (fun nb hN hb => ?_), fun c => absurd (nI_le (b := 2) (by omega) (by decide)) c⟩⟩⟩⟩)))
            have hK1 := hK.look hb (nI (v 13 0))
            have M : ∀ (r : Int64) (yt' : Int32), yt' = 0 ∨ yt' = 1 → r = lN (yQ v s j n) → P_X12_years ms mw ma (nI s) (nI n) (nI j) (fun r' mt _ mb => r = r' ∧ Inv us ua rs ra ra2 sa sl (va_up ns 0 (nI (v 13 0))) nb nl yt' im mt mb ml) := by
              intro r yt' hyt hr
              refine h2 _ (b1f (m_in1 (fun c => c.elim (fun c => absurd c w1) (fun c => absurd c w2)) (fun _ _ => b1f (m_inL_ok (m := 2) (by omega) (by decide) (b1f (m_rail hM.1 hv.1 z (b1t (m_years (ml := ml) hv hM mw hs hn hj (fun mt mw' mb hM' hG => ⟨hr, ?_⟩)))))))))
              obtain ⟨a1, a2, a3, a4, a5, a6, a7, a8⟩ := F ra2 (va_up ns 0 (nI (v 13 0))) nb nl mt mb ml hG hM'.1 hB hK1
              exact ⟨a1, a2, a3, a4, a5, a6, a7, hyt⟩
            have L : ∀ (k i : Nat) (y1 : Int32) (y2 y3 : Nat → Int32), i + k = n → y1 = 0 ∨ y1 = 1 → P_X11_years_64 rs ra (nI s) (nI n) (nI j) (fun r ns' na' yt' _ _ => P_X12_years ms mw ma (nI s) (nI n) (nI j) (fun r' mt _ mb => r = r' ∧ Inv us ua rs ra ra2 sa sl ns' na' nl yt' im mt mb ml)) (fun (x4_ : Int64) (x6_ : Int64) (x8_ : Int64) (ns : Nat → Int32) (na : Nat → Nat → Int32) (y_isThere : Int32) (y_taken : Nat → Int32) (y_took : Nat → Int32) => P_X11_years_131 rs ra (nI s) (nI n) (nI j) (fun r ns' na' yt' _ _ => P_X12_years ms mw ma (nI s) (nI n) (nI j) (fun r' mt _ mb => r = r' ∧ Inv us ua rs ra ra2 sa sl ns' na' nl yt' im mt mb ml)) x4_ x6_ x8_ ns na y_isThere y_taken y_took) (va_up ns 0 (nI (v 13 0))) nb (k + 1) (lN (yA v s i)) (lN (yM v s i)) (lN (yW v s i)) (nI i) y1 y2 y3 := by
              intro k
              induction k with
              | zero =>
                intro i y1 y2 y3 hi g1
                obtain rfl : i = n := by omega
                refine ⟨fun _ => ⟨fun c => ⟨fun c2 => M _ y1 g1 ?_, fun c2 => M _ y1 g1 ?_⟩, fun c => M _ y1 g1 ?_⟩, fun c => absurd (nI_le (Nat.le_refl _) (by omega)) c⟩
                · unfold yQ
                  rw [if_neg (fun e => c (by rw [e]; rfl)), if_neg (fun e => c2 (by rw [e]; rfl))]
                · have e1 : j = 1 := (nI_eq (b := 1) (by omega) (by decide)).mp c2
                  unfold yQ
                  rw [if_neg (by omega), if_pos e1]
                · have e0 : j = 0 := (nI_eq (b := 0) (by omega) (by decide)).mp c
                  unfold yQ
                  rw [if_pos e0]
              | succ k ih =>
                intro i y1 y2 y3 hi g1
                refine ⟨fun c => absurd ((nI_leI (by omega) (by omega)).mp c) (by omega), fun _ => ?_⟩
                rw [nI_add]
                refine c_draw hv hC hN (by omega) y1 y2 y3 (fun tak too t1 x4 hx4 x6 hx6 => ?_)
                have hT := yT_le hv.1 s i
                have hMl := yM_le hv.1 s i
                have hT2 : sumN (yr v (CR v (s + i)) (v 1 0)).1 10 = yT v s i := rfl
                rw [hT2, nI_l (by omega), lN_add] at hx4
                have e6 : x6 = lN (yM v s (i + 1)) := by
                  rw [hx6, hT2, nI_l (by omega), yM]
                  by_cases d : yT v s i < yM v s i
                  · rw [if_pos ((lN_lt (by omega) (by omega)).mpr d), Nat.max_eq_left (by omega)]
                  · rw [if_neg (fun e => d ((lN_lt (by omega) (by omega)).mp e)), Nat.max_eq_right (by omega)]
                refine c_worthTaken hv.1 hC t1 (fun b hb => yb_le hv.1 s i hb) (fun x8 hx8 => ?_)
                rw [lN_add] at hx8
                rw [hx4, e6, hx8, nI_1]
                exact ih (i + 1) 1 tak too (by omega) (Or.inr rfl)
            exact ⟨n + 1, L n 0 yt et eo (by omega) hI.2.2.2.2.2.2.2⟩
def rwN (sa : A2) : Nat → Nat := sumN (fun k => if sa 1 k = 0 then 0 else 1)
theorem c_rows (hS : SlotR sa sl ma ml) {post : Int32 → Prop} (h : post (nI (rwN sa 4))) : P_X6_rows sa post := by
  have L : ∀ (k i : Nat), i + k = 4 → P_X6_rows_4 sa post (k + 1) (nI (rwN sa i)) (nI i) := by
    intro k
    induction k with
    | zero =>
      intro i hi
      obtain rfl : i = 4 := by omega
      exact ⟨fun _ => h, fun c => absurd (nI_le (a := 4) (b := 4) (by decide) (by decide)) c⟩
    | succ k ih =>
      intro i hi
      obtain ⟨w, n, hw, hn, e1, e2, e3, e4, e5⟩ := hS i (by omega)
      have go := ih (i + 1) (by omega)
      rw [show rwN sa (i + 1) = rwN sa i + (if sa 1 i = 0 then 0 else 1) from rfl] at go
      refine ⟨fun c => absurd ((nI_leI (a := 4) (by decide) (by omega)).mp c) (by omega), fun _ => ⟨vp_in_nI (by omega) (by decide), ?_⟩⟩
      rw [nI_clamp (by omega), e1, show (nI w ≤ (0 : Int32)) = (nI w ≤ nI 0) from rfl, nI_leI (show w < 2 ^ 31 by omega) (by decide), nI_1, nI_1]
      rw [e1] at go
      refine ⟨fun c => b0f ?_, fun c => b1f ?_⟩
      · rw [if_pos (by rw [show w = 0 by omega]; rfl)] at go
        exact go
      · rw [if_neg (fun e => c (by have := (nI_eq (b := 0) (by omega) (by decide)).mp e; omega))] at go
        exact go
  exact ⟨5, L 4 0 (by omega)⟩
theorem m_rows (p : Int32) (hS : SlotR sa sl ma ml) {post : Int32 → A1 → Prop} (h : post (nI (rwN sa 4)) ms) : ∃ n, P_X12_count_169 ma p post ms n 0 0 := by
  have L : ∀ (k i : Nat), i + k = 4 → P_X12_count_169 ma p post ms (k + 1) (nI (rwN sa i)) (nI i) := by
    intro k
    induction k with
    | zero =>
      intro i hi
      obtain rfl : i = 4 := by omega
      exact ⟨fun _ => h, fun c => absurd (nI_le (a := 4) (b := 4) (by decide) (by decide)) c⟩
    | succ k ih =>
      intro i hi
      obtain ⟨w, n, hw, hn, e1, e2, e3, e4, e5⟩ := hS i (by omega)
      have go := ih (i + 1) (by omega)
      rw [show rwN sa (i + 1) = rwN sa i + (if sa 1 i = 0 then 0 else 1) from rfl, e1] at go
      refine ⟨fun c => absurd ((nI_leI (a := 4) (by decide) (by omega)).mp c) (by omega), fun _ => ⟨vp_in_nI (by omega) (by decide), ?_⟩⟩
      rw [nI_clamp (by omega), e2, nI_m1 (by omega), nI_1 i]
      refine ⟨fun c x hx => ?_, fun c x hx => ?_⟩
      · have c' : ¬ nI w = 0 := fun e => c ((nI_eq (b := 0) (by omega) (by decide)).mp e)
        rw [if_neg c'] at go
        rw [hx, nI_1]
        exact go
      · rw [if_pos (by rw [c]; rfl)] at go
        rw [show nI (rwN sa i) + 0 = nI (rwN sa i + 0) from nI_add _ 0] at hx
        rw [hx]
        exact go
  exact ⟨5, L 4 0 (by omega)⟩
theorem q_count (hI : Inv us ua rs ra ra2 sa sl ns na nl yt im ms ma ml) (p : Int32) : P_X11_count us rs ra sa p (fun r => P_X12_count ms ma p (fun r' mt => r = r' ∧ Inv us ua rs ra ra2 sa sl ns na nl yt im mt ma ml)) := by
  obtain ⟨v, hv, hC, hM, hP, hY, hK, hB, F⟩ := hI.get
  have h13' := ok13 hv.1
  have h10' : v 10 0 ≤ 1 := hv.1.1.2.2.2.2.2.2.2.2.2.2.1
  have h15' : v 15 0 ≤ 1 := hv.1.1.2.2.2.2.2.2.2.2.2.2.2.2.2.2.2.1
  have fin := F ra2 ns na nl _ _ _ (MG.refl _ _ ml) hM.1 hB hK
  obtain ⟨nT, -, eT1, eT2, -⟩ := hI.1.2.2
  have hSl := hI.2.2.2.2.1
  by_cases h0 : p = 0
  · exact ⟨fun _ => ⟨fun _ => ⟨(rc_s hC 0).trans (hM.1.1.2.1).symm, fin⟩, fun c => absurd (h0.symm.trans c) (by decide), fun c => absurd (h0.symm.trans c) (by decide), fun c => absurd (h0.symm.trans c) (by decide), fun c => absurd (h0.symm.trans c) (by decide), fun c => absurd (h0.symm.trans c) (by decide), fun c => absurd (h0.symm.trans c) (by decide), fun c => absurd (h0.symm.trans c) (by decide), fun c => absurd (h0.symm.trans c) (by decide), fun c => absurd (h0.symm.trans c) (by decide), fun c => absurd (h0.symm.trans c) (by decide), fun c => absurd (h0.symm.trans c) (by decide), fun c => absurd (h0.symm.trans c) (by decide), fun c0 c1 c2 c3 c4 c5 c6 c7 c8 c9 c10 c11 c12 => absurd h0 c0⟩, fun c => absurd (h0.symm.trans c) (by decide), fun c => absurd (h0.symm.trans c) (by decide), fun c => absurd (h0.symm.trans c) (by decide), fun c => absurd (h0.symm.trans c) (by decide), fun c => absurd (h0.symm.trans c) (by decide), fun c => absurd (h0.symm.trans c) (by decide), fun c => absurd (h0.symm.trans c) (by decide), fun c => absurd (h0.symm.trans c) (by decide), fun c => absurd (h0.symm.trans c) (by decide), fun c => absurd (h0.symm.trans c) (by decide), fun c => absurd (h0.symm.trans c) (by decide), fun c => absurd (h0.symm.trans c) (by decide), fun c0 c1 c2 c3 c4 c5 c6 c7 c8 c9 c10 c11 c12 => absurd h0 c0⟩
  · by_cases h1 : p = 1
    · exact ⟨fun c => absurd (h1.symm.trans c) (by decide), fun _ => ⟨fun c => absurd (h1.symm.trans c) (by decide), fun _ => ⟨(rc_s hC 1).trans (hM.1.1.2.2.1).symm, fin⟩, fun c => absurd (h1.symm.trans c) (by decide), fun c => absurd (h1.symm.trans c) (by decide), fun c => absurd (h1.symm.trans c) (by decide), fun c => absurd (h1.symm.trans c) (by decide), fun c => absurd (h1.symm.trans c) (by decide), fun c => absurd (h1.symm.trans c) (by decide), fun c => absurd (h1.symm.trans c) (by decide), fun c => absurd (h1.symm.trans c) (by decide), fun c => absurd (h1.symm.trans c) (by decide), fun c => absurd (h1.symm.trans c) (by decide), fun c => absurd (h1.symm.trans c) (by decide), fun c0 c1 c2 c3 c4 c5 c6 c7 c8 c9 c10 c11 c12 => absurd h1 c1⟩, fun c => absurd (h1.symm.trans c) (by decide), fun c => absurd (h1.symm.trans c) (by decide), fun c => absurd (h1.symm.trans c) (by decide), fun c => absurd (h1.symm.trans c) (by decide), fun c => absurd (h1.symm.trans c) (by decide), fun c => absurd (h1.symm.trans c) (by decide), fun c => absurd (h1.symm.trans c) (by decide), fun c => absurd (h1.symm.trans c) (by decide), fun c => absurd (h1.symm.trans c) (by decide), fun c => absurd (h1.symm.trans c) (by decide), fun c => absurd (h1.symm.trans c) (by decide), fun c0 c1 c2 c3 c4 c5 c6 c7 c8 c9 c10 c11 c12 => absurd h1 c1⟩
    · by_cases h2 : p = 2
      · exact ⟨fun c => absurd (h2.symm.trans c) (by decide), fun c => absurd (h2.symm.trans c) (by decide), fun _ => ⟨fun c => absurd (h2.symm.trans c) (by decide), fun c => absurd (h2.symm.trans c) (by decide), fun _ => ⟨(rc_s hC 11).trans (hP.1).symm, fin⟩, fun c => absurd (h2.symm.trans c) (by decide), fun c => absurd (h2.symm.trans c) (by decide), fun c => absurd (h2.symm.trans c) (by decide), fun c => absurd (h2.symm.trans c) (by decide), fun c => absurd (h2.symm.trans c) (by decide), fun c => absurd (h2.symm.trans c) (by decide), fun c => absurd (h2.symm.trans c) (by decide), fun c => absurd (h2.symm.trans c) (by decide), fun c => absurd (h2.symm.trans c) (by decide), fun c => absurd (h2.symm.trans c) (by decide), fun c0 c1 c2 c3 c4 c5 c6 c7 c8 c9 c10 c11 c12 => absurd h2 c2⟩, fun c => absurd (h2.symm.trans c) (by decide), fun c => absurd (h2.symm.trans c) (by decide), fun c => absurd (h2.symm.trans c) (by decide), fun c => absurd (h2.symm.trans c) (by decide), fun c => absurd (h2.symm.trans c) (by decide), fun c => absurd (h2.symm.trans c) (by decide), fun c => absurd (h2.symm.trans c) (by decide), fun c => absurd (h2.symm.trans c) (by decide), fun c => absurd (h2.symm.trans c) (by decide), fun c => absurd (h2.symm.trans c) (by decide), fun c0 c1 c2 c3 c4 c5 c6 c7 c8 c9 c10 c11 c12 => absurd h2 c2⟩
      · by_cases h3 : p = 3
        · exact ⟨fun c => absurd (h3.symm.trans c) (by decide), fun c => absurd (h3.symm.trans c) (by decide), fun c => absurd (h3.symm.trans c) (by decide), fun _ => ⟨fun c => absurd (h3.symm.trans c) (by decide), fun c => absurd (h3.symm.trans c) (by decide), fun c => absurd (h3.symm.trans c) (by decide), fun _ => ⟨(rc_s hC 12).trans (hM.1.1.2.2.2.1).symm, fin⟩, fun c => absurd (h3.symm.trans c) (by decide), fun c => absurd (h3.symm.trans c) (by decide), fun c => absurd (h3.symm.trans c) (by decide), fun c => absurd (h3.symm.trans c) (by decide), fun c => absurd (h3.symm.trans c) (by decide), fun c => absurd (h3.symm.trans c) (by decide), fun c => absurd (h3.symm.trans c) (by decide), fun c => absurd (h3.symm.trans c) (by decide), fun c => absurd (h3.symm.trans c) (by decide), fun c0 c1 c2 c3 c4 c5 c6 c7 c8 c9 c10 c11 c12 => absurd h3 c3⟩, fun c => absurd (h3.symm.trans c) (by decide), fun c => absurd (h3.symm.trans c) (by decide), fun c => absurd (h3.symm.trans c) (by decide), fun c => absurd (h3.symm.trans c) (by decide), fun c => absurd (h3.symm.trans c) (by decide), fun c => absurd (h3.symm.trans c) (by decide), fun c => absurd (h3.symm.trans c) (by decide), fun c => absurd (h3.symm.trans c) (by decide), fun c => absurd (h3.symm.trans c) (by decide), fun c0 c1 c2 c3 c4 c5 c6 c7 c8 c9 c10 c11 c12 => absurd h3 c3⟩
        · by_cases h4 : p = 4
          · exact ⟨fun c => absurd (h4.symm.trans c) (by decide), fun c => absurd (h4.symm.trans c) (by decide), fun c => absurd (h4.symm.trans c) (by decide), fun c => absurd (h4.symm.trans c) (by decide), fun _ => ⟨fun c => absurd (h4.symm.trans c) (by decide), fun c => absurd (h4.symm.trans c) (by decide), fun c => absurd (h4.symm.trans c) (by decide), fun c => absurd (h4.symm.trans c) (by decide), fun _ => ⟨(rc_s hC 13).trans (hM.1.1.2.2.2.2).symm, fin⟩, fun c => absurd (h4.symm.trans c) (by decide), fun c => absurd (h4.symm.trans c) (by decide), fun c => absurd (h4.symm.trans c) (by decide), fun c => absurd (h4.symm.trans c) (by decide), fun c => absurd (h4.symm.trans c) (by decide), fun c => absurd (h4.symm.trans c) (by decide), fun c => absurd (h4.symm.trans c) (by decide), fun c => absurd (h4.symm.trans c) (by decide), fun c0 c1 c2 c3 c4 c5 c6 c7 c8 c9 c10 c11 c12 => absurd h4 c4⟩, fun c => absurd (h4.symm.trans c) (by decide), fun c => absurd (h4.symm.trans c) (by decide), fun c => absurd (h4.symm.trans c) (by decide), fun c => absurd (h4.symm.trans c) (by decide), fun c => absurd (h4.symm.trans c) (by decide), fun c => absurd (h4.symm.trans c) (by decide), fun c => absurd (h4.symm.trans c) (by decide), fun c => absurd (h4.symm.trans c) (by decide), fun c0 c1 c2 c3 c4 c5 c6 c7 c8 c9 c10 c11 c12 => absurd h4 c4⟩
          · by_cases h5 : p = 5
            · exact ⟨fun c => absurd (h5.symm.trans c) (by decide), fun c => absurd (h5.symm.trans c) (by decide), fun c => absurd (h5.symm.trans c) (by decide), fun c => absurd (h5.symm.trans c) (by decide), fun c => absurd (h5.symm.trans c) (by decide), fun _ => ⟨fun c => absurd (h5.symm.trans c) (by decide), fun c => absurd (h5.symm.trans c) (by decide), fun c => absurd (h5.symm.trans c) (by decide), fun c => absurd (h5.symm.trans c) (by decide), fun c => absurd (h5.symm.trans c) (by decide), fun _ => ⟨(rc_s hC 14).trans (hM.2.1.1).symm, fin⟩, fun c => absurd (h5.symm.trans c) (by decide), fun c => absurd (h5.symm.trans c) (by decide), fun c => absurd (h5.symm.trans c) (by decide), fun c => absurd (h5.symm.trans c) (by decide), fun c => absurd (h5.symm.trans c) (by decide), fun c => absurd (h5.symm.trans c) (by decide), fun c => absurd (h5.symm.trans c) (by decide), fun c0 c1 c2 c3 c4 c5 c6 c7 c8 c9 c10 c11 c12 => absurd h5 c5⟩, fun c => absurd (h5.symm.trans c) (by decide), fun c => absurd (h5.symm.trans c) (by decide), fun c => absurd (h5.symm.trans c) (by decide), fun c => absurd (h5.symm.trans c) (by decide), fun c => absurd (h5.symm.trans c) (by decide), fun c => absurd (h5.symm.trans c) (by decide), fun c => absurd (h5.symm.trans c) (by decide), fun c0 c1 c2 c3 c4 c5 c6 c7 c8 c9 c10 c11 c12 => absurd h5 c5⟩
            · by_cases h6 : p = 6
              · exact ⟨fun c => absurd (h6.symm.trans c) (by decide), fun c => absurd (h6.symm.trans c) (by decide), fun c => absurd (h6.symm.trans c) (by decide), fun c => absurd (h6.symm.trans c) (by decide), fun c => absurd (h6.symm.trans c) (by decide), fun c => absurd (h6.symm.trans c) (by decide), fun _ => ⟨fun c => absurd (h6.symm.trans c) (by decide), fun c => absurd (h6.symm.trans c) (by decide), fun c => absurd (h6.symm.trans c) (by decide), fun c => absurd (h6.symm.trans c) (by decide), fun c => absurd (h6.symm.trans c) (by decide), fun c => absurd (h6.symm.trans c) (by decide), fun _ => ⟨(rc_s hC 2).trans (hM.1.1.1).symm, fin⟩, fun c => absurd (h6.symm.trans c) (by decide), fun c => absurd (h6.symm.trans c) (by decide), fun c => absurd (h6.symm.trans c) (by decide), fun c => absurd (h6.symm.trans c) (by decide), fun c => absurd (h6.symm.trans c) (by decide), fun c => absurd (h6.symm.trans c) (by decide), fun c0 c1 c2 c3 c4 c5 c6 c7 c8 c9 c10 c11 c12 => absurd h6 c6⟩, fun c => absurd (h6.symm.trans c) (by decide), fun c => absurd (h6.symm.trans c) (by decide), fun c => absurd (h6.symm.trans c) (by decide), fun c => absurd (h6.symm.trans c) (by decide), fun c => absurd (h6.symm.trans c) (by decide), fun c => absurd (h6.symm.trans c) (by decide), fun c0 c1 c2 c3 c4 c5 c6 c7 c8 c9 c10 c11 c12 => absurd h6 c6⟩
              · by_cases h7 : p = 7
                · exact ⟨fun c => absurd (h7.symm.trans c) (by decide), fun c => absurd (h7.symm.trans c) (by decide), fun c => absurd (h7.symm.trans c) (by decide), fun c => absurd (h7.symm.trans c) (by decide), fun c => absurd (h7.symm.trans c) (by decide), fun c => absurd (h7.symm.trans c) (by decide), fun c => absurd (h7.symm.trans c) (by decide), fun _ => ⟨fun c => absurd (h7.symm.trans c) (by decide), fun c => absurd (h7.symm.trans c) (by decide), fun c => absurd (h7.symm.trans c) (by decide), fun c => absurd (h7.symm.trans c) (by decide), fun c => absurd (h7.symm.trans c) (by decide), fun c => absurd (h7.symm.trans c) (by decide), fun c => absurd (h7.symm.trans c) (by decide), fun _ => ⟨(eT1).trans (eT2).symm, fin⟩, fun c => absurd (h7.symm.trans c) (by decide), fun c => absurd (h7.symm.trans c) (by decide), fun c => absurd (h7.symm.trans c) (by decide), fun c => absurd (h7.symm.trans c) (by decide), fun c => absurd (h7.symm.trans c) (by decide), fun c0 c1 c2 c3 c4 c5 c6 c7 c8 c9 c10 c11 c12 => absurd h7 c7⟩, fun c => absurd (h7.symm.trans c) (by decide), fun c => absurd (h7.symm.trans c) (by decide), fun c => absurd (h7.symm.trans c) (by decide), fun c => absurd (h7.symm.trans c) (by decide), fun c => absurd (h7.symm.trans c) (by decide), fun c0 c1 c2 c3 c4 c5 c6 c7 c8 c9 c10 c11 c12 => absurd h7 c7⟩
                · by_cases h8 : p = 8
                  · refine ⟨fun c => absurd (h8.symm.trans c) (by decide), fun c => absurd (h8.symm.trans c) (by decide), fun c => absurd (h8.symm.trans c) (by decide), fun c => absurd (h8.symm.trans c) (by decide), fun c => absurd (h8.symm.trans c) (by decide), fun c => absurd (h8.symm.trans c) (by decide), fun c => absurd (h8.symm.trans c) (by decide), fun c => absurd (h8.symm.trans c) (by decide), fun _ => ?_, fun c => absurd (h8.symm.trans c) (by decide), fun c => absurd (h8.symm.trans c) (by decide), fun c => absurd (h8.symm.trans c) (by decide), fun c => absurd (h8.symm.trans c) (by decide), fun c0 c1 c2 c3 c4 c5 c6 c7 c8 c9 c10 c11 c12 => absurd h8 c8⟩
                    rw [rc_s hC 13]
                    refine c_markedOnes h13' (fun b hb => ⟨(hC.2.2.2.2.1 b hb).2.2.2.2, (hv.1.2.2.2.2.1 b hb).2.2.2.2⟩) ?_
                    exact ⟨fun c => absurd (h8.symm.trans c) (by decide), fun c => absurd (h8.symm.trans c) (by decide), fun c => absurd (h8.symm.trans c) (by decide), fun c => absurd (h8.symm.trans c) (by decide), fun c => absurd (h8.symm.trans c) (by decide), fun c => absurd (h8.symm.trans c) (by decide), fun c => absurd (h8.symm.trans c) (by decide), fun c => absurd (h8.symm.trans c) (by decide), fun _ => m_markedOn (j := 0) hv.1 hM.1 (by decide) ⟨rfl, fin⟩, fun c => absurd (h8.symm.trans c) (by decide), fun c => absurd (h8.symm.trans c) (by decide), fun c => absurd (h8.symm.trans c) (by decide), fun c => absurd (h8.symm.trans c) (by decide), fun c0 c1 c2 c3 c4 c5 c6 c7 c8 c9 c10 c11 c12 => absurd h8 c8⟩
                  · by_cases h9 : p = 9
                    · refine ⟨fun c => absurd (h9.symm.trans c) (by decide), fun c => absurd (h9.symm.trans c) (by decide), fun c => absurd (h9.symm.trans c) (by decide), fun c => absurd (h9.symm.trans c) (by decide), fun c => absurd (h9.symm.trans c) (by decide), fun c => absurd (h9.symm.trans c) (by decide), fun c => absurd (h9.symm.trans c) (by decide), fun c => absurd (h9.symm.trans c) (by decide), fun c => absurd (h9.symm.trans c) (by decide), fun _ => ?_, fun c => absurd (h9.symm.trans c) (by decide), fun c => absurd (h9.symm.trans c) (by decide), fun c => absurd (h9.symm.trans c) (by decide), fun c0 c1 c2 c3 c4 c5 c6 c7 c8 c9 c10 c11 c12 => absurd h9 c9⟩
                      have e : ma 14 6 = nI (v 10 0) := hM.1.2.2.2.2.2.2.2.2.2.2
                      rw [rc_s hC 10]
                      rcases Nat.lt_or_ge (v 10 0) 1 with z | z
                      · have z0 : v 10 0 = 0 := by omega
                        rw [z0] at e ⊢
                        exact ⟨fun _ => ⟨fun c => absurd (h9.symm.trans c) (by decide), fun c => absurd (h9.symm.trans c) (by decide), fun c => absurd (h9.symm.trans c) (by decide), fun c => absurd (h9.symm.trans c) (by decide), fun c => absurd (h9.symm.trans c) (by decide), fun c => absurd (h9.symm.trans c) (by decide), fun c => absurd (h9.symm.trans c) (by decide), fun c => absurd (h9.symm.trans c) (by decide), fun c => absurd (h9.symm.trans c) (by decide), fun _ => ⟨e.symm, fin⟩, fun c => absurd (h9.symm.trans c) (by decide), fun c => absurd (h9.symm.trans c) (by decide), fun c => absurd (h9.symm.trans c) (by decide), fun c0 c1 c2 c3 c4 c5 c6 c7 c8 c9 c10 c11 c12 => absurd h9 c9⟩, fun c => absurd rfl c⟩
                      · have z0 : v 10 0 = 1 := by omega
                        rw [z0] at e ⊢
                        exact ⟨fun c => absurd c (by decide), fun _ => ⟨fun c => absurd (h9.symm.trans c) (by decide), fun c => absurd (h9.symm.trans c) (by decide), fun c => absurd (h9.symm.trans c) (by decide), fun c => absurd (h9.symm.trans c) (by decide), fun c => absurd (h9.symm.trans c) (by decide), fun c => absurd (h9.symm.trans c) (by decide), fun c => absurd (h9.symm.trans c) (by decide), fun c => absurd (h9.symm.trans c) (by decide), fun c => absurd (h9.symm.trans c) (by decide), fun _ => ⟨e.symm, fin⟩, fun c => absurd (h9.symm.trans c) (by decide), fun c => absurd (h9.symm.trans c) (by decide), fun c => absurd (h9.symm.trans c) (by decide), fun c0 c1 c2 c3 c4 c5 c6 c7 c8 c9 c10 c11 c12 => absurd h9 c9⟩⟩
                    · by_cases h10 : p = 10
                      · refine ⟨fun c => absurd (h10.symm.trans c) (by decide), fun c => absurd (h10.symm.trans c) (by decide), fun c => absurd (h10.symm.trans c) (by decide), fun c => absurd (h10.symm.trans c) (by decide), fun c => absurd (h10.symm.trans c) (by decide), fun c => absurd (h10.symm.trans c) (by decide), fun c => absurd (h10.symm.trans c) (by decide), fun c => absurd (h10.symm.trans c) (by decide), fun c => absurd (h10.symm.trans c) (by decide), fun c => absurd (h10.symm.trans c) (by decide), fun _ => ?_, fun c => absurd (h10.symm.trans c) (by decide), fun c => absurd (h10.symm.trans c) (by decide), fun c0 c1 c2 c3 c4 c5 c6 c7 c8 c9 c10 c11 c12 => absurd h10 c10⟩
                        rcases Nat.eq_zero_or_pos (v 2 0) with z | z
                        · exact c_told0 hC z (b0f ⟨fun c => absurd (h10.symm.trans c) (by decide), fun c => absurd (h10.symm.trans c) (by decide), fun c => absurd (h10.symm.trans c) (by decide), fun c => absurd (h10.symm.trans c) (by decide), fun c => absurd (h10.symm.trans c) (by decide), fun c => absurd (h10.symm.trans c) (by decide), fun c => absurd (h10.symm.trans c) (by decide), fun c => absurd (h10.symm.trans c) (by decide), fun c => absurd (h10.symm.trans c) (by decide), fun c => absurd (h10.symm.trans c) (by decide), fun _ => m_rail0 hM.1 hv.1 z (b0f ⟨rfl, fin⟩), fun c => absurd (h10.symm.trans c) (by decide), fun c => absurd (h10.symm.trans c) (by decide), fun c0 c1 c2 c3 c4 c5 c6 c7 c8 c9 c10 c11 c12 => absurd h10 c10⟩)
                        · exact c_options hC hv.1 z ⟨fun c => absurd (h10.symm.trans c) (by decide), fun c => absurd (h10.symm.trans c) (by decide), fun c => absurd (h10.symm.trans c) (by decide), fun c => absurd (h10.symm.trans c) (by decide), fun c => absurd (h10.symm.trans c) (by decide), fun c => absurd (h10.symm.trans c) (by decide), fun c => absurd (h10.symm.trans c) (by decide), fun c => absurd (h10.symm.trans c) (by decide), fun c => absurd (h10.symm.trans c) (by decide), fun c => absurd (h10.symm.trans c) (by decide), fun _ => m_rail hM.1 hv.1 z (b1f (m_optionMany hM.1 ⟨rfl, fin⟩)), fun c => absurd (h10.symm.trans c) (by decide), fun c => absurd (h10.symm.trans c) (by decide), fun c0 c1 c2 c3 c4 c5 c6 c7 c8 c9 c10 c11 c12 => absurd h10 c10⟩
                      · by_cases h11 : p = 11
                        · refine ⟨fun c => absurd (h11.symm.trans c) (by decide), fun c => absurd (h11.symm.trans c) (by decide), fun c => absurd (h11.symm.trans c) (by decide), fun c => absurd (h11.symm.trans c) (by decide), fun c => absurd (h11.symm.trans c) (by decide), fun c => absurd (h11.symm.trans c) (by decide), fun c => absurd (h11.symm.trans c) (by decide), fun c => absurd (h11.symm.trans c) (by decide), fun c => absurd (h11.symm.trans c) (by decide), fun c => absurd (h11.symm.trans c) (by decide), fun c => absurd (h11.symm.trans c) (by decide), fun _ => ?_, fun c => absurd (h11.symm.trans c) (by decide), fun c0 c1 c2 c3 c4 c5 c6 c7 c8 c9 c10 c11 c12 => absurd h11 c11⟩
                          have e : ma 16 0 = nI (v 15 0) := hY.1
                          rw [rc_s hC 15]
                          rcases Nat.lt_or_ge (v 15 0) 1 with z | z
                          · have z0 : v 15 0 = 0 := by omega
                            rw [z0] at e ⊢
                            exact ⟨fun _ => ⟨fun c => absurd (h11.symm.trans c) (by decide), fun c => absurd (h11.symm.trans c) (by decide), fun c => absurd (h11.symm.trans c) (by decide), fun c => absurd (h11.symm.trans c) (by decide), fun c => absurd (h11.symm.trans c) (by decide), fun c => absurd (h11.symm.trans c) (by decide), fun c => absurd (h11.symm.trans c) (by decide), fun c => absurd (h11.symm.trans c) (by decide), fun c => absurd (h11.symm.trans c) (by decide), fun c => absurd (h11.symm.trans c) (by decide), fun c => absurd (h11.symm.trans c) (by decide), fun _ => ⟨e.symm, fin⟩, fun c => absurd (h11.symm.trans c) (by decide), fun c0 c1 c2 c3 c4 c5 c6 c7 c8 c9 c10 c11 c12 => absurd h11 c11⟩, fun c => absurd rfl c⟩
                          · have z0 : v 15 0 = 1 := by omega
                            rw [z0] at e ⊢
                            exact ⟨fun c => absurd c (by decide), fun _ => ⟨fun c => absurd (h11.symm.trans c) (by decide), fun c => absurd (h11.symm.trans c) (by decide), fun c => absurd (h11.symm.trans c) (by decide), fun c => absurd (h11.symm.trans c) (by decide), fun c => absurd (h11.symm.trans c) (by decide), fun c => absurd (h11.symm.trans c) (by decide), fun c => absurd (h11.symm.trans c) (by decide), fun c => absurd (h11.symm.trans c) (by decide), fun c => absurd (h11.symm.trans c) (by decide), fun c => absurd (h11.symm.trans c) (by decide), fun c => absurd (h11.symm.trans c) (by decide), fun _ => ⟨e.symm, fin⟩, fun c => absurd (h11.symm.trans c) (by decide), fun c0 c1 c2 c3 c4 c5 c6 c7 c8 c9 c10 c11 c12 => absurd h11 c11⟩⟩
                        · by_cases h12 : p = 12
                          · refine ⟨fun c => absurd (h12.symm.trans c) (by decide), fun c => absurd (h12.symm.trans c) (by decide), fun c => absurd (h12.symm.trans c) (by decide), fun c => absurd (h12.symm.trans c) (by decide), fun c => absurd (h12.symm.trans c) (by decide), fun c => absurd (h12.symm.trans c) (by decide), fun c => absurd (h12.symm.trans c) (by decide), fun c => absurd (h12.symm.trans c) (by decide), fun c => absurd (h12.symm.trans c) (by decide), fun c => absurd (h12.symm.trans c) (by decide), fun c => absurd (h12.symm.trans c) (by decide), fun c => absurd (h12.symm.trans c) (by decide), fun _ => c_rows hSl ?_, fun c0 c1 c2 c3 c4 c5 c6 c7 c8 c9 c10 c11 c12 => absurd h12 c12⟩
                            exact ⟨fun c => absurd (h12.symm.trans c) (by decide), fun c => absurd (h12.symm.trans c) (by decide), fun c => absurd (h12.symm.trans c) (by decide), fun c => absurd (h12.symm.trans c) (by decide), fun c => absurd (h12.symm.trans c) (by decide), fun c => absurd (h12.symm.trans c) (by decide), fun c => absurd (h12.symm.trans c) (by decide), fun c => absurd (h12.symm.trans c) (by decide), fun c => absurd (h12.symm.trans c) (by decide), fun c => absurd (h12.symm.trans c) (by decide), fun c => absurd (h12.symm.trans c) (by decide), fun c => absurd (h12.symm.trans c) (by decide), fun _ => m_rows p hSl ⟨rfl, fin⟩, fun c0 c1 c2 c3 c4 c5 c6 c7 c8 c9 c10 c11 c12 => absurd h12 c12⟩
                          · exact ⟨fun c => absurd c h0, fun c => absurd c h1, fun c => absurd c h2, fun c => absurd c h3, fun c => absurd c h4, fun c => absurd c h5, fun c => absurd c h6, fun c => absurd c h7, fun c => absurd c h8, fun c => absurd c h9, fun c => absurd c h10, fun c => absurd c h11, fun c => absurd c h12, fun _ _ _ _ _ _ _ _ _ _ _ _ _ => ⟨fun c => absurd c h0, fun c => absurd c h1, fun c => absurd c h2, fun c => absurd c h3, fun c => absurd c h4, fun c => absurd c h5, fun c => absurd c h6, fun c => absurd c h7, fun c => absurd c h8, fun c => absurd c h9, fun c => absurd c h10, fun c => absurd c h11, fun c => absurd c h12, fun _ _ _ _ _ _ _ _ _ _ _ _ _ => ⟨rfl, fin⟩⟩⟩
end Y2
end
section
/-! rows of numbers; a year that a row tells -/
theorem shL {x : Int64} {m : Nat} (hm : m < 7) : (x >>> ((nI m).toInt64 &&& 63)).toInt = x.toInt / ((2 ^ m : Nat) : Int) := by
  have hD : ∀ m, m < 7 → (((nI m).toInt64 &&& 63).toBitVec.smod 64).toNat = m := by decide +kernel
  have e : (x >>> ((nI m).toInt64 &&& 63)).toInt = x.toInt >>> m := by
    have := hD m hm
    conv => rhs; rw [← this]
    exact BitVec.toInt_sshiftRight ..
  rw [e, Int.shiftRight_eq_div_pow]
theorem div0 {a : Int} {N : Nat} (hN : 0 < N) : a / (N : Int) = 0 ↔ 0 ≤ a ∧ a < (N : Int) := by
  constructor
  · intro h
    have h1 := Int.mul_ediv_add_emod a (N : Int)
    rw [h, Int.mul_zero, Int.zero_add] at h1
    have h2 := Int.emod_nonneg a (show (N : Int) ≠ 0 by omega)
    have h3 := Int.emod_lt_of_pos a (show (0 : Int) < N by omega)
    omega
  · intro h
    exact Int.ediv_eq_zero_of_lt h.1 h.2
def cN (x : Int64) : Nat := x.toInt.toNat
theorem num_ok {x : Int64} {m : Nat} (hm : m < 7) : (x >>> ((nI m).toInt64 &&& 63)) = 0 ↔ cN x < 2 ^ m ∧ x = lN (cN x) := by
  have hp : 0 < 2 ^ m := Nat.two_pow_pos m
  have hl : 2 ^ m ≤ 2 ^ 6 := Nat.pow_le_pow_right (by decide) (by omega)
  have e : (x >>> ((nI m).toInt64 &&& 63)) = 0 ↔ (x >>> ((nI m).toInt64 &&& 63)).toInt = 0 := by
    rw [← Int64.toInt_inj]
    rfl
  rw [e, shL hm, div0 hp]
  unfold cN
  constructor
  · intro h
    refine ⟨by omega, ?_⟩
    apply Int64.toInt_inj.mp
    rw [pk_lT (by omega)]
    omega
  · rintro ⟨h1, h2⟩
    have : x.toInt = (x.toInt.toNat : Int) := by
      conv => lhs; rw [h2]
      rw [pk_lT (by omega)]
    omega
theorem num_in {x : Int64} {m : Nat} (hm : m < 7) {post : Int32 → Prop} (h : post (if cN x < 2 ^ m ∧ x = lN (cN x) then 1 else 0)) : P_X12_in x 0 (((1 : Int64) <<< ((nI m).toInt64 &&& 63)) - 1) post := by
  have hp : 0 < 2 ^ m := Nat.two_pow_pos m
  have hl : 2 ^ m ≤ 2 ^ 6 := Nat.pow_le_pow_right (by decide) (by omega)
  have hb : ∀ m, m < 7 → ((1 : Int64) <<< ((nI m).toInt64 &&& 63)) - 1 = lN (2 ^ m - 1) := by decide +kernel
  rw [hb m hm]
  by_cases c : cN x < 2 ^ m ∧ x = lN (cN x)
  · rw [if_pos c] at h
    have e : x.toInt = (cN x : Int) := by
      conv => lhs; rw [c.2]
      rw [pk_lT (by omega)]
    refine ⟨fun z => ?_, fun _ => ⟨fun z => ?_, fun _ => h⟩⟩
    · exfalso
      rw [Int64.lt_iff_toInt_lt, e, show (0 : Int64).toInt = 0 from rfl] at z
      omega
    · exfalso
      rw [Int64.lt_iff_toInt_lt, e, pk_lT (by omega)] at z
      omega
  · rw [if_neg c] at h
    refine ⟨fun _ => h, fun z1 => ⟨fun _ => h, fun z2 => absurd ?_ c⟩⟩
    rw [Int64.lt_iff_toInt_lt, show (0 : Int64).toInt = 0 from rfl] at z1
    rw [Int64.lt_iff_toInt_lt, pk_lT (by omega)] at z2
    unfold cN
    refine ⟨by omega, ?_⟩
    apply Int64.toInt_inj.mp
    rw [pk_lT (by omega)]
    omega
theorem num_bit {c t : Nat} (hc : c < 2 ^ 31) (ht : t < 7) : ((lN c >>> ((nI t).toInt64 &&& 63)) &&& 1) = 1 ↔ c.testBit t = true := by
  have e : lN c >>> ((nI t).toInt64 &&& 63) = lN (c / 2 ^ t) := by
    have : c / 2 ^ t ≤ c := Nat.div_le_self _ _
    apply Int64.toInt_inj.mp
    rw [shL ht, pk_lT (by omega), pk_lT (by omega)]
    rfl
  rw [e, show (1 : Int64) = lN 1 from rfl, andL, Nat.and_one_is_mod, lN_eq (by omega) (by decide), Nat.testBit_eq_decide_div_mod_eq]
  simp
section TL
variable {us : A1} {ua : A2} {rs : A1} {ra ra2 sa : A2} {sl : L2} {ns : A1} {na : A2} {nl : L2} {yt : Int32} {im : Img} {ms : A1} {ma : A2} {ml : L2}
theorem c_slot {k : Nat} (hk : k < 4) {post : Int32 → Prop} (h : post 1) : P_X6_isSlot (nI k) post := ⟨fun c => absurd c (nI_pos (by omega)), fun _ => ⟨fun c => absurd ((nI_leI (a := 4) (by decide) (by omega)).mp c) (by omega), fun _ => h⟩⟩
theorem c_slot0 {p : Int32} (hp : p < 0 ∨ nI 4 ≤ p) {post : Int32 → Prop} (h : post 0) : P_X6_isSlot p post := ⟨fun _ => h, fun c => ⟨fun _ => h, fun c2 => absurd (hp.resolve_left c) c2⟩⟩
theorem m_slot {k : Nat} (hk : k < 4) {post : Int32 → Prop} (h : post 1) : P_X12_isSlot (nI k) post := m_inL_ok (m := 3) (by omega) (by decide) ⟨Or.inr rfl, h⟩
theorem m_slot0 {p : Int32} (hp : p < 0 ∨ nI 4 ≤ p) {post : Int32 → Prop} (h : post 0) : P_X12_isSlot p post := m_inL_bad (m := 3) hp (by decide) ⟨Or.inl rfl, h⟩
theorem c_hasRow {k w : Nat} (hk : k < 4) (hw : w ≤ 4) (e : sa 1 k = nI w) {post : Int32 → Prop} (h0 : w = 0 → post 0) (h1 : w ≠ 0 → post 1) : P_X6_hasRow sa (nI k) post := by
  refine ⟨vp_in_nI hk (by decide), ?_⟩
  rw [nI_clamp (by omega), e, show (nI w ≤ (0 : Int32)) = (nI w ≤ nI 0) from rfl, nI_leI (show w < 2 ^ 31 by omega) (by decide)]
  exact ⟨fun c => h0 (by omega), fun c => h1 (by omega)⟩
def TC (sl : L2) (k : Nat) : Nat → Nat → Bool := fun i t => (cN (sl 0 (60 * k + i))).testBit t
def okT (v : Rl) (sl : L2) (k n : Nat) : Prop := ∀ i, i < n → cN (sl 0 (60 * k + i)) < 2 ^ v 14 0 ∧ sl 0 (60 * k + i) = lN (cN (sl 0 (60 * k + i)))
theorem c_tells {v : Rl} (h14 : v 14 0 ≤ 6) (h1 : v 1 0 ≤ 60) {k n : Nat} (hk : k < 4) (hn : n ≤ 60) (e : sa 0 k = nI n) {post : Int32 → Prop} (hy : n ≤ v 1 0 → okT v sl k n → post 1) (hno : ¬ (n ≤ v 1 0 ∧ okT v sl k n) → post 0) : P_X6_tellsNights sa sl (nI k) (nI (v 1 0)) (nI (v 14 0)) post := by
  refine ⟨vp_in_nI hk (by decide), ?_⟩
  rw [nI_clamp (by omega), e, nI_leI (by omega) (by omega)]
  refine ⟨fun c => ?_, fun c => hno (fun q => c q.1)⟩
  have L : ∀ (d i : Nat), i + d = n → (∀ j, j < i → cN (sl 0 (60 * k + j)) < 2 ^ v 14 0 ∧ sl 0 (60 * k + j) = lN (cN (sl 0 (60 * k + j)))) → P_X6_tellsNights_15 sa sl (nI k) (nI (v 1 0)) (nI (v 14 0)) post (d + 1) (nI i) := by
    intro d
    induction d with
    | zero =>
      intro i hi q
      obtain rfl : i = n := by omega
      refine ⟨vp_in_nI hk (by decide), ?_⟩
      rw [nI_clamp (by omega), e]
      exact ⟨fun _ => hy c q, fun z => absurd (nI_le (Nat.le_refl _) (by omega)) z⟩
    | succ d ih =>
      intro i hi q
      refine ⟨vp_in_nI hk (by decide), ?_⟩
      rw [nI_clamp (by omega), e]
      refine ⟨fun z => absurd ((nI_leI (by omega) (by omega)).mp z) (by omega), fun _ => ?_⟩
      unfold P_X6_numberAt
      rw [show nI k * (60 : Int32) + nI i = nI (60 * k + i) by rw [Nat.mul_comm]; simp only [fa_lit, pk_mul, nI_add], nI_clamp (by omega)]
      refine ⟨vp_in_nI (by omega) (by decide), ?_⟩
      simp only []
      rw [num_ok (m := v 14 0) (by omega), nI_1]
      refine ⟨fun z => ih (i + 1) (by omega) (fun j hj => ?_), fun z => hno (fun w => z (w.2 i (by omega)))⟩
      by_cases ej : j = i
      · rw [ej]; exact z
      · exact q j (by omega)
  exact ⟨n + 1, L n 0 (by omega) (fun j hj => by omega)⟩
theorem c_toldLoop {v : Rl} (hv : okR v) (hC : RelC v rs ra) (hN : NR v 0 ns na) {k n : Nat} (hk : k < 4) (hn : n ≤ 60) (e : sa 0 k = nI n) (hok : okT v sl k n) {tak too : Nat → Int32} (b1 : ∀ b, b < 10 → tak b = 0) (b2 : ∀ t, t < 6 → too t = 0) {post : Int32 → A1 → A2 → A1 → A2 → Prop} (h : ∀ rs' ra', RelC (vy v (yr v (TC sl k) n).1 (yr v (TC sl k) n).2) rs' ra' → post (nI (sumN (yr v (TC sl k) n).1 10)) rs' ra' ns na) : ∃ m, P_X11_told_94 sa sl (nI k) post (va_up rs 15 1) ns na m 0 0 (va_up (va_up ra 14 tak) 15 too) := by
  have h13 := ok13 hv.1
  have h14 := ok14 hv.1
  have e14 : va_up rs 15 1 14 = nI (v 14 0) := by rw [up_ne (by decide)]; exact rc_s hC 14
  have L : ∀ (d i : Nat) (rx : A2), i + d = n → (∀ j, j ≠ 14 → j ≠ 15 → rx j = ra j) → (∀ b, b < 10 → rx 14 b = nI ((yr v (TC sl k) i).1 b)) → (∀ t, t < 6 → rx 15 t = nI ((yr v (TC sl k) i).2 t)) → P_X11_told_94 sa sl (nI k) post (va_up rs 15 1) ns na (d + 1) (nI (sumN (yr v (TC sl k) i).1 10)) (nI i) rx := by
    intro d
    induction d with
    | zero =>
      intro i rx hi q1 q2 q3
      obtain rfl : i = n := by omega
      refine ⟨vp_in_nI hk (by decide), ?_⟩
      rw [nI_clamp (by omega), e]
      exact ⟨fun _ => h _ _ (hC.y (fun j hj => up_ne hj) up_at q1 q2 q3), fun z => absurd (nI_le (Nat.le_refl _) (by omega)) z⟩
    | succ d ih =>
      intro i rx hi q1 q2 q3
      refine ⟨vp_in_nI hk (by decide), ?_⟩
      rw [nI_clamp (by omega), e]
      refine ⟨fun z => absurd ((nI_leI (by omega) (by omega)).mp z) (by omega), fun _ => ?_⟩
      unfold P_X6_numberAt
      rw [show nI k * (60 : Int32) + nI i = nI (60 * k + i) by rw [Nat.mul_comm]; simp only [fa_lit, pk_mul, nI_add], nI_clamp (by omega)]
      refine ⟨vp_in_nI (by omega) (by decide), ?_⟩
      obtain ⟨o1, o2⟩ := hok i (by omega)
      have hl : 2 ^ v 14 0 ≤ 2 ^ 6 := Nat.pow_le_pow_right (by decide) (by omega)
      rw [o2, lN_i, e14]
      refine c_letAll hv hN (by omega) q2 q3 (fun tak too t1 t2 x hx => ?_)
      have := yr_sum h13 (TC sl k) i
      rw [nI_add] at hx
      rw [hx, nI_1]
      have go := ih (i + 1) (va_up (va_up rx 14 tak) 15 too) (by omega) (fun j a b => by rw [up_ne b, up_ne a]; exact q1 j a b) (fun b hb => by rw [up_ne (by decide), up_at]; exact t1 b hb) (fun t ht => by rw [up_at]; exact t2 t ht)
      rw [this] at go
      exact go
  exact ⟨n + 1, L n 0 _ (by omega) (fun j a b => by rw [up_ne b, up_ne a]) (fun b hb => by rw [up_ne (by decide), up_at]; exact b1 b hb) (fun t ht => by rw [up_at]; exact b2 t ht)⟩
theorem m_toldLoop {v : Rl} (hv : okR v) (hM : RM v 0 ms ma) {k n : Nat} (hk : k < 4) (hn : n ≤ 60) (e : ma 1 k = nI n) (hs : ∀ i, i < n → sl 0 (60 * k + i) = ml 0 (60 * k + i)) (hok : okT v sl k n) {post : Int32 → A1 → A2 → Prop} (h : ∀ mt mb, RM v 0 mt mb → MG ms ma ml mt mb ml → YRm mb (yr v (TC sl k) n).1 (yr v (TC sl k) n).2 → P_X12_told_179 ml (nI k) post mt mb) : P_X12_told_102 ml (nI k) post ms ma := by
  have h13 := ok13 hv.1
  have h14 := ok14 hv.1
  have hl : 2 ^ v 14 0 ≤ 2 ^ 6 := Nat.pow_le_pow_right (by decide) (by omega)
  refine m_newYear hv hM (fun mb hL hmb hY0 => ?_)
  have RMx : ∀ mc : A2, (∀ j, j ≠ 21 → mc j = mb j) → RM v 0 (va_up ms 12 (nI (v 13 0))) mc := fun mc hc => hM.fr (fun i _ _ => by rw [hc i (by omega)]; exact hmb i (by omega) (by omega) (by omega)) (up_ne (by decide)) (up_ne (by decide))
  have LRx : ∀ mc : A2, (∀ j, j ≠ 21 → mc j = mb j) → LR v 0 (v 13 0) (va_up ms 12 (nI (v 13 0))) mc := fun mc hc => by
    unfold LR at hL ⊢
    rw [hc 18 (by decide), hc 19 (by decide)]
    exact hL
  have e1 : ∀ mc : A2, (∀ j, j ≠ 21 → mc j = mb j) → mc 1 k = nI n := fun mc hc => by rw [hc 1 (by decide), hmb 1 (by decide) (by decide) (by decide)]; exact e
  have I : ∀ (i : Nat), i < n → ∀ (R108 : Int32 → A2 → Prop) (mc : A2), (∀ j, j ≠ 21 → mc j = mb j) → YRm mc (yr v (TC sl k) i).1 (yr v (TC sl k) i).2 → (∀ md, (∀ j, j ≠ 21 → md j = mb j) → YRm md (yr v (TC sl k) (i + 1)).1 (yr v (TC sl k) (i + 1)).2 → R108 (nI (i + 1)) md) → ∃ m, P_X12_told_123 ml (nI k) (va_up ms 12 (nI (v 13 0))) post R108 (nI i) m 0 0 mc := by
    intro i hi R108 mc g1 g3 kk
    have L : ∀ (d t : Nat) (md : A2), t + d = v 14 0 → (∀ j, j ≠ 21 → md j = mb j) → YRm md (nsn v (TC sl k i) (0, (yr v (TC sl k) i).1, (yr v (TC sl k) i).2) t).2.1 (nsn v (TC sl k i) (0, (yr v (TC sl k) i).1, (yr v (TC sl k) i).2) t).2.2 → P_X12_told_123 ml (nI k) (va_up ms 12 (nI (v 13 0))) post R108 (nI i) (d + 1) (nI (nsn v (TC sl k i) (0, (yr v (TC sl k) i).1, (yr v (TC sl k) i).2) t).1) (nI t) md := by
      intro d
      induction d with
      | zero =>
        intro t md ht q1 q3
        obtain rfl : t = v 14 0 := by omega
        refine ⟨fun _ => ?_, fun c => absurd ((cmp_le (RMx md q1).2.1.1 (by omega) (by omega)).mpr (Nat.le_refl _)) c⟩
        rw [nI_1]
        exact kk md q1 q3
      | succ d ih =>
        intro t md ht q1 q3
        obtain ⟨o1, o2⟩ := hok i hi
        refine ⟨fun c => absurd ((cmp_le (RMx md q1).2.1.1 (by omega) (by omega)).mp c) (by omega), fun _ => ?_⟩
        rw [show (60 : Int32) * nI k + nI i = nI (60 * k + i) by simp only [fa_lit, pk_mul, nI_add], nI_clamp (by omega), ← hs i hi, o2, num_bit (by omega) (by omega), nI_1]
        have hlt2 := nsn_lt h13 (TC sl k i) (S := (0, (yr v (TC sl k) i).1, (yr v (TC sl k) i).2)) (show (0 : Nat) < 1024 by decide) t
        refine ⟨vp_in_nI (by omega) (by decide), fun c => ?_, fun c => ?_⟩
        · have cf : ¬ TC sl k i t = true := c
          have go := ih (t + 1) md (by omega) q1
          rw [nsn] at go
          unfold ns1 at go
          rw [if_neg cf] at go
          exact go q3
        · have cf : TC sl k i t = true := c
          refine m_comes hv (RMx md q1).2.1 (LRx md q1) (by omega) hlt2 q3 cf (fun me f1 f2 => ?_)
          have go := ih (t + 1) me (by omega) (fun j hj => (f1 j hj).trans (q1 j hj))
          rw [nsn] at go
          exact go f2
    exact ⟨v 14 0 + 1, L (v 14 0) 0 mc (by omega) g1 g3⟩
  have L : ∀ (d i : Nat) (mc : A2), i + d = n → (∀ j, j ≠ 21 → mc j = mb j) → YRm mc (yr v (TC sl k) i).1 (yr v (TC sl k) i).2 → P_X12_told_108 ml (nI k) post (fun (ms : Nat → Int32) (ma : Nat → Nat → Int32) => P_X12_told_179 ml (nI k) post ms ma) (va_up ms 12 (nI (v 13 0))) (d + 1) (nI i) mc := by
    intro d
    induction d with
    | zero =>
      intro i mc hi q1 q3
      obtain rfl : i = n := by omega
      have q : ∀ j, j ≠ 18 → j ≠ 19 → j ≠ 21 → mc j = ma j := fun j a b c => (q1 j c).trans (hmb j a b c)
      refine ⟨vp_in_nI hk (by decide), ?_⟩
      rw [nI_clamp (by omega), e1 mc q1]
      exact ⟨fun _ => h _ _ (RMx mc q1) ⟨fun j _ b _ => up_ne b, fun j hj _ _ _ => q j (by omega) (by omega) (by omega), fun x _ => by rw [q 11 (by decide) (by decide) (by decide)], fun x _ => by rw [q 14 (by decide) (by decide) (by decide)], rfl⟩ q3, fun c => absurd (nI_le (Nat.le_refl _) (by omega)) c⟩
    | succ d ih =>
      intro i mc hi q1 q3
      refine ⟨vp_in_nI hk (by decide), ?_⟩
      rw [nI_clamp (by omega), e1 mc q1]
      refine ⟨fun c => absurd ((nI_leI (by omega) (by omega)).mp c) (by omega), fun _ => ?_⟩
      exact I i (by omega) _ mc q1 q3 (fun md d1 d3 => ih (i + 1) md (by omega) d1 d3)
  exact ⟨n + 1, L n 0 mb (by omega) (fun _ _ => rfl) hY0⟩
theorem m_toldCheck {v : Rl} (h14 : v 14 0 ≤ 6) {k n : Nat} (hk : k < 4) (hn : n ≤ 60) (e : ma 1 k = nI n) (e12 : ma 12 0 = nI (v 14 0)) (hs : ∀ i, i < n → sl 0 (60 * k + i) = ml 0 (60 * k + i)) {K102 : A1 → A2 → Prop} {post : Int32 → A1 → A2 → Prop} (hy : okT v sl k n → K102 ms ma) (hno : ¬ okT v sl k n → post (-2) ms ma) : ∃ m, P_X12_told_55 ml (nI k) post K102 ms ma m 0 := by
  have L : ∀ (d i : Nat), i + d = n → (∀ j, j < i → cN (sl 0 (60 * k + j)) < 2 ^ v 14 0 ∧ sl 0 (60 * k + j) = lN (cN (sl 0 (60 * k + j)))) → P_X12_told_55 ml (nI k) post K102 ms ma (d + 1) (nI i) := by
    intro d
    induction d with
    | zero =>
      intro i hi q
      obtain rfl : i = n := by omega
      refine ⟨vp_in_nI hk (by decide), ?_⟩
      rw [nI_clamp (by omega), e]
      exact ⟨fun _ => hy q, fun z => absurd (nI_le (Nat.le_refl _) (by omega)) z⟩
    | succ d ih =>
      intro i hi q
      refine ⟨vp_in_nI hk (by decide), ?_⟩
      rw [nI_clamp (by omega), e]
      refine ⟨fun z => absurd ((nI_leI (by omega) (by omega)).mp z) (by omega), fun _ => ?_⟩
      rw [show (60 : Int32) * nI k + nI i = nI (60 * k + i) by simp only [fa_lit, pk_mul, nI_add], nI_clamp (by omega), ← hs i (by omega), e12, nI_1]
      refine ⟨vp_in_nI (by omega) (by decide), num_in (by omega) ?_⟩
      by_cases z : cN (sl 0 (60 * k + i)) < 2 ^ v 14 0 ∧ sl 0 (60 * k + i) = lN (cN (sl 0 (60 * k + i)))
      · rw [if_pos z]
        refine b1t (ih (i + 1) (by omega) (fun j hj => ?_))
        by_cases ej : j = i
        · rw [ej]; exact z
        · exact q j (by omega)
      · rw [if_neg z]
        exact b0t (hno (fun w => z (w i (by omega))))
  exact ⟨n + 1, L n 0 (by omega) (fun j hj => by omega)⟩
theorem q_told (hI : Inv us ua rs ra ra2 sa sl ns na nl yt im ms ma ml) (p : Int32) : P_X11_told rs ra sa sl ns na p (fun r rs' ra' ns' na' => P_X12_told ms ma ml p (fun r' mt mb => r = r' ∧ Inv us ua rs' ra' ra2 sa sl ns' na' nl yt im mt mb ml)) := by
  obtain ⟨v, hv, hC, hM, hP, hY, hK, hB, F⟩ := hI.get
  have h1 := ok1 hv.1
  have h14 := ok14 hv.1
  have fin := F ra2 ns na nl _ _ _ (MG.refl _ _ ml) hM.1 hB hK
  rcases ixs p (n := 4) (by decide) with hp | ⟨k, hk, rfl⟩
  · have M : P_X12_told ms ma ml p (fun r' mt mb => -2 = r' ∧ Inv us ua rs ra ra2 sa sl ns na nl yt im mt mb ml) := m_slot0 hp (b0f ⟨rfl, fin⟩)
    rcases Nat.eq_zero_or_pos (v 2 0) with z | z
    · exact c_told0 hC z (b0f M)
    · exact c_told hC hv.1 z (b1f (c_slot0 hp (b0t M)))
  · rcases Nat.eq_zero_or_pos (v 2 0) with z | z
    · exact c_told0 hC z (b0f (m_slot hk (b1f (m_rail0 hM.1 hv.1 z (b0t ⟨rfl, fin⟩)))))
    · obtain ⟨w, n, hw, hn, e1, e2, e3, e4, e5⟩ := hI.2.2.2.2.1 k hk
      have e5' : ma 5 0 = nI (v 1 0) := hM.1.1.2.2.1
      -- the reference, where there is a row
      have M : w ≠ 0 → ∀ post : Int32 → A1 → A2 → Prop, ((n ≤ v 1 0 ∧ okT v sl k n) → P_X12_told_102 ml (nI k) post (va_up ms 0 0) ma) → (¬ (n ≤ v 1 0 ∧ okT v sl k n) → post (-2) (va_up ms 0 0) ma) → P_X12_told ms ma ml (nI k) post := by
        intro hw0 post a b
        refine m_slot hk (b1f (m_rail hM.1 hv.1 z (b1t ⟨vp_in_nI hk (by decide), ?_⟩)))
        rw [nI_clamp (by omega), e2, nI_m1 (by omega)]
        refine ⟨fun _ => ⟨vp_in_nI hk (by decide), ?_⟩, fun c => absurd c hw0⟩
        rw [e4, e5', nI_leI (by omega) (by omega)]
        exact ⟨fun c => m_toldCheck h14 hk hn e4 hM.2.1.1 e5 (fun q => a ⟨c, q⟩) (fun q => b (fun r => q r.2)), fun c => b (fun r => c r.1)⟩
      refine c_told hC hv.1 z (b1f (c_slot hk (b1t (c_hasRow hk hw e1 (fun w0 => b0t ?_) (fun w0 => b1t ?_)))))
      · refine m_slot hk (b1f (m_rail hM.1 hv.1 z (b1t ⟨vp_in_nI hk (by decide), ?_⟩)))
        rw [nI_clamp (by omega), e2, nI_m1 (by omega)]
        exact ⟨fun c => absurd w0 c, fun _ => ⟨rfl, fin⟩⟩
      · rw [rc_s hC 1, rc_s hC 14]
        refine c_tells h14 h1 hk hn e3 (fun c1 c2 => b1t (c_lookAt hC hv.1 (fun nb hN hb => c_yearBegin (fun tak too b1 b2 => c_toldLoop hv hC hN hk hn e3 c2 b1 b2 (fun rs' ra' hC' => ?_))))) (fun c => b0t (M w0 _ (fun q => absurd q c) (fun _ => ⟨rfl, fin⟩)))
        refine M w0 _ (fun _ => m_toldLoop hv hM hk hn e4 e5 c2 (fun mt mb hM' hG hYr => m_tellsYear hYr (fun r r0 r1 r2 r3 => ⟨rfl, ?_⟩))) (fun q => absurd ⟨c1, c2⟩ q)
        have I1 := F ra2 ns na nl mt mb ml hG hM'.1 hB hK
        exact I1.year hv hC' hM'.1 hM'.2.1 (hP.eq (hG.2.1 6 (by decide) (by decide) (by decide) (by decide)) (hG.2.1 7 (by decide) (by decide) (by decide) (by decide))) r0 r1 r2 r3 (hK.look hb _)
end TL
end
section
/-! the rows of numbers, and the tape -/
section SL
variable {us : A1} {ua : A2} {rs : A1} {ra ra2 sa : A2} {sl : L2} {ns : A1} {na : A2} {nl : L2} {yt : Int32} {im : Img} {ms : A1} {ma : A2} {ml : L2}
theorem Inv.rows (hI : Inv us ua rs ra ra2 sa sl ns na nl yt im ms ma ml) {us' : A1} {ua' : A2} {sa' : A2} {sl' : L2} {mt : A1} {mb : A2} {mk : L2} (h1 : ∀ j, j ≠ 0 → j ≠ 1 → mt j = ms j) (h2 : ∀ j, 3 ≤ j → mb j = ma j) (hT : TapeR us' ua' mt mb) (hS : SlotR sa' sl' mb mk) : Inv us' ua' rs ra ra2 sa' sl' ns na nl yt im mt mb mk := by
  obtain ⟨-, ⟨v, hv, hC, hN, hTh, hP, hY⟩, hB, hK, -, hIm, ⟨h10, h11⟩, hy⟩ := hI
  refine ⟨hT, ⟨v, hv, hC, hN.fr (fun i a _ => h2 i a), hTh.eq (h2 12 (by decide)) (h2 13 (by decide)), hP.eq (h2 6 (by decide)) (h2 7 (by decide)), hY.eq (h2 16 (by decide))⟩, hB, hK, hS, fun k hk => ?_, ⟨(h1 10 (by decide) (by decide)).trans h10, (h1 11 (by decide) (by decide)).trans h11⟩, hy⟩
  have hh := hIm k hk
  cases hm : im k with
  | none =>
    rw [hm] at hh
    simp only at hh ⊢
    rw [h2 17 (by decide)]
    exact hh
  | some q =>
    rw [hm] at hh
    simp only at hh ⊢
    rw [h2 17 (by decide)]
    obtain ⟨g0, w, g1, g2, g3, g4, g5, g6⟩ := hh
    exact ⟨g0, w, g1, g2, g3.fr (fun i a _ => h2 i a), g4.eq (h2 12 (by decide)) (h2 13 (by decide)), g5.eq (h2 6 (by decide)) (h2 7 (by decide)), g6.eq (h2 16 (by decide))⟩
theorem TapeR.z (h : TapeR us ua ms ma) {mb : A2} (h2 : mb 2 = ma 2) : TapeR us ua (va_up ms 0 0) mb := by
  obtain ⟨a, b, n, c, d, e, f⟩ := h
  refine ⟨by rw [up_ne (by decide)]; exact a, by rw [up_ne (by decide)]; exact b, n, c, d, by rw [up_ne (by decide)]; exact e, fun i hi => by rw [h2]; exact f i hi⟩
theorem uL_at2 {f : Nat → Int64} {k : Nat} {x : Int64} : vp_updL f k x k = x := uL_at
/-- a slot is made, whatever zeroes it -/
theorem c_make {k n : Nat} (hk : k < 4) (hn : n ≤ 60) {sa : A2} (p2 : Int32) {post : A2 → L2 → Prop} (h : ∀ sl', (∀ i, i < n → sl' 0 (60 * k + i) = 0) → (∀ x, x < 60 * k ∨ 60 * k + n ≤ x → sl' 0 x = sl 0 x) → post (va_up (va_up sa 0 (upd (sa 0) k (nI n))) 1 (upd (sa 1) k (p2 + 1))) sl') : P_X6_make sa sl (nI k) p2 (nI n) post := by
  refine ⟨vp_in_nI hk (by decide), vp_in_nI hk (by decide), ?_⟩
  rw [nI_clamp (by omega)]
  have L : ∀ (d i : Nat) (sx : L2), i + d = n → (∀ j, j < i → sx 0 (60 * k + j) = 0) → (∀ x, x < 60 * k ∨ 60 * k + n ≤ x → sx 0 x = sl 0 x) → P_X6_make_19 (nI k) p2 (nI n) post (va_up (va_up sa 0 (upd (sa 0) k (nI n))) 1 (upd (sa 1) k (p2 + 1))) (d + 1) (nI i) sx := by
    intro d
    induction d with
    | zero =>
      intro i sx hi q1 q2
      obtain rfl : i = n := by omega
      exact ⟨fun _ => h sx q1 q2, fun z => absurd (nI_le (Nat.le_refl _) (by omega)) z⟩
    | succ d ih =>
      intro i sx hi q1 q2
      refine ⟨fun z => absurd ((nI_leI (by omega) (by omega)).mp z) (by omega), fun _ => ?_⟩
      rw [show nI k * (60 : Int32) + nI i = nI (60 * k + i) by rw [Nat.mul_comm]; simp only [fa_lit, pk_mul, nI_add], nI_clamp (by omega), nI_1]
      refine ⟨vp_in_nI (by omega) (by decide), ih (i + 1) _ (by omega) (fun j hj => ?_) (fun x hx => ?_)⟩
      · rw [up_at]
        by_cases c : j = i
        · rw [c, uL_at]
        · rw [uL_ne (by omega)]; exact q1 j (by omega)
      · rw [up_at, uL_ne (by omega)]; exact q2 x hx
  exact ⟨n + 1, L n 0 sl (by omega) (fun j hj => by omega) (fun _ _ => rfl)⟩
theorem m_make {k n : Nat} (hk : k < 4) (hn : n ≤ 60) (p2 : Int32) {mt : A1} {mb : A2} {post : Int32 → A1 → A2 → L2 → Prop} (h : ∀ mk, (∀ i, i < n → mk 0 (60 * k + i) = 0) → (∀ x, x < 60 * k ∨ 60 * k + n ≤ x → mk 0 x = ml 0 x) → post 0 mt mb mk) : ∃ m, P_X12_row_57 (nI k) p2 (nI n) post mt mb m 0 ml := by
  have L : ∀ (d i : Nat) (sx : L2), i + d = n → (∀ j, j < i → sx 0 (60 * k + j) = 0) → (∀ x, x < 60 * k ∨ 60 * k + n ≤ x → sx 0 x = ml 0 x) → P_X12_row_57 (nI k) p2 (nI n) post mt mb (d + 1) (nI i) sx := by
    intro d
    induction d with
    | zero =>
      intro i sx hi q1 q2
      obtain rfl : i = n := by omega
      exact ⟨fun _ => h sx q1 q2, fun z => absurd (nI_le (Nat.le_refl _) (by omega)) z⟩
    | succ d ih =>
      intro i sx hi q1 q2
      refine ⟨fun z => absurd ((nI_leI (by omega) (by omega)).mp z) (by omega), fun _ => ?_⟩
      rw [show (60 : Int32) * nI k + nI i = nI (60 * k + i) by simp only [fa_lit, pk_mul, nI_add], nI_clamp (by omega), nI_1]
      refine ⟨vp_in_nI (by omega) (by decide), ih (i + 1) _ (by omega) (fun j hj => ?_) (fun x hx => ?_)⟩
      · rw [up_at]
        by_cases c : j = i
        · rw [c, uL_at]
        · rw [uL_ne (by omega)]; exact q1 j (by omega)
      · rw [up_at, uL_ne (by omega)]; exact q2 x hx
  exact ⟨n + 1, L n 0 ml (by omega) (fun j hj => by omega) (fun _ _ => rfl)⟩
theorem q_row (hI : Inv us ua rs ra ra2 sa sl ns na nl yt im ms ma ml) (p w q : Int32) : P_X11_row sa sl p w q (fun r sa' sl' => P_X12_row ms ma ml p w q (fun r' mt mb mk => r = r' ∧ Inv us ua rs ra ra2 sa' sl' ns na nl yt im mt mb mk)) := by
  have fin : Inv us ua rs ra ra2 sa sl ns na nl yt im (va_up ms 0 0) ma ml := hI.rows (fun j a _ => up_ne a) (fun _ _ => rfl) (hI.1.z rfl) hI.2.2.2.2.1
  rcases ixs p (n := 4) (by decide) with hp | ⟨k, hk, rfl⟩
  · exact c_slot0 hp (b0f (m_slot0 hp (b0f ⟨rfl, fin⟩)))
  · rcases ixs w (n := 4) (by decide) with hw | ⟨j, hj, rfl⟩
    · have M : P_X12_row ms ma ml (nI k) w q (fun r' mt mb mk => -2 = r' ∧ Inv us ua rs ra ra2 sa sl ns na nl yt im mt mb mk) := m_slot hk (b1f (m_inL_bad (m := 3) hw (by decide) (b0f ⟨rfl, fin⟩)))
      exact c_slot hk (b1f ⟨fun _ => M, fun c => ⟨fun _ => M, fun c2 => absurd (hw.resolve_left c) c2⟩⟩)
    · have M : ∀ post : Int32 → A1 → A2 → L2 → Prop, (((q ≤ 60) → ((0 ≤ q) → vp_in (nI k) 4 ∧ (vp_in (nI k) 4 ∧ ((∃ n : Nat, P_X12_row_57 (nI k) (nI j) q post (va_up ms 0 0) (va_up (va_up ma 0 (upd (ma 0) (nI k).toNatClampNeg (nI j))) 1 (upd (ma 1) (nI k).toNatClampNeg q)) n 0 ml)))) ∧ ((¬ 0 ≤ q) → post (-3) (va_up ms 0 0) ma ml)) ∧ ((¬ q ≤ 60) → post (-2) (va_up ms 0 0) ma ml)) → P_X12_row ms ma ml (nI k) (nI j) q post := fun post hp => m_slot hk (b1f (m_inL_ok (m := 3) (by omega) (by decide) (b1f hp)))
      refine c_slot hk (b1f ⟨fun c => absurd c (nI_pos (by omega)), fun _ => ⟨fun c => absurd ((nI_leI (a := 4) (by decide) (by omega)).mp c) (by omega), fun _ => ⟨fun c60 => ⟨fun c0 => ?_, fun c0 => M _ ⟨fun _ => ⟨fun z => absurd z c0, fun _ => ⟨rfl, fin⟩⟩, fun z => absurd c60 z⟩⟩, fun c60 => M _ ⟨fun z => absurd z c60, fun _ => ⟨rfl, fin⟩⟩⟩⟩⟩)
      obtain ⟨n, hn, rfl⟩ : ∃ n, n ≤ 60 ∧ q = nI n := by
        have c1 := c60
        have c2 := c0
        rw [Int32.le_iff_toInt_le, show (60 : Int32).toInt = 60 from rfl] at c1
        rw [Int32.le_iff_toInt_le, show (0 : Int32).toInt = 0 from rfl] at c2
        refine ⟨q.toInt.toNat, by omega, ?_⟩
        apply Int32.toInt_inj.mp
        rw [nI_toInt (by omega)]
        omega
      refine c_make hk hn (nI j) (fun sl' s1 s2 => M _ ⟨fun _ => ⟨fun _ => ⟨vp_in_nI hk (by decide), vp_in_nI hk (by decide), ?_⟩, fun z => absurd c0 z⟩, fun z => absurd c60 z⟩)
      rw [nI_clamp (by omega)]
      refine m_make hk hn _ (fun mk m1 m2 => ⟨rfl, hI.rows (fun j a _ => up_ne a) (fun i hi => by rw [up_ne (by omega), up_ne (by omega)]) (hI.1.z (by rw [up_ne (by decide), up_ne (by decide)])) (fun k' hk' => ?_)⟩)
      obtain ⟨w', n', hw', hn', e1, e2, e3, e4, e5⟩ := hI.2.2.2.2.1 k' hk'
      rw [up_at, up_ne (show (0 : Nat) ≠ 1 by decide), up_at, up_at, up_ne (show (0 : Nat) ≠ 1 by decide), up_at]
      by_cases c : k' = k
      · subst c
        rw [u_at, u_at, u_at, u_at]
        refine ⟨j + 1, n, by omega, hn, by rw [nI_1], by rw [nI_pre (by omega)]; rfl, rfl, rfl, fun i hi => by rw [s1 i hi, m1 i hi]⟩
      · rw [u_ne c, u_ne c, u_ne c, u_ne c]
        refine ⟨w', n', hw', hn', e1, e2, e3, e4, fun i hi => ?_⟩
        rw [s2 _ (by omega), m2 _ (by omega)]
        exact e5 i hi
theorem cut_both (x : Int64) (q : Int32) : ∃ y, (∀ post : Int64 → Prop, post y → P_X6_cut x q post) ∧ ∀ post : Int64 → Prop, post y → P_X12_cut x q post := by
  by_cases h0 : q = 0
  · exact ⟨x.toInt32.toInt8.toInt32.toInt64, fun post h => ⟨fun _ => h, fun c => absurd (h0.symm.trans c) (by decide), fun c => absurd (h0.symm.trans c) (by decide), fun c => absurd h0 c⟩, fun post h => ⟨fun c => absurd h0 c, fun _ => h⟩⟩
  · by_cases h1 : q = 1
    · exact ⟨x.toInt32.toInt16.toInt32.toInt64, fun post h => ⟨fun c => absurd c h0, fun _ => h, fun c => absurd (h1.symm.trans c) (by decide), fun _ c => absurd h1 c⟩, fun post h => ⟨fun _ => ⟨fun c => absurd h1 c, fun _ => h⟩, fun c => absurd c h0⟩⟩
    · by_cases h2 : q = 2
      · exact ⟨x.toInt32.toInt64, fun post h => ⟨fun c => absurd c h0, fun c => absurd c h1, fun _ => h, fun _ _ c => absurd h2 c⟩, fun post h => ⟨fun _ => ⟨fun _ => ⟨fun c => absurd h2 c, fun _ => h⟩, fun c => absurd c h1⟩, fun c => absurd c h0⟩⟩
      · exact ⟨x, fun post h => ⟨fun c => absurd c h0, fun c => absurd c h1, fun c => absurd c h2, fun _ _ _ => h⟩, fun post h => ⟨fun _ => ⟨fun _ => ⟨fun _ => h, fun c => absurd c h2⟩, fun c => absurd c h1⟩, fun c => absurd c h0⟩⟩
theorem q_write (hI : Inv us ua rs ra ra2 sa sl ns na nl yt im ms ma ml) (p w : Int32) (x : Int64) : P_X11_write sa sl p w x (fun r sl' => P_X12_write ms ma ml p w x (fun r' mt mk => r = r' ∧ Inv us ua rs ra ra2 sa sl' ns na nl yt im mt ma mk)) := by
  have fin : Inv us ua rs ra ra2 sa sl ns na nl yt im (va_up ms 0 0) ma ml := hI.rows (fun j a _ => up_ne a) (fun _ _ => rfl) (hI.1.z rfl) hI.2.2.2.2.1
  rcases ixs p (n := 4) (by decide) with hp | ⟨k, hk, rfl⟩
  · exact c_slot0 hp (b0t (m_slot0 hp (b0t ⟨rfl, fin⟩)))
  · obtain ⟨wd, n, hw, hn, e1, e2, e3, e4, e5⟩ := hI.2.2.2.2.1 k hk
    have M : ∀ post : Int32 → A1 → L2 → Prop, (wd = 0 → post (-6) (va_up ms 0 0) ml) → (wd ≠ 0 → P_X12_in w.toInt64 0 ((nI n - 1).toInt64) (fun (r4 : Int32) => (((¬ r4 = 0) → vp_in (nI k) 4 ∧ (P_X12_cut x (nI wd - 1) (fun (r6 : Int64) => (vp_in ((60 * nI k) + w) 240 ∧ (post 0 (va_up ms 0 0) (va_up ml 0 (vp_updL (ml 0) (((60 * nI k) + w).toNatClampNeg) r6))))))) ∧ ((r4 = 0) → post (-7) (va_up ms 0 0) ml)))) → P_X12_write ms ma ml (nI k) w x post := by
      intro post a b
      refine m_slot hk (b1t ⟨vp_in_nI hk (by decide), ?_⟩)
      rw [nI_clamp (by omega), e2, e4, nI_m1 (by omega)]
      exact ⟨fun c => ⟨vp_in_nI hk (by decide), b c⟩, fun c => a c⟩
    refine c_slot hk (b1t (c_hasRow hk hw e1 (fun w0 => b0t (M _ (fun _ => ⟨rfl, fin⟩) (fun c => absurd w0 c))) (fun w0 => b1t ?_)))
    rcases ixs w (n := n) (by omega) with hq | ⟨j, hj, rfl⟩
    · have M2 : P_X12_write ms ma ml (nI k) w x (fun r' mt mk => -7 = r' ∧ Inv us ua rs ra ra2 sa sl ns na nl yt im mt ma mk) := M _ (fun c => absurd c w0) (fun _ => m_in_bad hq (by omega) (b0t ⟨rfl, fin⟩))
      refine ⟨fun _ => M2, fun c => ⟨vp_in_nI hk (by decide), ?_⟩⟩
      rw [nI_clamp (by omega), e3]
      refine ⟨fun c2 => ?_, fun _ => M2⟩
      exact absurd c2 (Int32.not_lt.mpr (hq.resolve_left c))
    · refine ⟨fun c => absurd c (nI_pos (by omega)), fun c => ⟨vp_in_nI hk (by decide), ?_⟩⟩
      rw [nI_clamp (by omega), e3]
      refine ⟨fun _ => ⟨vp_in_nI hk (by decide), ?_⟩, fun c2 => absurd (nI_lt hj (by omega)) c2⟩
      rw [nI_clamp (by omega), e1]
      obtain ⟨y, y1, y2⟩ := cut_both x (nI wd - 1)
      refine y1 _ ?_
      simp only []
      rw [show nI k * (60 : Int32) + nI j = nI (60 * k + j) by rw [Nat.mul_comm]; simp only [fa_lit, pk_mul, nI_add], nI_clamp (by omega)]
      refine ⟨vp_in_nI (by omega) (by decide), M _ (fun c => absurd c w0) (fun _ => m_in_ok hj (by omega) (b1t ⟨vp_in_nI hk (by decide), y2 _ ?_⟩))⟩
      simp only []
      rw [show (60 : Int32) * nI k + nI j = nI (60 * k + j) by simp only [fa_lit, pk_mul, nI_add], nI_clamp (by omega)]
      refine ⟨vp_in_nI (by omega) (by decide), trivial, hI.rows (fun j a _ => up_ne a) (fun _ _ => rfl) (hI.1.z rfl) (fun k' hk' => ?_)⟩
      obtain ⟨w', n', hw', hn', f1, f2, f3, f4, f5⟩ := hI.2.2.2.2.1 k' hk'
      refine ⟨w', n', hw', hn', f1, f2, f3, f4, fun i hi => ?_⟩
      rw [up_at, up_at]
      by_cases c : 60 * k' + i = 60 * k + j
      · rw [c, uL_at, uL_at]
      · rw [uL_ne c, uL_ne c]; exact f5 i hi
theorem hasAll_c {k n : Nat} (hk : k < 4) (hn : n ≤ 60) (e : sa 0 k = nI n) (p q : Int32) {post : Int32 → Prop} (h0 : ¬ (0 ≤ p.toInt ∧ 0 ≤ q.toInt ∧ p.toInt + q.toInt ≤ n) → post 0) (h1 : 0 ≤ p.toInt → 0 ≤ q.toInt → p.toInt + q.toInt ≤ n → post 1) : P_X6_hasAll sa (nI k) p q post := by
  have hp := fb_rng p
  have hq := fb_rng q
  unfold P_X6_hasAll
  rw [Int32.lt_iff_toInt_lt, Int32.lt_iff_toInt_lt, show (0 : Int32).toInt = 0 from rfl]
  refine ⟨fun c => h0 (by omega), fun c1 => ⟨fun c => h0 (by omega), fun c2 => ⟨vp_in_nI hk (by decide), ?_⟩⟩⟩
  rw [nI_clamp (by omega), e, nI_l (by omega), Int64.lt_iff_toInt_lt, pk_lT (by omega), fb_addL (by rw [Int32.toInt_toInt64, Int32.toInt_toInt64]; omega) (by rw [Int32.toInt_toInt64, Int32.toInt_toInt64]; omega), Int32.toInt_toInt64, Int32.toInt_toInt64]
  exact ⟨fun c => h0 (by omega), fun c => h1 (by omega) (by omega) (by omega)⟩
theorem nat_of {p : Int32} (h : 0 ≤ p.toInt) : ∃ n : Nat, p = nI n ∧ (n : Int) = p.toInt := by
  have := fb_rng p
  refine ⟨p.toInt.toNat, ?_, by omega⟩
  apply Int32.toInt_inj.mp
  rw [nI_toInt (by omega)]
  omega
theorem m_pasteLoop {s d n : Nat} (hs : s + n ≤ 240) (hd : d + n ≤ 240) (hn : n ≤ 60) {k1 p2 k3 p4 : Nat} (es : s = 60 * k1 + p2) (ed : d = 60 * k3 + p4) {mt : A1} {post : Int32 → A1 → L2 → Prop} (h : ∀ mk, (∀ i, i < n → mk 0 (d + i) = ml 0 (s + i)) → (∀ x, x < d ∨ d + n ≤ x → mk 0 x = ml 0 x) → post 0 mt mk) : ∃ m, P_X12_paste_118 ma (nI k1) (nI p2) (nI k3) (nI p4) (nI n) post (fun (ms : Nat → Int32) (x6_ : Int32) (ml : Nat → Nat → Int64) => (∃ n' : Nat, P_X12_paste_155 ma (nI k1) (nI p2) (nI k3) (nI p4) (nI n) post ms n' x6_ ml)) mt m 0 ml := by
  have I : ∀ (mx : L2), mx 0 = ml 0 → (∀ i, i < n → mx 1 i = ml 0 (s + i)) → ∀ (c i : Nat) (mk : L2), i + c = n → mk 1 = mx 1 → (∀ j, j < i → mk 0 (d + j) = ml 0 (s + j)) → (∀ x, x < d ∨ d + n ≤ x → mk 0 x = ml 0 x) → P_X12_paste_155 ma (nI k1) (nI p2) (nI k3) (nI p4) (nI n) post mt (c + 1) (nI i) mk := by
    intro mx m0 m1 c
    induction c with
    | zero =>
      intro i mk hi q0 q1 q2
      obtain rfl : i = n := by omega
      exact ⟨fun _ => h mk q1 q2, fun z => absurd (nI_le (Nat.le_refl _) (by omega)) z⟩
    | succ c ih =>
      intro i mk hi q0 q1 q2
      refine ⟨fun z => absurd ((nI_leI (by omega) (by omega)).mp z) (by omega), fun _ => ?_⟩
      rw [show (60 : Int32) * nI k3 + nI p4 + nI i = nI (60 * k3 + p4 + i) by simp only [fa_lit, pk_mul, nI_add], ← ed, nI_clamp (by omega), nI_clamp (by omega), nI_1]
      refine ⟨vp_in_nI (by omega) (by decide), vp_in_nI (by omega) (by decide), ih (i + 1) _ (by omega) (by rw [up_ne (by decide)]; exact q0) (fun j hj => ?_) (fun x hx => ?_)⟩
      · rw [up_at]
        by_cases e : j = i
        · rw [e, uL_at, q0]; exact m1 i (by omega)
        · rw [uL_ne (by omega)]; exact q1 j (by omega)
      · rw [up_at, uL_ne (by omega)]; exact q2 x hx
  have L : ∀ (c i : Nat) (mk : L2), i + c = n → mk 0 = ml 0 → (∀ j, j < i → mk 1 j = ml 0 (s + j)) → P_X12_paste_118 ma (nI k1) (nI p2) (nI k3) (nI p4) (nI n) post (fun (ms : Nat → Int32) (x6_ : Int32) (ml : Nat → Nat → Int64) => (∃ n' : Nat, P_X12_paste_155 ma (nI k1) (nI p2) (nI k3) (nI p4) (nI n) post ms n' x6_ ml)) mt (c + 1) (nI i) mk := by
    intro c
    induction c with
    | zero =>
      intro i mk hi q0 q1
      obtain rfl : i = n := by omega
      exact ⟨fun _ => ⟨i + 1, I mk q0 q1 i 0 mk (by omega) rfl (fun j hj => by omega) (fun x _ => by rw [q0])⟩, fun z => absurd (nI_le (Nat.le_refl _) (by omega)) z⟩
    | succ c ih =>
      intro i mk hi q0 q1
      refine ⟨fun z => absurd ((nI_leI (by omega) (by omega)).mp z) (by omega), fun _ => ?_⟩
      rw [show (60 : Int32) * nI k1 + nI p2 + nI i = nI (60 * k1 + p2 + i) by simp only [fa_lit, pk_mul, nI_add], ← es, nI_clamp (by omega), nI_clamp (by omega), nI_1]
      refine ⟨vp_in_nI (by omega) (by decide), vp_in_nI (by omega) (by decide), ih (i + 1) _ (by omega) (by rw [up_ne (by decide)]; exact q0) (fun j hj => ?_)⟩
      rw [up_at]
      by_cases e : j = i
      · rw [e, uL_at, q0]
      · rw [uL_ne e]; exact q1 j (by omega)
  exact ⟨n + 1, L n 0 ml (by omega) rfl (fun j hj => by omega)⟩
theorem q_paste (hI : Inv us ua rs ra ra2 sa sl ns na nl yt im ms ma ml) (a b c d e : Int32) : P_X11_paste sa sl a b c d e (fun r sl' => P_X12_paste ms ma ml a b c d e (fun r' mt mk => r = r' ∧ Inv us ua rs ra ra2 sa sl' ns na nl yt im mt ma mk)) := by
  have fin : Inv us ua rs ra ra2 sa sl ns na nl yt im (va_up ms 0 0) ma ml := hI.rows (fun j a _ => up_ne a) (fun _ _ => rfl) (hI.1.z rfl) hI.2.2.2.2.1
  rcases ixs a (n := 4) (by decide) with hp | ⟨k, hk, rfl⟩
  · exact c_slot0 hp (b0f (m_slot0 hp (b0f ⟨rfl, fin⟩)))
  · rcases ixs c (n := 4) (by decide) with hp | ⟨l, hl, rfl⟩
    · exact c_slot hk (b1f (c_slot0 hp (b0t (m_slot hk (b1f (m_slot0 hp (b0t ⟨rfl, fin⟩)))))))
    · obtain ⟨w1, n1, hw1, hn1, e1, e2, e3, e4, e5⟩ := hI.2.2.2.2.1 k hk
      obtain ⟨w2, n2, hw2, hn2, f1, f2, f3, f4, f5⟩ := hI.2.2.2.2.1 l hl
      have rb := fb_rng b
      have rd := fb_rng d
      have re := fb_rng e
      have M : ∀ post : Int32 → A1 → L2 → Prop, (w1 = 0 ∨ w2 = 0 → post (-6) (va_up ms 0 0) ml) → (w1 ≠ 0 → w2 ≠ 0 → w1 ≠ w2 → post (-8) (va_up ms 0 0) ml) → (w1 ≠ 0 → w1 = w2 → ¬ (0 ≤ b.toInt ∧ 0 ≤ d.toInt ∧ 0 ≤ e.toInt ∧ b.toInt + e.toInt ≤ n1 ∧ d.toInt + e.toInt ≤ n2) → post (-7) (va_up ms 0 0) ml) → (w1 ≠ 0 → w1 = w2 → 0 ≤ b.toInt → 0 ≤ d.toInt → 0 ≤ e.toInt → b.toInt + e.toInt ≤ n1 → d.toInt + e.toInt ≤ n2 → (∃ n : Nat, P_X12_paste_118 ma (nI k) b (nI l) d e post (fun (ms : Nat → Int32) (x6_ : Int32) (ml : Nat → Nat → Int64) => (∃ n : Nat, P_X12_paste_155 ma (nI k) b (nI l) d e post ms n x6_ ml)) (va_up ms 0 0) n 0 ml)) → P_X12_paste ms ma ml (nI k) b (nI l) d e post := by
        intro post h6 h8 h7 hgo
        refine m_slot hk (b1f (m_slot hl (b1t ⟨vp_in_nI hk (by decide), ?_⟩)))
        rw [nI_clamp (by omega), nI_clamp (by omega), e2, f2, e4, f4, nI_m1 (by omega), nI_m1 (by omega), Int32.lt_iff_toInt_lt, Int32.lt_iff_toInt_lt, Int32.lt_iff_toInt_lt, show (0 : Int32).toInt = 0 from rfl, nI_l (show n1 < 2 ^ 31 by omega), nI_l (show n2 < 2 ^ 31 by omega), Int64.lt_iff_toInt_lt, Int64.le_iff_toInt_le, pk_lT (by omega), pk_lT (by omega), fb_addL (by rw [Int32.toInt_toInt64, Int32.toInt_toInt64]; omega) (by rw [Int32.toInt_toInt64, Int32.toInt_toInt64]; omega), fb_addL (by rw [Int32.toInt_toInt64, Int32.toInt_toInt64]; omega) (by rw [Int32.toInt_toInt64, Int32.toInt_toInt64]; omega), Int32.toInt_toInt64, Int32.toInt_toInt64, Int32.toInt_toInt64]
        refine ⟨fun z => h6 (Or.inl z), fun z1 => ⟨vp_in_nI hl (by decide), fun z2 => ⟨vp_in_nI hk (by decide), vp_in_nI hl (by decide), fun z3 => ?_, fun z3 => ?_⟩, fun z => h6 (Or.inr z)⟩⟩
        · have ew : w1 = w2 := by
            have := congrArg (fun x : Int32 => (x + 1)) z3
            simp only [Int32.sub_add_cancel] at this
            exact (nI_eq (by omega) (by omega)).mp this
          exact ⟨fun q => h7 z1 ew (by omega), fun q1 => ⟨fun q => h7 z1 ew (by omega), fun q2 => ⟨fun q => h7 z1 ew (by omega), fun q3 => ⟨vp_in_nI hk (by decide), fun q => h7 z1 ew (by omega), fun q4 => ⟨vp_in_nI hl (by decide), fun q5 => hgo z1 ew (by omega) (by omega) (by omega) (by omega) q5, fun q => h7 z1 ew (by omega)⟩⟩⟩⟩⟩
        · exact h8 z1 z2 (fun ew => z3 (by rw [ew]))
      refine c_slot hk (b1f (c_slot hl (b1t (c_hasRow hk hw1 e1 (fun w0 => b0f (M _ (fun _ => ⟨rfl, fin⟩) (fun q => absurd w0 q) (fun q => absurd w0 q) (fun q => absurd w0 q))) (fun z1 => b1f (c_hasRow hl hw2 f1 (fun w0 => b0t (M _ (fun _ => ⟨rfl, fin⟩) (fun _ q => absurd w0 q) (fun q ew => absurd (ew.trans w0) q) (fun q ew => absurd (ew.trans w0) q))) (fun z2 => b1t ⟨vp_in_nI hk (by decide), vp_in_nI hl (by decide), ?_⟩)))))))
      rw [nI_clamp (by omega), nI_clamp (by omega), e1, f1, nI_eq (by omega) (by omega)]
      refine ⟨fun ew => b0t (M _ (fun q => q.elim (fun q => absurd q z1) (fun q => absurd q z2)) (fun _ _ _ => ⟨rfl, fin⟩) (fun _ q => absurd q ew) (fun _ q => absurd q ew)), fun ew => b1t ?_⟩
      have M7 : ∀ sl' : L2, sl' = sl → ¬ (0 ≤ b.toInt ∧ 0 ≤ d.toInt ∧ 0 ≤ e.toInt ∧ b.toInt + e.toInt ≤ n1 ∧ d.toInt + e.toInt ≤ n2) → P_X12_paste ms ma ml (nI k) b (nI l) d e (fun r' mt mk => -7 = r' ∧ Inv us ua rs ra ra2 sa sl ns na nl yt im mt ma mk) := fun _ _ hb => M _ (fun q => q.elim (fun q => absurd q z1) (fun q => absurd q z2)) (fun _ _ q => absurd ew q) (fun _ _ _ => ⟨rfl, fin⟩) (fun _ _ g1 g2 g3 g4 g5 => absurd ⟨g1, g2, g3, g4, g5⟩ hb)
      refine hasAll_c hk hn1 e3 b e (fun q => b0f (M7 sl rfl (fun r => q ⟨r.1, r.2.2.1, r.2.2.2.1⟩))) (fun g1 g3 g4 => b1f (hasAll_c hl hn2 f3 d e (fun q => b0t (M7 sl rfl (fun r => q ⟨r.2.1, r.2.2.1, r.2.2.2.2⟩))) (fun g2 _ g5 => b1t ?_)))
      obtain ⟨nb, rfl, hnb⟩ := nat_of g1
      obtain ⟨nd, rfl, hnd⟩ := nat_of g2
      obtain ⟨ne, rfl, hne⟩ := nat_of g3
      unfold P_X6_copy
      rw [show nI k * (60 : Int32) + nI nb = nI (60 * k + nb) by rw [Nat.mul_comm]; simp only [fa_lit, pk_mul, nI_add], show nI l * (60 : Int32) + nI nd = nI (60 * l + nd) by rw [Nat.mul_comm]; simp only [fa_lit, pk_mul, nI_add], nI_clamp (by omega), nI_clamp (by omega), nI_clamp (by omega)]
      refine ⟨⟨nI_pos (by omega), nI_pos (by omega), nI_pos (by omega), by omega, by omega⟩, M _ (fun q => q.elim (fun q => absurd q z1) (fun q => absurd q z2)) (fun _ _ q => absurd ew q) (fun _ _ q => absurd ⟨g1, g2, g3, g4, g5⟩ q) (fun _ _ _ _ _ _ _ => ?_)⟩
      refine m_pasteLoop (s := 60 * k + nb) (d := 60 * l + nd) (by omega) (by omega) (by omega) rfl rfl (fun mk m1 m2 => ⟨rfl, hI.rows (fun j a _ => up_ne a) (fun _ _ => rfl) (hI.1.z rfl) (fun k' hk' => ?_)⟩)
      obtain ⟨w', n', hw', hn', t1, t2, t3, t4, t5⟩ := hI.2.2.2.2.1 k' hk'
      refine ⟨w', n', hw', hn', t1, t2, t3, t4, fun i hi => ?_⟩
      rw [up_at]
      unfold va_cpy
      by_cases z : 60 * l + nd ≤ 60 * k' + i ∧ 60 * k' + i < 60 * l + nd + ne
      · rw [if_pos z]
        have := m1 (60 * k' + i - (60 * l + nd)) (by omega)
        rw [show 60 * l + nd + (60 * k' + i - (60 * l + nd)) = 60 * k' + i by omega] at this
        rw [this, show 60 * k + nb + (60 * k' + i - (60 * l + nd)) = 60 * k + (nb + (60 * k' + i - (60 * l + nd))) by omega]
        exact e5 _ (by omega)
      · rw [if_neg z, m2 _ (by omega)]
        exact t5 i hi
end SL
end
section
/-! the tape: feed, end, fault -/
def byt (p : Int32) (j : Nat) : Int32 := (((p >>> (nI (24 - 8 * j) &&& 31)).toInt8.toInt32).toInt8.toInt32)
theorem byt_c (p : Int32) {s : Nat} (hs : s ≤ 24) : ((((p.toUInt32 >>> ((nI s).toUInt32 &&& Int32.toUInt32 31)).toInt32).toInt8.toInt32).toInt8.toInt32) = (((p >>> (nI s &&& 31)).toInt8.toInt32).toInt8.toInt32) := by
  have h1 : ∀ s, s ≤ 24 → ((nI s).toUInt32 &&& Int32.toUInt32 31).toNat % 32 = s := by decide +kernel
  have h2 : ∀ s, s ≤ 24 → ((nI s &&& 31).toBitVec.smod 32).toNat = s := by decide +kernel
  have e : ((p.toUInt32 >>> ((nI s).toUInt32 &&& Int32.toUInt32 31)).toInt32).toInt8 = (p >>> (nI s &&& 31)).toInt8 := by
    apply Int8.toBitVec_inj.1
    show BitVec.signExtend 8 ((p.toUInt32 >>> ((nI s).toUInt32 &&& Int32.toUInt32 31)).toBitVec) = BitVec.signExtend 8 (p >>> (nI s &&& 31)).toBitVec
    have a : (p.toUInt32 >>> ((nI s).toUInt32 &&& Int32.toUInt32 31)).toBitVec = p.toBitVec >>> s := by
      apply BitVec.eq_of_toNat_eq
      show (p.toUInt32 >>> ((nI s).toUInt32 &&& Int32.toUInt32 31)).toNat = _
      rw [UInt32.toNat_shiftRight, h1 s hs, BitVec.toNat_ushiftRight]
      rfl
    have b : (p >>> (nI s &&& 31)).toBitVec = p.toBitVec.sshiftRight s := by
      show p.toBitVec.sshiftRight ((nI s &&& 31).toBitVec.smod 32).toNat = _
      rw [h2 s hs]
    rw [a, b]
    apply BitVec.eq_of_getLsbD_eq
    intro i hi
    rw [BitVec.getLsbD_signExtend, BitVec.getLsbD_signExtend]
    simp only [hi, decide_true, Bool.true_and, show i < 32 by omega, if_true]
    rw [BitVec.getLsbD_ushiftRight, BitVec.getLsbD_sshiftRight]
    simp only [show s + i < 32 by omega, if_true, show ¬ 32 ≤ i by omega, decide_false, Bool.not_false, Bool.true_and]
  rw [e]
def fA (f : Nat → Int32) (n : Nat) (p : Int32) : Nat → Int32 := fun i => if i < n then f i else byt p (i - n)
section TP
variable {us : A1} {ua : A2} {rs : A1} {ra ra2 sa : A2} {sl : L2} {ns : A1} {na : A2} {nl : L2} {yt : Int32} {im : Img} {ms : A1} {ma : A2} {ml : L2}
theorem c_append {n : Nat} (hn : n + 4 ≤ 1600) {f a : Nat → Int32} (ha : ∀ i, i < n → a i = f i) (p : Int32) {post : (Nat → Int32) → Int32 → Prop} (h : ∀ a', (∀ i, i < n + 4 → a' i = fA f n p i) → post a' (nI (n + 4))) : P_X8_append a (nI n) p post := by
  have L : ∀ (d j : Nat) (b : Nat → Int32), j + d = 4 → (∀ i, i < n + j → b i = fA f n p i) → P_X8_append_3 p post (d + 1) (nI (32 - 8 * j) - 8) b (nI (n + j)) := by
    intro d
    induction d with
    | zero =>
      intro j b hj q
      obtain rfl : j = 4 := by omega
      exact ⟨fun _ => h b q, fun c => absurd (by decide) c⟩
    | succ d ih =>
      intro j b hj q
      have e : nI (32 - 8 * j) - 8 = nI (24 - 8 * j) := by
        rw [show (8 : Int32) = nI 8 from rfl, pk_sub (by omega)]
        congr 1
        omega
      rw [e]
      refine ⟨fun c => absurd c (nI_pos (by omega)), fun _ => ⟨fun c => absurd ((nI_leI (a := 1600) (by decide) (by omega)).mp c) (by omega), fun _ => ⟨vp_in_nI (by omega) (by decide), fun x hx => ?_⟩⟩⟩
      rw [byt_c p (by omega), nI_clamp (by omega)]
      rw [nI_1] at hx
      rw [hx, show nI (24 - 8 * j) + (-8) = nI (32 - 8 * (j + 1)) - 8 by rw [show 32 - 8 * (j + 1) = 24 - 8 * j by omega, Int32.sub_eq_add_neg]]
      refine ih (j + 1) _ (by omega) (fun i hi => ?_)
      by_cases c : i = n + j
      · rw [c, u_at]
        unfold fA byt
        rw [if_neg (by omega), show n + j - n = j by omega]
      · rw [u_ne c]; exact q i (by omega)
  exact ⟨5, L 4 0 a (by omega) (fun i hi => by unfold fA; rw [if_pos (by omega)]; exact ha i (by omega))⟩
theorem m_four {n : Nat} (hn : n + 4 ≤ 1600) {f : Nat → Int32} (e1 : ms 1 = nI n) (ha : ∀ i, i < n → ma 2 i = f i) (p : Int32) {post : A1 → A2 → Prop} (h : ∀ mt mb, (∀ j, j ≠ 1 → mt j = ms j) → mt 1 = nI (n + 4) → (∀ j, j ≠ 2 → mb j = ma j) → (∀ i, i < n + 4 → mb 2 i = fA f n p i) → post mt mb) : P_X12_four ms ma p post := by
  have L : ∀ (d j : Nat) (mt : A1) (mb : A2), j + d = 4 → (∀ j, j ≠ 1 → mt j = ms j) → mt 1 = nI (n + j) → (∀ j, j ≠ 2 → mb j = ma j) → (∀ i, i < n + j → mb 2 i = fA f n p i) → P_X12_four_3 p post (d + 1) (nI (32 - 8 * j) - 8) mt mb := by
    intro d
    induction d with
    | zero =>
      intro j mt mb hj q1 q2 q3 q
      obtain rfl : j = 4 := by omega
      exact ⟨fun _ => h mt mb q1 q2 q3 q, fun c => absurd (by decide) c⟩
    | succ d ih =>
      intro j mt mb hj q1 q2 q3 q
      have e : nI (32 - 8 * j) - 8 = nI (24 - 8 * j) := by
        rw [show (8 : Int32) = nI 8 from rfl, pk_sub (by omega)]
        congr 1
        omega
      rw [e]
      refine ⟨fun c => absurd c (nI_pos (by omega)), fun _ => ?_⟩
      rw [q2]
      refine ⟨vp_in_nI (by omega) (by decide), fun x hx => ?_⟩
      rw [nI_clamp (by omega)]
      rw [nI_1] at hx
      rw [hx, show nI (24 - 8 * j) + (-8) = nI (32 - 8 * (j + 1)) - 8 by rw [show 32 - 8 * (j + 1) = 24 - 8 * j by omega, Int32.sub_eq_add_neg]]
      refine ih (j + 1) _ _ (by omega) (fun y hy => by rw [up_ne hy]; exact q1 y hy) up_at (fun y hy => by rw [up_ne hy]; exact q3 y hy) (fun i hi => ?_)
      rw [up_at]
      by_cases c : i = n + j
      · rw [c, u_at]
        unfold fA byt
        rw [if_neg (by omega), show n + j - n = j by omega]
      · rw [u_ne c]; exact q i (by omega)
  exact ⟨5, L 4 0 ms ma (by omega) (fun _ _ => rfl) e1 (fun _ _ => rfl) (fun i hi => by unfold fA; rw [if_pos (by omega)]; exact ha i (by omega))⟩
theorem q_feed (hI : Inv us ua rs ra ra2 sa sl ns na nl yt im ms ma ml) (a b c d e : Int32) : P_X11_feed us ua a b c d e (fun r us' ua' => P_X12_feed ms ma a b c d e (fun r' mt mb => r = r' ∧ Inv us' ua' rs ra ra2 sa sl ns na nl yt im mt mb ml)) := by
  have fin : Inv us ua rs ra ra2 sa sl ns na nl yt im (va_up ms 0 0) ma ml := hI.rows (fun j a _ => up_ne a) (fun _ _ => rfl) (hI.1.z rfl) hI.2.2.2.2.1
  obtain ⟨t0, t1, n, hn, e2, e1, hf⟩ := hI.1
  unfold P_X11_feed P_X12_feed
  rw [e2, e1, show nI n + 20 = nI (n + 20) by rw [show (20 : Int32) = nI 20 from rfl, nI_add], show (nI (n + 20) ≤ (1600 : Int32)) = (nI (n + 20) ≤ nI 1600) from rfl, nI_leI (by omega) (by decide)]
  refine ⟨fun z => ?_, fun z => ⟨fun q => absurd q z, fun _ => ⟨rfl, fin⟩⟩⟩
  refine c_append (by omega) (f := ma 2) hf a (fun a1 h1 => c_append (by omega) h1 b (fun a2 h2 => c_append (by omega) h2 c (fun a3 h3 => c_append (by omega) h3 d (fun a4 h4 => c_append (by omega) h4 e (fun a5 h5 => ⟨fun _ => ?_, fun q => absurd z q⟩)))))
  refine m_four (n := n) (ms := va_up ms 0 0) (by omega) (by rw [up_ne (by decide)]; exact e1) (f := ma 2) (fun _ _ => rfl) a (fun m1 b1 p1 q1 r1 s1 => m_four (by omega) q1 s1 b (fun m2 b2 p2 q2 r2 s2 => m_four (by omega) q2 s2 c (fun m3 b3 p3 q3 r3 s3 => m_four (by omega) q3 s3 d (fun m4 b4 p4 q4 r4 s4 => m_four (by omega) q4 s4 e (fun m5 b5 p5 q5 r5 s5 => ?_)))))
  have hm : ∀ j, j ≠ 0 → j ≠ 1 → m5 j = ms j := fun j j0 j1 => by rw [p5 j j1, p4 j j1, p3 j j1, p2 j j1, p1 j j1, up_ne j0]
  have hb : ∀ j, j ≠ 2 → b5 j = ma j := fun j j2 => by rw [r5 j j2, r4 j j2, r3 j j2, r2 j j2, r1 j j2]
  refine ⟨q5.symm, hI.rows hm (fun j hj => hb j (by omega)) ⟨?_, ?_, n + 20, z, up_at, q5, fun i hi => ?_⟩ (fun k hk => by rw [hb 0 (by decide), hb 1 (by decide)]; exact hI.2.2.2.2.1 k hk)⟩
  · rw [up_ne (by decide), hm 8 (by decide) (by decide)]; exact t0
  · rw [up_ne (by decide), hm 9 (by decide) (by decide)]; exact t1
  · rw [up_at, h5 i (by omega), s5 i (by omega)]
theorem q_end (hI : Inv us ua rs ra ra2 sa sl ns na nl yt im ms ma ml) (p : Int32) : P_X11_end us p (fun r us' => P_X12_end ms p (fun r' mt => r = r' ∧ Inv us' ua rs ra ra2 sa sl ns na nl yt im mt ma ml)) := by
  have fin : Inv us ua rs ra ra2 sa sl ns na nl yt im (va_up ms 0 0) ma ml := hI.rows (fun j a _ => up_ne a) (fun _ _ => rfl) (hI.1.z rfl) hI.2.2.2.2.1
  obtain ⟨t0, t1, n, hn, e2, e1, hf⟩ := hI.1
  unfold P_X11_end P_X12_end
  rw [e2, e1]
  rcases ixs p (n := n + 1) (by omega) with h | ⟨k, hk, rfl⟩
  · have B : P_X12_in p.toInt64 0 (nI n).toInt64 (fun (r1 : Int32) => (((¬ r1 = 0) → (-1 : Int32) = p ∧ Inv us ua rs ra ra2 sa sl ns na nl yt im (va_up (va_up ms 0 0) 1 p) ma ml) ∧ ((r1 = 0) → (-1 : Int32) = -1 ∧ Inv us ua rs ra ra2 sa sl ns na nl yt im (va_up ms 0 0) ma ml))) := by
      rw [nI_l (by omega)]
      exact m_inL_bad h (by omega) (b0t ⟨rfl, fin⟩)
    refine ⟨fun _ => B, fun c => ⟨fun c2 => ?_, fun _ => B⟩⟩
    exfalso
    have h2 := h.resolve_left c
    rw [Int32.le_iff_toInt_le, nI_toInt (by omega)] at h2
    rw [Int32.le_iff_toInt_le, nI_toInt (by omega)] at c2
    omega
  · refine ⟨fun c => absurd c (nI_pos (by omega)), fun _ => ⟨fun _ => ?_, fun c => absurd (nI_le (by omega) (by omega)) c⟩⟩
    rw [nI_l (show n < 2 ^ 31 by omega)]
    refine m_inL_ok (by omega) (by omega) (b1t ⟨rfl, hI.rows (fun j a b => by rw [up_ne b, up_ne a]) (fun _ _ => rfl) ⟨?_, ?_, k, by omega, up_at, up_at, fun i hi => hf i (by omega)⟩ hI.2.2.2.2.1⟩)
    · rw [up_ne (by decide), up_ne (by decide), up_ne (by decide)]; exact t0
    · rw [up_ne (by decide), up_ne (by decide), up_ne (by decide)]; exact t1
theorem q_fault (hI : Inv us ua rs ra ra2 sa sl ns na nl yt im ms ma ml) (p : Int32) : P_X11_fault us p (fun r => P_X12_fault ms p (fun r' mt => r = r' ∧ Inv us ua rs ra ra2 sa sl ns na nl yt im mt ma ml)) := by
  have fin : Inv us ua rs ra ra2 sa sl ns na nl yt im (va_up ms 0 0) ma ml := hI.rows (fun j a _ => up_ne a) (fun _ _ => rfl) (hI.1.z rfl) hI.2.2.2.2.1
  obtain ⟨t0, t1, -⟩ := hI.1
  by_cases h0 : p = 0
  · exact ⟨fun _ => ⟨fun c => absurd h0 c, fun _ => ⟨t0, fin⟩⟩, fun c => absurd (h0.symm.trans c) (by decide), fun c => absurd h0 c⟩
  · by_cases h1 : p = 1
    · exact ⟨fun c => absurd c h0, fun _ => ⟨fun _ => ⟨fun c => absurd h1 c, fun _ => ⟨t1, fin⟩⟩, fun c => absurd c h0⟩, fun _ c => absurd h1 c⟩
    · exact ⟨fun c => absurd c h0, fun c => absurd c h1, fun _ _ => ⟨fun _ => ⟨fun _ => ⟨rfl, fin⟩, fun c => absurd c h1⟩, fun c => absurd c h0⟩⟩
end TP
end
section
/-! images: rows copied, and the thief who would rather be there -/
def cpR (w a b : Nat) (f : Nat → Int32) : Nat → Int32 := fun x => if w * b ≤ x ∧ x < w * b + w then f (w * a + (x - w * b)) else f x
theorem cpR_at {w a b : Nat} {f : Nat → Int32} {y x : Nat} (hy : y < w) (hx : x = w * b + y) : cpR w a b f x = f (w * a + y) := by
  unfold cpR
  rw [if_pos (by omega), show x - w * b = y by omega]
theorem cpR_ne {w a b : Nat} {f : Nat → Int32} {x : Nat} (h : x < w * b ∨ w * b + w ≤ x) : cpR w a b f x = f x := by
  unfold cpR
  rw [if_neg (by omega)]
theorem m_copyRow {tN w a b : Nat} {f : Nat → Int32} (hw : w * a + w ≤ tN) (hb : w * b + w ≤ tN) (hd : w * a + w ≤ w * b ∨ w * b + w ≤ w * a) (hN : tN < 2 ^ 30) {post : (Nat → Int32) → Prop} (h : post (cpR w a b f)) : P_X12_copyRow tN f (nI w) (nI a) (nI b) post := by
  have L : ∀ (d i : Nat) (g : Nat → Int32), i + d = w → (∀ y, y < i → g (w * b + y) = f (w * a + y)) → (∀ x, x < w * b ∨ w * b + i ≤ x → g x = f x) → P_X12_copyRow_3 tN (nI w) (nI a) (nI b) post (d + 1) (nI i) g := by
    intro d
    induction d with
    | zero =>
      intro i g hi q1 q2
      obtain rfl : i = w := by omega
      have e : g = cpR i a b f := by
        funext x
        by_cases c : i * b ≤ x ∧ x < i * b + i
        · have := q1 (x - i * b) (by omega)
          rw [show i * b + (x - i * b) = x by omega] at this
          rw [this, cpR_at (y := x - i * b) (by omega) (by omega)]
        · rw [cpR_ne (by omega), q2 x (by omega)]
      rw [← e] at h
      exact ⟨fun _ => h, fun z => absurd (nI_le (Nat.le_refl _) (by omega)) z⟩
    | succ d ih =>
      intro i g hi q1 q2
      refine ⟨fun z => absurd ((nI_leI (by omega) (by omega)).mp z) (by omega), fun _ => ?_⟩
      rw [show nI w * nI a + nI i = nI (w * a + i) by rw [pk_mul, nI_add], show nI w * nI b + nI i = nI (w * b + i) by rw [pk_mul, nI_add], nI_clamp (by omega), nI_clamp (by omega), nI_1]
      refine ⟨vp_in_nI (by omega) (by omega), vp_in_nI (by omega) (by omega), ih (i + 1) _ (by omega) (fun y hy => ?_) (fun x hx => ?_)⟩
      · by_cases c : y = i
        · rw [c, u_at, q2 _ (by omega)]
        · rw [u_ne (by omega)]; exact q1 y (by omega)
      · rw [u_ne (by omega)]; exact q2 x (by omega)
  exact ⟨w + 1, L w 0 f (by omega) (fun y hy => by omega) (fun _ _ => rfl)⟩
def cpA (ma : A2) (a b : Nat) : A2 := va_up (va_up (va_up (va_up (va_up (va_up (va_up (va_up (va_up (va_up (va_up (va_up (va_up (ma) 3 (cpR 1 a b (ma 3))) 4 (cpR 1 a b (ma 4))) 5 (cpR 1 a b (ma 5))) 6 (cpR 1 a b (ma 6))) 7 (cpR 8 a b (ma 7))) 8 (cpR 1 a b (ma 8))) 9 (cpR 20 a b (ma 9))) 10 (cpR 1 a b (ma 10))) 11 (cpR 50 a b (ma 11))) 12 (cpR 1 a b (ma 12))) 13 (cpR 30 a b (ma 13))) 14 (cpR 7 a b (ma 14))) 16 (cpR 17 a b (ma 16))
theorem cpA_3 (ma : A2) (a b : Nat) : cpA ma a b 3 = cpR 1 a b (ma 3) := rfl
theorem cpA_4 (ma : A2) (a b : Nat) : cpA ma a b 4 = cpR 1 a b (ma 4) := rfl
theorem cpA_5 (ma : A2) (a b : Nat) : cpA ma a b 5 = cpR 1 a b (ma 5) := rfl
theorem cpA_6 (ma : A2) (a b : Nat) : cpA ma a b 6 = cpR 1 a b (ma 6) := rfl
theorem cpA_7 (ma : A2) (a b : Nat) : cpA ma a b 7 = cpR 8 a b (ma 7) := rfl
theorem cpA_8 (ma : A2) (a b : Nat) : cpA ma a b 8 = cpR 1 a b (ma 8) := rfl
theorem cpA_9 (ma : A2) (a b : Nat) : cpA ma a b 9 = cpR 20 a b (ma 9) := rfl
theorem cpA_10 (ma : A2) (a b : Nat) : cpA ma a b 10 = cpR 1 a b (ma 10) := rfl
theorem cpA_11 (ma : A2) (a b : Nat) : cpA ma a b 11 = cpR 50 a b (ma 11) := rfl
theorem cpA_12 (ma : A2) (a b : Nat) : cpA ma a b 12 = cpR 1 a b (ma 12) := rfl
theorem cpA_13 (ma : A2) (a b : Nat) : cpA ma a b 13 = cpR 30 a b (ma 13) := rfl
theorem cpA_14 (ma : A2) (a b : Nat) : cpA ma a b 14 = cpR 7 a b (ma 14) := rfl
theorem cpA_16 (ma : A2) (a b : Nat) : cpA ma a b 16 = cpR 17 a b (ma 16) := rfl
theorem cpA_ne {ma : A2} {a b j : Nat} (h : j < 3 ∨ j = 15 ∨ 16 < j) : cpA ma a b j = ma j := by
  unfold cpA
  rw [up_ne (by omega), up_ne (by omega), up_ne (by omega), up_ne (by omega), up_ne (by omega), up_ne (by omega), up_ne (by omega), up_ne (by omega), up_ne (by omega), up_ne (by omega), up_ne (by omega), up_ne (by omega), up_ne (by omega)]
theorem m_copyRail {ma : A2} {a b : Nat} (ha : a < 5) (hb : b < 5) (hab : a ≠ b) {post : A2 → Prop} (h : post (cpA ma a b)) : P_X12_copyRail ma (nI a) (nI b) post :=
  m_copyRow (w := 1) (by omega) (by omega) (by omega) (by decide) (m_copyRow (w := 1) (by omega) (by omega) (by omega) (by decide) (m_copyRow (w := 1) (by omega) (by omega) (by omega) (by decide) (m_copyRow (w := 1) (by omega) (by omega) (by omega) (by decide) (m_copyRow (w := 8) (by omega) (by omega) (by omega) (by decide) (m_copyRow (w := 1) (by omega) (by omega) (by omega) (by decide) (m_copyRow (w := 20) (by omega) (by omega) (by omega) (by decide) (m_copyRow (w := 1) (by omega) (by omega) (by omega) (by decide) (m_copyRow (w := 50) (by omega) (by omega) (by omega) (by decide) (m_copyRow (w := 1) (by omega) (by omega) (by omega) (by decide) (m_copyRow (w := 30) (by omega) (by omega) (by omega) (by decide) (m_copyRow (w := 7) (by omega) (by omega) (by omega) (by decide) (m_copyRow (w := 17) (by omega) (by omega) (by omega) (by decide) (h)))))))))))))
theorem RelN.cp {v : Rl} (hv : okV v) {ma : A2} {a b : Nat} (h : RelN v a ma) : RelN v b (cpA ma a b) := by
  have h12 := ok12 hv
  have h13 := ok13 hv
  obtain ⟨⟨a1, a2, a3, a4, a5⟩, b1, c1, d1, e1, e2, e3, e4, e5, e6, e7⟩ := h
  unfold RelN
  rw [cpA_3, cpA_4, cpA_5, cpA_8, cpA_9, cpA_10, cpA_11, cpA_14]
  refine ⟨⟨?_, ?_, ?_, ?_, ?_⟩, fun k hk => ?_, fun k i hk hi => ?_, fun c hc => ?_, ?_, ?_, ?_, ?_, ?_, ?_, ?_⟩
  · rw [cpR_at (y := 0) (by decide) (by omega)]; rw [show 1 * a + 0 = a by omega]; exact a1
  · rw [cpR_at (y := 0) (by decide) (by omega)]; rw [show 1 * a + 0 = a by omega]; exact a2
  · rw [cpR_at (y := 0) (by decide) (by omega)]; rw [show 1 * a + 0 = a by omega]; exact a3
  · rw [cpR_at (y := 0) (by decide) (by omega)]; rw [show 1 * a + 0 = a by omega]; exact a4
  · rw [cpR_at (y := 0) (by decide) (by omega)]; rw [show 1 * a + 0 = a by omega]; exact a5
  · rw [cpR_at (y := 4 * k) (by omega) (by omega), show 20 * a + 4 * k = 4 * (5 * a + k) by omega]; exact b1 k hk
  · rw [cpR_at (y := 4 * k + 1 + i) (by omega) (by omega), show 20 * a + (4 * k + 1 + i) = 4 * (5 * a + k) + 1 + i by omega]; exact c1 k i hk hi
  · obtain ⟨f0, f1, f2, f3, f4⟩ := d1 c hc
    rw [cpR_at (y := 5 * c) (x := 5 * (10 * b + c)) (by omega) (by omega), cpR_at (y := 5 * c + 1) (by omega) (by omega), cpR_at (y := 5 * c + 2) (by omega) (by omega), cpR_at (y := 5 * c + 3) (by omega) (by omega), cpR_at (y := 5 * c + 4) (by omega) (by omega), show 50 * a + 5 * c = 5 * (10 * a + c) by omega, show 50 * a + (5 * c + 1) = 5 * (10 * a + c) + 1 by omega, show 50 * a + (5 * c + 2) = 5 * (10 * a + c) + 2 by omega, show 50 * a + (5 * c + 3) = 5 * (10 * a + c) + 3 by omega, show 50 * a + (5 * c + 4) = 5 * (10 * a + c) + 4 by omega]
    exact ⟨f0, f1, f2, f3, f4⟩
  · rw [cpR_at (y := 0) (by decide) (by omega)]; exact e1
  · rw [cpR_at (y := 1) (by decide) (by omega)]; exact e2
  · rw [cpR_at (y := 2) (by decide) (by omega)]; exact e3
  · rw [cpR_at (y := 3) (by decide) (by omega)]; exact e4
  · rw [cpR_at (y := 4) (by decide) (by omega)]; exact e5
  · rw [cpR_at (y := 5) (by decide) (by omega)]; exact e6
  · rw [cpR_at (y := 6) (by decide) (by omega)]; exact e7
theorem RelN.cpo {v : Rl} (hv : okV v) {ma : A2} {a b j : Nat} (hj : j ≠ b) (h : RelN v j ma) : RelN v j (cpA ma a b) := by
  have h12 := ok12 hv
  have h13 := ok13 hv
  obtain ⟨⟨a1, a2, a3, a4, a5⟩, b1, c1, d1, e1, e2, e3, e4, e5, e6, e7⟩ := h
  unfold RelN
  rw [cpA_3, cpA_4, cpA_5, cpA_8, cpA_9, cpA_10, cpA_11, cpA_14]
  refine ⟨⟨?_, ?_, ?_, ?_, ?_⟩, fun k hk => ?_, fun k i hk hi => ?_, fun c hc => ?_, ?_, ?_, ?_, ?_, ?_, ?_, ?_⟩
  · rw [cpR_ne (by omega)]; exact a1
  · rw [cpR_ne (by omega)]; exact a2
  · rw [cpR_ne (by omega)]; exact a3
  · rw [cpR_ne (by omega)]; exact a4
  · rw [cpR_ne (by omega)]; exact a5
  · rw [cpR_ne (by omega)]; exact b1 k hk
  · rw [cpR_ne (by omega)]; exact c1 k i hk hi
  · rw [cpR_ne (by omega), cpR_ne (by omega), cpR_ne (by omega), cpR_ne (by omega), cpR_ne (by omega)]; exact d1 c hc
  · rw [cpR_ne (by omega)]; exact e1
  · rw [cpR_ne (by omega)]; exact e2
  · rw [cpR_ne (by omega)]; exact e3
  · rw [cpR_ne (by omega)]; exact e4
  · rw [cpR_ne (by omega)]; exact e5
  · rw [cpR_ne (by omega)]; exact e6
  · rw [cpR_ne (by omega)]; exact e7
theorem RelT.cp {v : Rl} (hv : okV v) {ma : A2} {a b : Nat} (h : RelT v a ma) : RelT v b (cpA ma a b) := by
  have h14 := ok14 hv
  unfold RelT at h ⊢
  rw [cpA_12, cpA_13, cpR_at (y := 0) (by decide) (by omega)]
  refine ⟨by rw [show 1 * a + 0 = a by omega]; exact h.1, fun t ht => ?_⟩
  rw [cpR_at (y := 5 * t) (x := 5 * (6 * b + t)) (by omega) (by omega), cpR_at (y := 5 * t + 1) (by omega) (by omega), cpR_at (y := 5 * t + 2) (by omega) (by omega), cpR_at (y := 5 * t + 3) (by omega) (by omega), cpR_at (y := 5 * t + 4) (by omega) (by omega), show 30 * a + 5 * t = 5 * (6 * a + t) by omega, show 30 * a + (5 * t + 1) = 5 * (6 * a + t) + 1 by omega, show 30 * a + (5 * t + 2) = 5 * (6 * a + t) + 2 by omega, show 30 * a + (5 * t + 3) = 5 * (6 * a + t) + 3 by omega, show 30 * a + (5 * t + 4) = 5 * (6 * a + t) + 4 by omega]
  exact h.2 t ht
theorem RelT.cpo {v : Rl} (hv : okV v) {ma : A2} {a b j : Nat} (hj : j ≠ b) (h : RelT v j ma) : RelT v j (cpA ma a b) := by
  have h14 := ok14 hv
  unfold RelT at h ⊢
  rw [cpA_12, cpA_13, cpR_ne (by omega)]
  refine ⟨h.1, fun t ht => ?_⟩
  rw [cpR_ne (by omega), cpR_ne (by omega), cpR_ne (by omega), cpR_ne (by omega), cpR_ne (by omega)]
  exact h.2 t ht
theorem RelP.cp {v : Rl} {ma : A2} {a b : Nat} (h : RelP v a ma) : RelP v b (cpA ma a b) := by
  have h11 := h.2.1
  unfold RelP at h ⊢
  rw [cpA_6, cpA_7, cpR_at (y := 0) (by decide) (by omega)]
  refine ⟨by rw [show 1 * a + 0 = a by omega]; exact h.1, h11, fun k hk => ?_⟩
  rw [cpR_at (y := 2 * k) (x := 2 * (4 * b + k)) (by omega) (by omega), cpR_at (y := 2 * k + 1) (by omega) (by omega), show 8 * a + 2 * k = 2 * (4 * a + k) by omega, show 8 * a + (2 * k + 1) = 2 * (4 * a + k) + 1 by omega]
  exact h.2.2 k hk
theorem RelP.cpo {v : Rl} {ma : A2} {a b j : Nat} (hj : j ≠ b) (h : RelP v j ma) : RelP v j (cpA ma a b) := by
  have h11 := h.2.1
  unfold RelP at h ⊢
  rw [cpA_6, cpA_7, cpR_ne (by omega)]
  refine ⟨h.1, h11, fun k hk => ?_⟩
  rw [cpR_ne (by omega), cpR_ne (by omega)]
  exact h.2.2 k hk
theorem RelY.cp {v : Rl} {ma : A2} {a b : Nat} (h : RelY v a ma) : RelY v b (cpA ma a b) := by
  unfold RelY at h ⊢
  rw [cpA_16, cpR_at (y := 0) (by decide) (by omega)]
  refine ⟨h.1, fun z => ⟨fun c hc => ?_, fun t ht => ?_⟩⟩
  · rw [cpR_at (y := 1 + c) (by omega) (by omega), show 17 * a + (1 + c) = 17 * a + 1 + c by omega]
    exact (h.2 z).1 c hc
  · rw [cpR_at (y := 11 + t) (by omega) (by omega), show 17 * a + (11 + t) = 17 * a + 11 + t by omega]
    exact (h.2 z).2 t ht
theorem RelY.cpo {v : Rl} {ma : A2} {a b j : Nat} (hj : j ≠ b) (h : RelY v j ma) : RelY v j (cpA ma a b) := by
  unfold RelY at h ⊢
  rw [cpA_16, cpR_ne (by omega)]
  refine ⟨h.1, fun z => ⟨fun c hc => ?_, fun t ht => ?_⟩⟩
  · rw [cpR_ne (by omega)]; exact (h.2 z).1 c hc
  · rw [cpR_ne (by omega)]; exact (h.2 z).2 t ht
section KB
variable {us : A1} {ua : A2} {rs : A1} {ra ra2 sa : A2} {sl : L2} {ns : A1} {na : A2} {nl : L2} {yt : Int32} {im : Img} {ms : A1} {ma : A2} {ml : L2}
theorem m_keep (hI : Inv us ua rs ra ra2 sa sl ns na nl yt im ms ma ml) {k : Nat} (hk : k < 3) : ∃ v, okR v ∧ RelC v rs ra ∧ P_X12_keep ms ma (nI k) (fun r mt mb => 0 = r ∧ ∀ rs' ra', RelC v rs' ra' → Inv us ua rs ra ra2 sa sl ns na nl yt (fun i => if i = k then some (rs', ra') else im i) mt mb ml) := by
  obtain ⟨hTp, ⟨v, hv, hC, hN, hT, hP, hY⟩, hB, hK, hS, hIm, h10, hy⟩ := hI
  refine ⟨v, hv, hC, m_inL_ok (m := 2) (by omega) (by decide) (b1t ?_)⟩
  rw [show (1 : Int32) + nI k = nI (k + 1) by rw [show (1 : Int32) = nI 1 from rfl, nI_add, Nat.add_comm]]
  refine m_copyRail (a := 0) (by decide) (by omega) (by omega) ⟨vp_in_nI hk (by decide), rfl, fun rs' ra' hC' => ?_⟩
  rw [nI_clamp (by omega)]
  have e : ∀ j, j ≠ 17 → va_up (cpA ma 0 (k + 1)) 17 (upd (cpA ma 0 (k + 1) 17) k 1) j = cpA ma 0 (k + 1) j := fun j hj => up_ne hj
  have t2 : va_up (cpA ma 0 (k + 1)) 17 (upd (cpA ma 0 (k + 1) 17) k 1) 2 = ma 2 := by rw [e 2 (by decide)]; exact cpA_ne (by decide)
  refine ⟨hTp.z t2, ⟨v, hv, hC, (hN.cpo hv.1 (by omega)).fr (fun i _ _ => e i (by omega)), (hT.cpo hv.1 (by omega)).eq (e 12 (by decide)) (e 13 (by decide)), (hP.cpo (by omega)).eq (e 6 (by decide)) (e 7 (by decide)), (hY.cpo (by omega)).eq (e 16 (by decide))⟩, hB, hK, fun i hi => ?_, fun i hi => ?_, ⟨by rw [up_ne (by decide)]; exact h10.1, by rw [up_ne (by decide)]; exact h10.2⟩, hy⟩
  · rw [e 0 (by decide), e 1 (by decide), cpA_ne (by decide), cpA_ne (by decide)]
    exact hS i hi
  · rw [up_at, cpA_ne (show 17 < 3 ∨ 17 = 15 ∨ 16 < 17 by decide)]
    by_cases c : i = k
    · subst c
      simp only [if_true]
      rw [u_at]
      exact ⟨rfl, v, hv, hC', (hN.cp hv.1).fr (fun i _ _ => e i (by omega)), (hT.cp hv.1).eq (e 12 (by decide)) (e 13 (by decide)), hP.cp.eq (e 6 (by decide)) (e 7 (by decide)), hY.cp.eq (e 16 (by decide))⟩
    · simp only [if_neg c]
      rw [u_ne c]
      have hh := hIm i hi
      cases hm : im i with
      | none =>
        rw [hm] at hh
        exact hh
      | some q =>
        rw [hm] at hh
        simp only at hh ⊢
        obtain ⟨g0, w, g1, g2, g3, g4, g5, g6⟩ := hh
        exact ⟨g0, w, g1, g2, (g3.cpo g1.1 (by omega)).fr (fun i _ _ => e i (by omega)), (g4.cpo g1.1 (by omega)).eq (e 12 (by decide)) (e 13 (by decide)), (g5.cpo (by omega)).eq (e 6 (by decide)) (e 7 (by decide)), (g6.cpo (by omega)).eq (e 16 (by decide))⟩
theorem m_keep0 (hI : Inv us ua rs ra ra2 sa sl ns na nl yt im ms ma ml) {p : Int32} (hp : p < 0 ∨ nI 3 ≤ p) : P_X12_keep ms ma p (fun r mt mb => -2 = r ∧ Inv us ua rs ra ra2 sa sl ns na nl yt im mt mb ml) :=
  m_inL_bad (m := 2) hp (by decide) (b0t ⟨rfl, hI.rows (fun j a _ => up_ne a) (fun _ _ => rfl) (hI.1.z rfl) hI.2.2.2.2.1⟩)
theorem m_back0 (hI : Inv us ua rs ra ra2 sa sl ns na nl yt im ms ma ml) {p : Int32} (hp : p < 0 ∨ nI 3 ≤ p) : P_X12_back ms ma p (fun r mt mb => -2 = r ∧ Inv us ua rs ra ra2 sa sl ns na nl yt im mt mb ml) :=
  m_inL_bad (m := 2) hp (by decide) (b0t ⟨rfl, hI.rows (fun j a _ => up_ne a) (fun _ _ => rfl) (hI.1.z rfl) hI.2.2.2.2.1⟩)
theorem m_backN (hI : Inv us ua rs ra ra2 sa sl ns na nl yt im ms ma ml) {k : Nat} (hk : k < 3) (hm : im k = none) : P_X12_back ms ma (nI k) (fun r mt mb => -6 = r ∧ Inv us ua rs ra ra2 sa sl ns na nl yt im mt mb ml) := by
  have hh := hI.2.2.2.2.2.1 k hk
  rw [hm] at hh
  refine m_inL_ok (m := 2) (by omega) (by decide) (b1t ⟨vp_in_nI hk (by decide), ?_⟩)
  rw [nI_clamp (by omega)]
  exact ⟨fun c => absurd hh c, fun _ => ⟨rfl, hI.rows (fun j a _ => up_ne a) (fun _ _ => rfl) (hI.1.z rfl) hI.2.2.2.2.1⟩⟩
theorem m_back (hI : Inv us ua rs ra ra2 sa sl ns na nl yt im ms ma ml) {k : Nat} (hk : k < 3) {q : A1 × A2} (hm : im k = some q) : ∃ v, okR v ∧ RelC v q.1 q.2 ∧ P_X12_back ms ma (nI k) (fun r mt mb => 0 = r ∧ ∀ rs' ra', RelC v rs' ra' → Inv us ua rs' ra' ra2 sa sl ns na nl yt im mt mb ml) := by
  obtain ⟨hTp, -, hB, hK, hS, hIm, h10, hy⟩ := hI
  have hh := hIm k hk
  rw [hm] at hh
  simp only at hh
  obtain ⟨h17, v, hv, hC, hN, hT, hP, hY⟩ := hh
  refine ⟨v, hv, hC, m_inL_ok (m := 2) (by omega) (by decide) (b1t ⟨vp_in_nI hk (by decide), ?_⟩)⟩
  rw [nI_clamp (by omega), h17, show (1 : Int32) + nI k = nI (k + 1) by rw [show (1 : Int32) = nI 1 from rfl, nI_add, Nat.add_comm]]
  refine b1t (m_copyRail (b := 0) (by omega) (by decide) (by omega) ⟨rfl, fun rs' ra' hC' => ?_⟩)
  refine ⟨hTp.z (cpA_ne (by decide)), ⟨v, hv, hC', hN.cp hv.1, hT.cp hv.1, hP.cp, hY.cp⟩, hB, hK, fun i hi => ?_, fun i hi => ?_, ⟨by rw [up_ne (by decide)]; exact h10.1, by rw [up_ne (by decide)]; exact h10.2⟩, hy⟩
  · rw [cpA_ne (by decide), cpA_ne (by decide)]
    exact hS i hi
  · have hh := hIm i hi
    rw [cpA_ne (show 17 < 3 ∨ 17 = 15 ∨ 16 < 17 by decide)]
    cases hm : im i with
    | none =>
      rw [hm] at hh
      exact hh
    | some q =>
      rw [hm] at hh
      simp only at hh ⊢
      obtain ⟨g0, w, g1, g2, g3, g4, g5, g6⟩ := hh
      exact ⟨g0, w, g1, g2, g3.cpo g1.1 (by omega), g4.cpo g1.1 (by omega), g5.cpo (by omega), g6.cpo (by omega)⟩
/-- what a thief has of what he takes first -/
def ntI (v : Rl) (t : Nat) : Int32 := match tk v 0 t 0 with
  | none => 0
  | some b => nI (gain v b) - nI (trouble v t b)
theorem c_netTaken {v : Rl} (hC : RelC v rs ra) (hv : okV v) {t : Nat} (ht : t < v 14 0) {post : Int32 → A1 → A2 → Prop} (h : ∀ nb, (∀ j, 5 ≤ j → nb j = na j) → post (ntI v t) (va_up ns 0 (nI (v 13 0))) nb) : P_X11_netTaken rs ra ns na (nI t) post := by
  have h13 := ok13 hv
  have h14 := ok14 hv
  refine c_lookAt hC hv (fun nb hN hb => c_pickN hN ht h14 (g := 0) (by decide) ?_)
  have h' := h nb hb
  unfold ntI at h'
  cases hk : tk v 0 t 0 with
  | none =>
    rw [hk] at h'
    exact ⟨fun c => absurd rfl c, fun _ => h'⟩
  | some b =>
    rw [hk] at h'
    have hb := tk0_lt hk
    exact ⟨fun _ => c_netOf hC hv hN ht hb h', fun c => absurd c (nI_nm1 (by omega))⟩
theorem m_netOn {v : Rl} (hv : okV v) {j : Nat} (hj : j < 5) (hM : RM v j ms ma) {t : Nat} (ht : t < v 14 0) {post : Int32 → Prop} (h : post (ntI v t)) : P_X12_netOn ms ma (nI t) (nI j) post := by
  have h13 := ok13 hv
  have h14 := ok14 hv
  obtain ⟨-, -, -, e28, e29⟩ := hM.2.1.2 t ht
  obtain ⟨-, -, -, b28, b29⟩ := hv.2.2.2.2.2.1 t ht
  unfold P_X12_netOn
  rw [show (5 : Int32) * nI t + 3 = nI (5 * (6 * 0 + t) + 3) by rw [show 6 * 0 + t = t by omega]; simp only [fa_lit, pk_mul, nI_add], nI_clamp (by omega), e28]
  refine ⟨vp_in_nI (by omega) (by decide), fun x hx => ?_⟩
  subst hx
  have hnet : ∀ b, scn v 0 t 0 (v 13 0) = some b → True := fun _ _ => trivial
  have W : ∀ k b, k ≤ v 13 0 → scn v 0 t 0 k = some b → b < k ∧ 0 < net v t b ∧ (v 28 t = 2 → v 29 t = b + 1) := by
    intro k b hk hs
    obtain ⟨h1, h2⟩ := scn_lt v 0 t 0 k b hs
    unfold wnt at h2
    rw [if_pos (by omega)] at h2
    simp at h2
    exact ⟨h1, h2.1, fun e => h2.2.resolve_left (fun q => q e)⟩
  let T1 : Option Nat → Int32 := fun o => match o with
    | none => 0
    | some b => nI (trouble v t b)
  let N1 : Option Nat → Int32 := fun o => match o with
    | none => 0
    | some b => nI (gain v b) - nI (trouble v t b)
  have L : ∀ (d i : Nat), i + d = v 13 0 → P_X12_netOn_20 ms ma (nI t) (nI j) post (nI (v 28 t)) (d + 1) (T1 (scn v 0 t 0 i)) (N1 (scn v 0 t 0 i)) (nI i) := by
    intro d
    induction d with
    | zero =>
      intro i hi
      obtain rfl : i = v 13 0 := by omega
      refine ⟨vp_in_nI hj (by decide), ?_⟩
      rw [nI_clamp (by omega)]
      refine ⟨fun _ => ?_, fun c => absurd ((cmp_le hM.1.1.2.2.2.2 (by omega) (by omega)).mpr (Nat.le_refl _)) c⟩
      unfold ntI at h
      rw [tk_no_bait] at h
      exact h
    | succ d ih =>
      intro i hi
      refine ⟨vp_in_nI hj (by decide), ?_⟩
      rw [nI_clamp (by omega)]
      refine ⟨fun c => absurd ((cmp_le hM.1.1.2.2.2.2 (by omega) (by omega)).mp c) (by omega), fun _ => ?_⟩
      refine m_troubleOf hv hM hj ht (by omega) (m_gainOf hv hM.1 hj (by omega) (fun x hx => ?_))
      subst hx
      have go := ih (i + 1) (by omega)
      rw [scn] at go
      simp only [Nat.zero_testBit, Bool.not_false, Bool.and_true] at go
      have hi13 : i < v 13 0 := by omega
      have en := net_int hv ht hi13
      have ec : (nI (gain v i) - nI (trouble v t i) ≤ 0) ↔ net v t i ≤ 0 := by
        rw [Int32.le_iff_toInt_le, en]
        rfl
      have htr := trouble_le hv ht hi13
      rw [ec, nI_1]
      refine ⟨fun c => ?_, fun c => ?_⟩
      · rw [if_neg (by unfold wnt; rw [if_pos hi13]; simp; omega)] at go
        exact go
      · -- he would take it, if he were for it
        have K : (v 28 t = 2 → v 29 t = i + 1) → P_X12_netOn_81 ms ma (nI t) (nI j) (nI (v 28 t)) post (P_X12_netOn_20 ms ma (nI t) (nI j) post (nI (v 28 t)) (d + 1)) (T1 (scn v 0 t 0 i)) (N1 (scn v 0 t 0 i)) (nI i) (nI (trouble v t i)) (nI (gain v i) - nI (trouble v t i)) := by
          intro hjust
          have hw : wnt v 0 t i = true := by
            unfold wnt
            rw [if_pos hi13]
            by_cases k2 : v 28 t = 2
            · have := hjust k2
              simp [this]
              omega
            · simp [k2]
              omega
          rw [if_pos hw] at go
          cases hs : scn v 0 t 0 i with
          | none =>
            rw [hs] at go
            refine ⟨fun _ => ?_, fun c => absurd rfl c⟩
            rw [nI_1]
            exact go
          | some b =>
            rw [hs] at go
            obtain ⟨w1, w2, w3⟩ := W i b (by omega) hs
            have hb13 : b < v 13 0 := by omega
            have enb := net_int hv ht hb13
            have htb := trouble_le hv ht hb13
            simp only at go
            refine ⟨fun c => ?_, fun _ => ?_⟩
            · exfalso
              have c' : nI (gain v b) - nI (trouble v t b) = 0 := c
              rw [c'] at enb
              have : (0 : Int32).toInt = 0 := rfl
              omega
            · have hk2 : v 28 t ≠ 2 := fun e => by
                have := w3 e
                have := hjust e
                omega
              unfold rnk at go
              rw [if_pos hi13, if_pos hb13] at go
              by_cases k0 : v 28 t = 0
              · rw [if_pos k0, if_pos k0] at go
                refine ⟨fun c => absurd (by rw [k0]; rfl) c, fun _ => ⟨fun c => ?_, fun c => ?_⟩⟩
                · have c' : nI (gain v b) - nI (trouble v t b) < nI (gain v i) - nI (trouble v t i) := c
                  rw [Int32.lt_iff_toInt_lt, en, enb] at c'
                  rw [if_pos (by omega)] at go
                  rw [nI_1]
                  exact go
                · have c' : ¬ nI (gain v b) - nI (trouble v t b) < nI (gain v i) - nI (trouble v t i) := c
                  rw [Int32.lt_iff_toInt_lt, en, enb] at c'
                  rw [if_neg (by omega)] at go
                  refine ⟨fun _ => ?_, fun z => absurd (z.symm.trans (by rw [k0]; rfl : nI (v 28 t) = (0 : Int32))) (by decide)⟩
                  rw [nI_1]
                  exact go
              · rw [if_neg k0, if_neg k0] at go
                have k1 : v 28 t = 1 := by omega
                refine ⟨fun _ => ?_, fun c => absurd ((nI_eq (b := 0) (by omega) (by decide)).mp c) k0⟩
                refine ⟨fun c => absurd (by rw [k1]; rfl) c, fun _ => ?_⟩
                show (nI (trouble v t b) ≤ nI (trouble v t i) → _) ∧ (¬ nI (trouble v t b) ≤ nI (trouble v t i) → _)
                rw [nI_leI (by omega) (by omega), nI_1]
                refine ⟨fun c => ?_, fun c => ?_⟩
                · rw [if_neg (by omega)] at go
                  exact go
                · rw [if_pos (by omega)] at go
                  exact go
        refine ⟨fun c2 => K (fun e => absurd (by rw [e]; rfl) c2), fun c2 => ?_⟩
        have k2 : v 28 t = 2 := (nI_eq (b := 2) (by omega) (by decide)).mp c2
        rw [show (5 : Int32) * nI t + 4 = nI (5 * (6 * 0 + t) + 4) by rw [show 6 * 0 + t = t by omega]; simp only [fa_lit, pk_mul, nI_add], nI_clamp (by omega), e29]
        refine ⟨vp_in_nI (by omega) (by decide), fun c3 => K (fun _ => ?_), fun c3 => ?_⟩
        · have := congrArg (fun x : Int32 => x + 1) c3
          simp only [Int32.sub_add_cancel] at this
          rw [nI_1] at this
          exact ((nI_eq (by omega) (by omega)).mp this).symm
        · rw [if_neg (by
            unfold wnt
            rw [if_pos hi13]
            simp [k2]
            intro _ e
            exact c3 (by rw [e, nI_pre (by omega)]; rfl))] at go
          exact go
  exact ⟨v 13 0 + 1, L (v 13 0) 0 (by omega)⟩
end KB
end
