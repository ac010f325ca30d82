/-! promises 44 to 49: years that are drawn or told -/
def upN (f : Nat → Nat) (k : Nat) : Nat → Nat := fun i => if i = k then f i + 1 else f i
abbrev NS : Type := Nat × (Nat → Nat) × (Nat → Nat)
def ns1 (v : Rl) (C : Nat → Bool) (t : Nat) (S : NS) : NS := if C t = true then (match tk v 0 t S.1 with
  | none => S
  | some b => (S.1 ||| 2 ^ b, upN S.2.1 b, upN S.2.2 t)) else S
def nsn (v : Rl) (C : Nat → Bool) (S : NS) : Nat → NS
  | 0 => S
  | t + 1 => ns1 v C t (nsn v C S t)
theorem nsn_cong {v : Rl} {C D : Nat → Bool} (S : NS) : ∀ {k : Nat}, (∀ t, t < k → C t = D t) → nsn v C S k = nsn v D S k
  | 0, _ => rfl
  | k + 1, h => by
    rw [nsn, nsn, nsn_cong S (fun t ht => h t (by omega))]
    unfold ns1
    rw [h k (by omega)]
theorem tk0_lt {v : Rl} {t g b : Nat} (h : tk v 0 t g = some b) : b < v 13 0 := by
  rw [tk_no_bait] at h
  exact (scn_lt v 0 t g _ _ h).1
theorem nsn_lt {v : Rl} (h13 : v 13 0 ≤ 10) (C : Nat → Bool) {S : NS} (hS : S.1 < 1024) : ∀ k, (nsn v C S k).1 < 1024
  | 0 => hS
  | k + 1 => by
    have ih := nsn_lt h13 C hS k
    rw [nsn]
    unfold ns1
    split
    · split
      · exact ih
      · rename_i b hb
        have := tk0_lt hb
        exact or_ltN (n := 10) ih (by omega)
    · exact ih
theorem sumN_upN {f : Nat → Nat} {k : Nat} : ∀ {n : Nat}, k < n → sumN (upN f k) n = sumN f n + 1
  | 0, h => absurd h (Nat.not_lt_zero k)
  | n + 1, h => by
    rw [sumN, sumN]
    by_cases c : k = n
    · subst c
      rw [sumN_cong (g := f) (fun i hi => by unfold upN; rw [if_neg (by omega)])]
      unfold upN
      rw [if_pos rfl]
      omega
    · rw [sumN_upN (n := n) (by omega)]
      unfold upN
      rw [if_neg (fun e => c e.symm)]
      omega
theorem nsn_sum {v : Rl} (h13 : v 13 0 ≤ 10) (C : Nat → Bool) (S : NS) : ∀ k, sumN (nsn v C S k).2.1 10 + popc S.1 = sumN S.2.1 10 + popc (nsn v C S k).1
  | 0 => rfl
  | k + 1 => by
    have ih := nsn_sum h13 C S k
    rw [nsn]
    unfold ns1
    split
    · split
      · exact ih
      · rename_i b hb
        have h1 := tk0_lt hb
        have h2 := (tk_some hb).2.2
        have e : popc ((nsn v C S k).1 ||| 2 ^ b) = popc (nsn v C S k).1 + 1 := sumN_off (n := 11) (by omega) h2
        show sumN (upN (nsn v C S k).2.1 b) 10 + popc S.1 = sumN S.2.1 10 + popc ((nsn v C S k).1 ||| 2 ^ b)
        rw [e, sumN_upN (by omega)]
        omega
    · exact ih
def yr (v : Rl) (CC : Nat → Nat → Bool) : Nat → (Nat → Nat) × (Nat → Nat)
  | 0 => (fun _ => 0, fun _ => 0)
  | i + 1 => (nsn v (CC i) (0, (yr v CC i).1, (yr v CC i).2) (v 14 0)).2
theorem popc_le (x : Nat) : popc x ≤ 11 := by
  have := sumN_le (f := fun j => if x.testBit j then 1 else 0) (c := 1) (n := 11) (fun k _ => by split <;> omega)
  unfold popc
  omega
theorem yr_sum {v : Rl} (h13 : v 13 0 ≤ 10) (CC : Nat → Nat → Bool) (i : Nat) : sumN (yr v CC (i + 1)).1 10 = sumN (yr v CC i).1 10 + popc (nsn v (CC i) (0, (yr v CC i).1, (yr v CC i).2) (v 14 0)).1 := by
  have := nsn_sum h13 (CC i) (0, (yr v CC i).1, (yr v CC i).2) (v 14 0)
  rw [show popc 0 = 0 by decide] at this
  exact this
theorem yr_zero : sumN (fun _ => 0) 10 = 0 := rfl
theorem yr_le {v : Rl} (h13 : v 13 0 ≤ 10) (CC : Nat → Nat → Bool) : ∀ i, sumN (yr v CC i).1 10 ≤ 11 * i
  | 0 => by rw [yr, yr_zero]; omega
  | i + 1 => by
    have := yr_le h13 CC i
    have := popc_le (nsn v (CC i) (0, (yr v CC i).1, (yr v CC i).2) (v 14 0)).1
    rw [yr_sum h13]
    omega
/-! the draw -/
def dr (x : Nat) : Nat := (1103515245 * x + 12345) % 2147483648
def dN (x : Nat) : Nat → Nat
  | 0 => x
  | t + 1 => dr (dN x t)
theorem dr_lt (x : Nat) : dr x < 2147483648 := Nat.mod_lt _ (by decide)
theorem dN_lt {x : Nat} (hx : x < 2147483648) : ∀ t, dN x t < 2147483648
  | 0 => hx
  | t + 1 => dr_lt _
theorem andL (a b : Nat) : lN a &&& lN b = lN (a &&& b) := by
  apply Int64.toBitVec_inj.1
  show BitVec.ofNat 64 a &&& BitVec.ofNat 64 b = BitVec.ofNat 64 (a &&& b)
  apply BitVec.eq_of_getLsbD_eq
  intro i hi
  simp [hi]
theorem dr_c (x : Nat) : ((1103515245 * lN x) + 12345) &&& 2147483647 = lN (dr x) := by
  rw [show (1103515245 : Int64) = lN 1103515245 from rfl, lN_mul, show (12345 : Int64) = lN 12345 from rfl, lN_add, show (2147483647 : Int64) = lN (2 ^ 31 - 1) from rfl, andL, Nat.and_two_pow_sub_one_eq_mod]
  rfl
theorem dr_m {x : Nat} (hx : x < 2147483648) : ((1103515245 * lN x) + 12345) - ((1103515245 * lN x) + 12345) / 2147483648 * 2147483648 = lN (dr x) := by
  rw [show (1103515245 : Int64) = lN 1103515245 from rfl, lN_mul, show (12345 : Int64) = lN 12345 from rfl, lN_add, show (2147483648 : Int64) = lN 2147483648 from rfl, pk_lRem (by omega) (by decide) (by decide)]
  rfl
theorem dr_p {y : Nat} (hy : y < 2147483648) : (lN y / 65536) - (lN y / 65536) / 100 * 100 = lN (y / 65536 % 100) := by
  rw [show (65536 : Int64) = lN 65536 from rfl, pk_lDiv (by omega) (by decide) (by decide), show (100 : Int64) = lN 100 from rfl, pk_lRem (by omega) (by decide) (by decide)]
def cmb (v : Rl) (x t : Nat) : Bool := decide (dN x (t + 1) / 65536 % 100 < v 26 t)
def msk (v : Rl) (x : Nat) : Nat → Nat
  | 0 => 0
  | t + 1 => if cmb v x t = true then msk v x t ||| 2 ^ t else msk v x t
theorem msk_lt (v : Rl) (x : Nat) : ∀ t, msk v x t < 2 ^ t
  | 0 => by rw [msk]; decide
  | t + 1 => by
    have := msk_lt v x t
    have h2 : msk v x t < 2 ^ (t + 1) := Nat.lt_of_lt_of_le this (Nat.pow_le_pow_right (by decide) (by omega))
    rw [msk]
    split
    · exact or_ltN h2 (by omega)
    · exact h2
theorem msk_bit (v : Rl) (x : Nat) {t : Nat} : ∀ {k : Nat}, t < k → (msk v x k).testBit t = cmb v x t
  | 0, h => absurd h (Nat.not_lt_zero t)
  | k + 1, h => by
    rw [msk]
    by_cases c : t = k
    · subst c
      have hz : (msk v x t).testBit t = false := Nat.testBit_lt_two_pow (msk_lt v x t)
      split
      · rename_i e
        rw [tb_or, e]
        simp
      · rename_i e
        rw [hz]
        simpa using e
    · have ih := msk_bit v x (k := k) (t := t) (by omega)
      split
      · rw [tb_or, ih]
        simp
        intro e
        omega
      · exact ih
def xs (v : Rl) (s : Nat) : Nat → Nat
  | 0 => s
  | i + 1 => dN (xs v s i) (v 14 0)
theorem xs_lt {v : Rl} {s : Nat} (hs : s < 2147483648) : ∀ i, xs v s i < 2147483648
  | 0 => hs
  | i + 1 => dN_lt (xs_lt hs i) _
def CR (v : Rl) (s : Nat) : Nat → Nat → Bool := fun i t => cmb v (xs v s i) t
/-- the rail with a year -/
def vy (v : Rl) (T K : Nat → Nat) : Rl := fun f k => if f = 15 then 1 else if f = 30 then T k else if f = 31 then K k else v f k
theorem vy_f {v : Rl} {T K : Nat → Nat} {f : Nat} (h1 : f ≠ 15) (h2 : f ≠ 30) (h3 : f ≠ 31) : vy v T K f = v f := funext fun k => by
  unfold vy
  rw [if_neg h1, if_neg h2, if_neg h3]
theorem okR.y {v : Rl} (hv : okR v) (T K : Nat → Nat) : okR (vy v T K) := by
  obtain ⟨⟨⟨h0, h1, h2, h3, h4, h5, h6, h7, h8, h9, h10, h11, h12, h13, h14, h15, h16⟩, b1, b2, b3, b4, b5, b6⟩, hj, hz⟩ := hv
  exact ⟨⟨⟨h0, h1, h2, h3, h4, h5, h6, h7, h8, h9, h10, h11, h12, h13, h14, Nat.le_refl 1, h16⟩, b1, b2, b3, b4, b5, b6⟩, hj, hz⟩
theorem RelC.y {v : Rl} {rs rs' : A1} {ra ra' : A2} (hC : RelC v rs ra) {T K : Nat → Nat} (h1 : ∀ j, j ≠ 15 → rs' j = rs j) (h2 : rs' 15 = 1) (h3 : ∀ j, j ≠ 14 → j ≠ 15 → ra' j = ra j) (h4 : ∀ b, b < 10 → ra' 14 b = nI (T b)) (h5 : ∀ t, t < 6 → ra' 15 t = nI (K t)) : RelC (vy v T K) rs' ra' := by
  obtain ⟨r0, r1, r2, r3, r4, r5, r6, r7⟩ := hC
  refine ⟨fun j hj => ?_, ?_⟩
  · by_cases c : j = 15
    · rw [c, h2]; rfl
    · rw [h1 j c, r0 j hj, vy_f c (by omega) (by omega)]
  · rw [h3 0 (by decide) (by decide), h3 1 (by decide) (by decide), h3 2 (by decide) (by decide), h3 3 (by decide) (by decide), h3 4 (by decide) (by decide), h3 5 (by decide) (by decide), h3 6 (by decide) (by decide), h3 7 (by decide) (by decide), h3 8 (by decide) (by decide), h3 9 (by decide) (by decide), h3 10 (by decide) (by decide), h3 11 (by decide) (by decide), h3 12 (by decide) (by decide), h3 13 (by decide) (by decide)]
    exact ⟨r1, r2, r3, r4, r5, fun _ => ⟨h4, h5⟩, r7⟩
section YR
variable {us : A1} {ua : A2} {rs : A1} {ra ra2 sa : A2} {sl : L2} {ns : A1} {na : A2} {nl : L2} {yt : Int32} {im : Img} {ms : A1} {ma : A2} {ml : L2}
theorem Inv.year (hI : Inv us ua rs ra ra2 sa sl ns na nl yt im ms ma ml) {v : Rl} (hv : okR v) {T K : Nat → Nat} {rs' : A1} {ra' : A2} (hC : RelC (vy v T K) rs' ra') (hN : RelN v 0 ma) (hT : RelT v 0 ma) (hP : RelP v 0 ma) {r : Nat → Int32} (r0 : r 0 = 1) (r1 : ∀ b, b < 10 → r (1 + b) = nI (T b)) (r2 : ∀ t, t < 6 → r (11 + t) = nI (K t)) (r3 : ∀ x, 17 ≤ x → r x = ma 16 x) {ns' : A1} {na' : A2} {nl' : L2} (hK : NOK ns' na' nl') : Inv us ua rs' ra' ra2 sa sl ns' na' nl' yt im ms (va_up ma 16 r) ml := by
  obtain ⟨hTp, -, hB, -, hS, hIm, h10, hy⟩ := hI
  have e : ∀ j, j ≠ 16 → va_up ma 16 r j = ma j := fun j hj => up_ne hj
  refine ⟨?_, ⟨vy v T K, hv.y T K, hC, ?_, ?_, ?_, ?_⟩, hB, hK, ?_, ?_, h10, hy⟩
  · unfold TapeR at hTp ⊢
    rw [e 2 (by decide)]
    exact hTp
  · exact RelN.fr (v := vy v T K) (ma := ma) hN (fun i _ _ => e i (by omega))
  · exact RelT.eq (v := vy v T K) (ma := ma) hT (e 12 (by decide)) (e 13 (by decide))
  · exact RelP.eq (v := vy v T K) (ma := ma) hP (e 6 (by decide)) (e 7 (by decide))
  · unfold RelY
    rw [up_at]
    exact ⟨r0, fun _ => ⟨fun b hb => by rw [show 17 * 0 + 1 + b = 1 + b by omega]; exact r1 b hb, fun t ht => by rw [show 17 * 0 + 11 + t = 11 + t by omega]; exact r2 t ht⟩⟩
  · intro k hk
    rw [e 0 (by decide), e 1 (by decide)]
    exact hS k hk
  · intro k hk
    have hh := hIm k hk
    cases hm : im k with
    | none =>
      rw [hm] at hh
      simp only at hh ⊢
      rw [e 17 (by decide)]
      exact hh
    | some q =>
      rw [hm] at hh
      simp only at hh ⊢
      rw [e 17 (by decide)]
      obtain ⟨g0, w, g1, g2, g3, g4, g5, g6⟩ := hh
      refine ⟨g0, w, g1, g2, g3.fr (fun i _ _ => e i (by omega)), g4.eq (e 12 (by decide)) (e 13 (by decide)), g5.eq (e 6 (by decide)) (e 7 (by decide)), ?_⟩
      unfold RelY at g6 ⊢
      rw [up_at, r3 _ (by omega)]
      exact ⟨g6.1, fun h => ⟨fun b hb => by rw [r3 _ (by omega)]; exact (g6.2 h).1 b hb, fun t ht => by rw [r3 _ (by omega)]; exact (g6.2 h).2 t ht⟩⟩
/-! the class -/
theorem c_yearBegin {x : Int32} {et eo : Nat → Int32} {post : Int32 → (Nat → Int32) → (Nat → Int32) → Prop} (h : ∀ tak too, (∀ b, b < 10 → tak b = 0) → (∀ t, t < 6 → too t = 0) → post 1 tak too) : P_X10_begin x et eo post := by
  have L2 : ∀ (tak : Nat → Int32), (∀ b, b < 10 → tak b = 0) → ∀ (k i : Nat) (too : Nat → Int32), i + k = 6 → (∀ t, t < i → too t = 0) → P_X10_begin_28 post 1 tak (k + 1) (nI i) too := by
    intro tak ht k
    induction k with
    | zero =>
      intro i too hi q
      obtain rfl : i = 6 := by omega
      exact ⟨fun _ => h tak too ht q, fun c => absurd (nI_le (a := 6) (b := 6) (by decide) (by decide)) c⟩
    | succ k ih =>
      intro i too hi q
      refine ⟨fun c => absurd ((nI_leI (a := 6) (by decide) (by omega)).mp c) (by omega), fun _ => ⟨vp_in_nI (by omega) (by decide), ?_⟩⟩
      rw [nI_1, nI_clamp (by omega)]
      refine ih (i + 1) _ (by omega) (fun t ht => ?_)
      by_cases c : t = i
      · rw [c, u_at]
      · rw [u_ne c]; exact q t (by omega)
  have L1 : ∀ (k i : Nat) (tak : Nat → Int32), i + k = 10 → (∀ b, b < i → tak b = 0) → P_X10_begin_7 post (fun (a_isThere : Int32) (a_taken : Nat → Int32) (x1_ : Int32) (a_took : Nat → Int32) => (∃ n : Nat, P_X10_begin_28 post a_isThere a_taken n x1_ a_took)) 1 eo (k + 1) (nI i) tak := by
    intro k
    induction k with
    | zero =>
      intro i tak hi q
      obtain rfl : i = 10 := by omega
      exact ⟨fun _ => ⟨7, L2 tak q 6 0 eo (by omega) (fun t ht => by omega)⟩, fun c => absurd (nI_le (a := 10) (b := 10) (by decide) (by decide)) c⟩
    | succ k ih =>
      intro i tak hi q
      refine ⟨fun c => absurd ((nI_leI (a := 10) (by decide) (by omega)).mp c) (by omega), fun _ => ⟨vp_in_nI (by omega) (by decide), ?_⟩⟩
      rw [nI_1, nI_clamp (by omega)]
      refine ih (i + 1) _ (by omega) (fun t ht => ?_)
      by_cases c : t = i
      · rw [c, u_at]
      · rw [u_ne c]; exact q t (by omega)
  exact ⟨11, L1 10 0 et (by omega) (fun b hb => by omega)⟩
theorem c_letAll {v : Rl} (hv : okR v) (hN : NR v 0 ns na) {c : Nat} (hc : c < 2 ^ 31) {T K : Nat → Nat} {et eo : Nat → Int32} (h1 : ∀ b, b < 10 → et b = nI (T b)) (h2 : ∀ t, t < 6 → eo t = nI (K t)) {post : Int32 → (Nat → Int32) → (Nat → Int32) → Prop} (h : ∀ tak too, (∀ b, b < 10 → tak b = nI ((nsn v (fun t => c.testBit t) (0, T, K) (v 14 0)).2.1 b)) → (∀ t, t < 6 → too t = nI ((nsn v (fun t => c.testBit t) (0, T, K) (v 14 0)).2.2 t)) → post (nI (popc (nsn v (fun t => c.testBit t) (0, T, K) (v 14 0)).1)) tak too) : P_X3_letAllCome ns na et eo (nI c) (nI (v 14 0)) post := by
  have h13 := ok13 hv.1
  have h14 := ok14 hv.1
  have e0 : ns 0 = nI (v 13 0) := hN.1
  have L : ∀ (k i : Nat) (tak too : Nat → Int32), i + k = v 14 0 → (∀ b, b < 10 → tak b = nI ((nsn v (fun t => c.testBit t) (0, T, K) i).2.1 b)) → (∀ t, t < 6 → too t = nI ((nsn v (fun t => c.testBit t) (0, T, K) i).2.2 t)) → P_X3_letAllCome_6 ns na (nI c) (nI (v 14 0)) post (fun (x4_ : Int32) (e_taken : Nat → Int32) (e_took : Nat → Int32) => P_X3_letAllCome_88 ns na (nI c) (nI (v 14 0)) post x4_ e_taken e_took) (k + 1) (nI (nsn v (fun t => c.testBit t) (0, T, K) i).1) (nI i) tak too := by
    intro k
    induction k with
    | zero =>
      intro i tak too hi q1 q2
      obtain rfl : i = v 14 0 := by omega
      have := nsn_lt h13 (fun t => c.testBit t) (S := (0, T, K)) (show (0 : Nat) < 1024 by decide) (v 14 0)
      exact ⟨fun _ => c_bitCount (by omega) (h tak too q1 q2), fun z => absurd (nI_le (Nat.le_refl _) (by omega)) z⟩
    | succ k ih =>
      intro i tak too hi q1 q2
      have hlt := nsn_lt h13 (fun t => c.testBit t) (S := (0, T, K)) (show (0 : Nat) < 1024 by decide) i
      refine ⟨fun z => absurd ((nI_leI (by omega) (by omega)).mp z) (by omega), fun _ => ?_⟩
      rw [bit_o hc (by omega)]
      have go := ih (i + 1)
      rw [nsn] at go
      unfold ns1 at go
      refine ⟨fun z => ?_, fun z => ?_⟩
      · rw [if_neg z] at go
        refine ⟨fun _ => ?_, fun w => absurd rfl w⟩
        rw [nI_1]
        exact go tak too (by omega) q1 q2
      · rw [if_pos z] at go
        refine c_pickN hN (by omega) h14 (by omega) ?_
        cases hk : tk v 0 i (nsn v (fun t => c.testBit t) (0, T, K) i).1 with
        | none =>
          rw [hk] at go
          refine ⟨fun _ => ?_, fun w => absurd rfl w⟩
          rw [nI_1]
          exact go tak too (by omega) q1 q2
        | some b =>
          rw [hk] at go
          have hb := tk0_lt hk
          rw [show oI (some b) = nI b from rfl]
          refine ⟨fun w => absurd w (nI_nm1 (by omega)), fun _ => ⟨fun w => absurd ((nI_eq (by omega) (by omega)).mp (w.trans e0)) (by omega), fun _ x hx => ⟨vp_in_nI (by omega) (by decide), vp_in_nI (by omega) (by decide), vp_in_nI (by omega) (by decide), vp_in_nI (by omega) (by decide), ?_⟩⟩⟩
          rw [sh1 (by omega), fa_or] at hx
          rw [hx, nI_1, nI_clamp (by omega), nI_clamp (by omega), q1 b (by omega), q2 i (by omega), nI_1, nI_1]
          refine go _ _ (by omega) (fun y hy => ?_) (fun y hy => ?_)
          · show upd tak b (nI ((nsn v (fun t => c.testBit t) (0, T, K) i).2.1 b + 1)) y = nI (upN (nsn v (fun t => c.testBit t) (0, T, K) i).2.1 b y)
            unfold upN
            by_cases w : y = b
            · rw [w, u_at, if_pos rfl]
            · rw [u_ne w, if_neg w]; exact q1 y hy
          · show upd too i (nI ((nsn v (fun t => c.testBit t) (0, T, K) i).2.2 i + 1)) y = nI (upN (nsn v (fun t => c.testBit t) (0, T, K) i).2.2 i y)
            unfold upN
            by_cases w : y = i
            · rw [w, u_at, if_pos rfl]
            · rw [u_ne w, if_neg w]; exact q2 y hy
  exact ⟨v 14 0 + 1, L (v 14 0) 0 et eo (by omega) h1 h2⟩
end YR
