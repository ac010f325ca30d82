/-! sums over states: what a step keeps -/
theorem sumL_ext {f : Nat → Int64} {n : Nat} : ∀ {m : Nat}, n ≤ m → (∀ k, n ≤ k → k < m → f k = 0) → sumL f m = sumL f n
  | 0, h, _ => by rw [show n = 0 by omega]
  | m + 1, h, hz => by
    by_cases e : n = m + 1
    · rw [e]
    · rw [sumL, sumL_ext (m := m) (by omega) (fun k h1 h2 => hz k h1 (by omega)), hz m (by omega) (by omega)]
      simp
theorem sumL_swap (f : Nat → Nat → Int64) (n : Nat) : ∀ m : Nat, sumL (fun x => sumL (fun q => f q x) n) m = sumL (fun q => sumL (fun x => f q x) m) n
  | 0 => by
    rw [sumL]
    exact (sumL_zero (fun k _ => rfl)).symm
  | m + 1 => by
    rw [sumL, sumL_swap f n m, ← sumL_add]
    rfl
theorem sumL_neg (f : Nat → Int64) : ∀ n : Nat, sumL (fun k => -(f k)) n = -(sumL f n)
  | 0 => by simp [sumL]
  | n + 1 => by rw [sumL, sumL, sumL_neg f n]; grind
theorem sumL_if (c : Prop) [Decidable c] (f : Nat → Int64) (n : Nat) : sumL (fun k => if c then f k else 0) n = if c then sumL f n else 0 := by
  split
  · rfl
  · exact sumL_zero (fun _ _ => rfl)
/-- a list of changes, weighed -/
def evw (w : Nat → Int64) : List (Nat × Int64) → Int64
  | [] => 0
  | a :: L => w a.1 * a.2 + evw w L
theorem evl_w (w : Nat → Int64) {n : Nat} : ∀ {L : List (Nat × Int64)}, (∀ a, a ∈ L → a.1 < n) → sumL (fun x => w x * evl L x) n = evw w L
  | [], _ => sumL_zero (fun k _ => by simp [evl])
  | a :: L, h => by
    have e : ∀ x, w x * evl (a :: L) x = w x * (if x = a.1 then a.2 else 0) + w x * evl L x := fun x => by rw [evl]; grind
    simp only [e]
    rw [sumL_add, evl_w w (L := L) (fun b hb => h b (List.mem_cons_of_mem _ hb)), sumL_one (i := a.1) (h a List.mem_cons_self) (fun k _ hne => by simp [hne])]
    simp [evw]
theorem chg_lt {v : Rl} (h13 : v 13 0 ≤ 10) {s ct t q : Nat} (ht : t < 6) (hq : q < 131072) {p : Int64} : ∀ a, a ∈ chg v s ct t q p → a.1 < 131072 := by
  intro a ha
  unfold chg at ha
  split at ha
  · simp at ha
  · rename_i b hb
    have hb2 := (who_some hb).2.1
    have h1 := or_lt17 (b := b) hq (by omega)
    have h2 := or_lt17 (b := 11 + t) h1 (by omega)
    split at ha
    · simp only [List.mem_cons, List.not_mem_nil, or_false] at ha
      rcases ha with rfl | rfl | rfl <;> assumption
    · simp only [List.mem_cons, List.not_mem_nil, or_false] at ha
      rcases ha with rfl | rfl <;> assumption
/-- the weighed sum of all states behind a step -/
theorem stp_w {v : Rl} (h13 : v 13 0 ≤ 10) {s ct t : Nat} (ht : t < 6) (D : Nat → Int64) (w : Nat → Int64) : sumL (fun x => w x * stp v s ct t D x) N17 = sumL (fun x => w x * D x) N17 + sumL (fun q => evw w (chg v s ct t q (D q))) N17 := by
  unfold stp
  have e : ∀ x, w x * (D x + sumL (fun q => evl (chg v s ct t q (D q)) x) N17) = w x * D x + sumL (fun q => w x * evl (chg v s ct t q (D q)) x) N17 := fun x => by rw [sumL_mul]; grind
  simp only [e]
  rw [sumL_add, sumL_swap (fun q x => w x * evl (chg v s ct t q (D q)) x)]
  exact congrArg (fun z => sumL (fun x => w x * D x) N17 + z) (sumL_cong (fun q hq => evl_w w (chg_lt h13 ht hq)))
def bitW (b : Nat) : Nat → Int64 := fun x => if x.testBit b then 1 else 0
theorem evw_bit {v : Rl} (h13 : v 13 0 ≤ 10) {s ct t q b : Nat} (hb : b < v 13 0) (p : Int64) : evw (bitW b) (chg v s ct t q p) = if who v s t q = some b then cmP v t p else 0 := by
  unfold chg
  cases hw : who v s t q with
  | none => simp [evw]
  | some b' =>
    obtain ⟨w1, w2, w3, w4⟩ := who_some hw
    rw [tb_mod (by omega)] at w4
    have e1 : ∀ c, b ≠ c → ∀ r, bitW b (r ||| 2 ^ c) = bitW b r := fun c hc r => by
      unfold bitW
      rw [tb_or, show decide (c = b) = false by simp; omega, Bool.or_false]
    simp only
    by_cases hbt : b' = v 13 0
    · rw [if_pos hbt, if_neg (by simp; omega)]
      simp only [evw]
      rw [e1 _ (by omega), e1 _ (by omega)]
      grind
    · rw [if_neg hbt]
      simp only [evw]
      by_cases e : b' = b
      · subst e
        have a1 : bitW b' q = 0 := by unfold bitW; rw [w4]; simp
        have a2 : bitW b' (q ||| 2 ^ b') = 1 := by unfold bitW; rw [tb_or]; simp
        rw [a1, a2, if_pos rfl]
        grind
      · rw [e1 _ (fun z => e z.symm), if_neg (by simp; omega)]
        grind
theorem stp_bit {v : Rl} (h13 : v 13 0 ≤ 10) {s ct t : Nat} (ht : t < 6) (D : Nat → Int64) {b : Nat} (hb : b < v 13 0) : sumL (fun x => bitW b x * stp v s ct t D x) N17 = sumL (fun x => bitW b x * D x) N17 + hst v s t D b := by
  rw [stp_w h13 ht]
  exact congrArg (fun z => sumL (fun x => bitW b x * D x) N17 + z) (sumL_cong (fun q _ => evw_bit h13 hb (D q)))
theorem nD_bit {v : Rl} (h13 : v 13 0 ≤ 10) (h14 : v 14 0 ≤ 6) {s ct : Nat} (D : Nat → Int64) {b : Nat} (hb : b < v 13 0) : ∀ t, t ≤ 6 → sumL (fun x => bitW b x * nD v s ct D t x) N17 = sumL (fun x => bitW b x * D x) N17 + sumL (fun t => hst v s t (nD v s ct D t) b) t
  | 0, _ => by rw [nD, show sumL (fun t => hst v s t (nD v s ct D t) b) 0 = 0 from rfl, Int64.add_zero]
  | t + 1, ht => by
    rw [nD, stp_bit h13 (by omega) _ hb, nD_bit h13 h14 D hb t (by omega), Int64.add_assoc]
    rfl
theorem D1_bit (b : Nat) : sumL (fun x => bitW b x * D1 x) N17 = 0 := sumL_zero (fun k _ => by
  unfold bitW D1
  by_cases e : k = 0
  · subst e; simp
  · simp [e])
theorem risk_eq {v : Rl} (h13 : v 13 0 ≤ 10) (h14 : v 14 0 ≤ 6) {b : Nat} (hb : b < v 13 0) : sumL (fun x => bitW b x * nD v 0 0 D1 (v 14 0) x) N17 = risk v b := by
  rw [nD_bit h13 h14 D1 hb _ h14, D1_bit]
  unfold risk
  rw [sumL_ext (n := v 14 0) (m := 6) h14 (fun k h1 _ => by unfold hadN; rw [if_neg (by omega)])]
  rw [Int64.zero_add]
  exact sumL_cong (fun t ht => by unfold hadN; rw [if_pos ⟨ht, hb⟩])
/-! without a bait no other state than the sets of bikes -/
theorem wnt_no_bait {v : Rl} {t : Nat} : wnt v 0 t (v 13 0) = false := by unfold wnt; simp
theorem who0_lt {v : Rl} {t q b : Nat} (h : who v 0 t q = some b) : b < v 13 0 := by
  obtain ⟨-, w2, w3, -⟩ := who_some h
  rcases Nat.lt_or_ge b (v 13 0) with c | c
  · exact c
  · obtain rfl : b = v 13 0 := by omega
    rw [wnt_no_bait] at w3
    exact absurd w3 (by simp)
theorem or_ltN {q b n : Nat} (hq : q < 2 ^ n) (hb : b < n) : q ||| 2 ^ b < 2 ^ n := Nat.or_lt_two_pow hq (Nat.pow_lt_pow_right (by decide) hb)
theorem evl_out {v : Rl} {t q x : Nat} {p : Int64} (hq : q < 2 ^ v 13 0) (hx : 2 ^ v 13 0 ≤ x) : evl (chg v 0 0 t q p) x = 0 := by
  unfold chg
  split
  · rfl
  · rename_i b hb
    have hlt := who0_lt hb
    have := or_ltN hq hlt
    rw [if_neg (by omega)]
    simp only [evl]
    rw [if_neg (by omega), if_neg (by omega)]
    simp
theorem nD_out {v : Rl} (h13 : v 13 0 ≤ 10) {x : Nat} (hx : 2 ^ v 13 0 ≤ x) : ∀ t, nD v 0 0 D1 t x = 0
  | 0 => by
    have : 0 < 2 ^ v 13 0 := Nat.two_pow_pos _
    unfold nD D1
    rw [if_neg (by omega)]
  | t + 1 => by
    rw [nD]
    unfold stp
    rw [nD_out h13 hx t, sumL_zero (fun q _ => ?_)]
    · rfl
    · rcases Nat.lt_or_ge q (2 ^ v 13 0) with c | c
      · exact evl_out c hx
      · rw [nD_out h13 c t, chg_0]
theorem pow13 {v : Rl} (h13 : v 13 0 ≤ 10) : 2 ^ v 13 0 ≤ 1024 := Nat.pow_le_pow_right (by decide) h13 (n := 2)
theorem who_small {v : Rl} {s t q : Nat} (hq : q < 2048) : who v s t q = tk v s t q := by
  unfold who
  have : q.testBit (11 + t) = false := Nat.testBit_lt_two_pow (Nat.lt_of_lt_of_le hq (Nat.pow_le_pow_right (n := 2) (by decide) (by omega : 11 ≤ 11 + t)))
  rw [this, Nat.mod_eq_of_lt hq]
  simp
theorem chg_c0 {v : Rl} {s ct t q : Nat} {p : Int64} (h : cmP v t p = 0) (x : Nat) : evl (chg v s ct t q p) x = 0 := by
  unfold chg
  rw [h, ctP_0]
  split
  · rfl
  · split <;> simp [evl]
