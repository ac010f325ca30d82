/-! the class's Night: its orders, and whom a thief picks -/
theorem sh_c : ∀ n, n < 32 → ((nI n &&& 31).toBitVec.smod 32).toNat = n := by decide +kernel
theorem bit_and1 {n : Nat} (h : n < 2 ^ 31) : nI n &&& 1 = nI (n % 2) := by
  have := pk_andN (n := n) (by omega) (m := 1) 1 (by decide)
  simpa using this
theorem bit_z {g c : Nat} (hg : g < 2 ^ 31) (hc : c < 32) : ((nI g >>> (nI c &&& 31)) &&& 1) = 0 ↔ g.testBit c = false := by
  rw [pk_shrN hg _ c (sh_c c hc), bit_and1 (Nat.lt_of_le_of_lt (Nat.div_le_self _ _) hg), show (0 : Int32) = nI 0 from rfl, nI_eq (by omega) (by decide), Nat.testBit_eq_decide_div_mod_eq]
  simp
def oI (x : Option Nat) : Int32 := match x with
  | none => -1
  | some b => nI b
theorem pickL_t {a : Nat} {l : List Nat} {g : Nat} (h : g.testBit a = true) : pickL (a :: l) g = pickL l g := by simp [pickL, h]
theorem pickL_f {a : Nat} {l : List Nat} {g : Nat} (h : g.testBit a = false) : pickL (a :: l) g = some a := by simp [pickL, h]
/-- the order of thief t, as the arrays have it -/
def OL (na : Nat → Nat → Int32) (t : Nat) (l : List Nat) : Prop := na 3 t = nI l.length ∧ l.length ≤ 11 ∧ ∀ i, i < l.length → na 2 (11 * t + i) = nI (l.getD i 0) ∧ l.getD i 0 ≤ 10
theorem c_pick {na : Nat → Nat → Int32} {t g : Nat} {l : List Nat} (h : OL na t l) (ht : t < 6) (hg : g < 2 ^ 31) {post : Int32 → Prop} (hp : post (oI (pickL l g))) : P_X3_pick na (nI t) (nI g) post := by
  obtain ⟨h3, hlen, h2⟩ := h
  intro x hx
  rw [show (11 : Int32) = nI 11 from rfl, pk_mul] at hx
  subst hx
  have L : ∀ k i, i + k = l.length → pickL (l.drop i) g = pickL l g → P_X3_pick_8 na (nI t) (nI g) post (nI (t * 11)) (k + 1) (nI i) := by
    intro k
    induction k with
    | zero =>
      intro i hi he
      refine ⟨vp_in_nI (by omega) (by omega), ?_⟩
      rw [nI_clamp (by omega), h3]
      refine ⟨fun _ => ?_, fun c => absurd (nI_le (by omega) (by omega)) c⟩
      rw [show i = l.length by omega, List.drop_length] at he
      rw [← he] at hp
      exact hp
    | succ k ih =>
      intro i hi he
      refine ⟨vp_in_nI (by omega) (by omega), ?_⟩
      rw [nI_clamp (by omega), h3]
      refine ⟨fun c => absurd ((nI_leI (by omega) (by omega)).mp c) (by omega), fun _ => ?_⟩
      rw [nI_add]
      refine ⟨vp_in_nI (by omega) (by omega), ?_⟩
      rw [nI_clamp (by omega), show t * 11 + i = 11 * t + i by omega, (h2 i (by omega)).1]
      have h10 := (h2 i (by omega)).2
      intro y hy
      subst hy
      have hi2 : i < l.length := by omega
      have hd : l.drop i = l.getD i 0 :: l.drop (i + 1) := by
        rw [List.drop_eq_getElem_cons hi2]
        congr 1
        simp [hi2]
      rw [hd] at he
      refine ⟨fun c => ?_, fun c => ?_⟩
      · rw [bit_z hg (by omega)] at c
        rw [nI_1]
        refine ih (i + 1) (by omega) ?_
        rw [← he, pickL_t (by simpa using c)]
      · rw [bit_z hg (by omega)] at c
        have : pickL (l.getD i 0 :: l.drop (i + 1)) g = some (l.getD i 0) := pickL_f c
        rw [← he, this] at hp
        exact hp
  exact ⟨l.length + 1, L l.length 0 (by omega) (by simp)⟩
def zI (z : Int) : Int32 := Int32.ofInt z
theorem zI_le {a b : Int} (ha : -2147483648 ≤ a ∧ a < 2147483648) (hb : -2147483648 ≤ b ∧ b < 2147483648) : zI a ≤ zI b ↔ a ≤ b := by
  rw [Int32.le_iff_toInt_le]
  unfold zI
  rw [fb_ofI ha.1 ha.2, fb_ofI hb.1 hb.2]
theorem insr_at {r : Nat → Int} {c : Nat} : ∀ (l : List Nat) (k : Nat), k ≤ l.length → (∀ i, i < k → r (l.getD i 0) ≤ r c) → (∀ i, k ≤ i → i < l.length → r c < r (l.getD i 0)) → ∀ i, i ≤ l.length → (insr r c l).getD i 0 = if i < k then l.getD i 0 else if i = k then c else l.getD (i - 1) 0
  | [], k, h0, _, _, i, hi => by
    have e1 : i = 0 := by simpa using hi
    have e2 : k = 0 := by simpa using h0
    subst e1; subst e2
    simp [insr]
  | a :: l, 0, _, _, h2, i, hi => by
    have := h2 0 (Nat.le_refl 0) (by simp)
    simp only [List.getD_cons_zero] at this
    unfold insr
    rw [if_neg (by omega), if_neg (Nat.not_lt_zero i)]
    match i with
    | 0 => simp
    | j + 1 => simp
  | a :: l, k + 1, h0, h1, h2, i, hi => by
    have := h1 0 (by omega)
    simp only [List.getD_cons_zero] at this
    unfold insr
    rw [if_pos this]
    match i with
    | 0 => simp
    | j + 1 =>
      have ih := insr_at (r := r) (c := c) l k (by simpa using h0) (fun i hi => by simpa using h1 (i + 1) (by omega)) (fun i h3 h4 => by simpa using h2 (i + 1) (by omega) (by simpa using h4)) j (by simpa using hi)
      rw [List.getD_cons_succ, ih]
      by_cases c1 : j < k
      · rw [if_pos c1, if_pos (by omega), List.getD_cons_succ]
      · rw [if_neg c1, if_neg (show ¬ j + 1 < k + 1 by omega)]
        by_cases c2 : j = k
        · rw [if_pos c2, if_pos (show j + 1 = k + 1 by omega)]
        · rw [if_neg c2, if_neg (show ¬ j + 1 = k + 1 by omega)]
          obtain ⟨j', rfl⟩ : ∃ j', j = j' + 1 := ⟨j - 1, by omega⟩
          simp
theorem up_at {α : Type} {f : Nat → α} {k : Nat} {x : α} : va_up f k x k = x := by simp [va_up]
theorem up_ne {α : Type} {f : Nat → α} {k j : Nat} {x : α} (h : j ≠ k) : va_up f k x j = f j := by simp [va_up, h]
theorem u_at {f : Nat → Int32} {k : Nat} {x : Int32} : upd f k x k = x := by simp [upd]
theorem u_ne {f : Nat → Int32} {k j : Nat} {x : Int32} (h : j ≠ k) : upd f k x j = f j := by simp [upd, h]
theorem c_putInOrder {na : Nat → Nat → Int32} {t c : Nat} {l : List Nat} {r : Nat → Int} (hO : OL na t l) (ht : t < 6) (hlen : l.length < 11) (hc : c ≤ 10) (hrk : ∀ i, i < l.length → na 4 i = zI (r (l.getD i 0))) (hb : ∀ x, -2147483648 ≤ r x ∧ r x < 2147483648) (hs : srt r l) {post : (Nat → Nat → Int32) → Prop}
    (h : ∀ na' : Nat → Nat → Int32, OL na' t (insr r c l) → (∀ i, i < (insr r c l).length → na' 4 i = zI (r ((insr r c l).getD i 0))) → (∀ j, j ≠ 2 → j ≠ 3 → j ≠ 4 → na' j = na j) → (∀ t', t' ≠ t → na' 3 t' = na 3 t') → (∀ x, (x < 11 * t ∨ 11 * t + 11 ≤ x) → na' 2 x = na 2 x) → post na') : P_X3_putInOrder na (nI t) (nI c) (zI (r c)) post := by
  obtain ⟨h3, -, h2⟩ := hO
  have hord : ∀ i j, i ≤ j → j < l.length → r (l.getD i 0) ≤ r (l.getD j 0) := by
    intro i j hij hj
    rcases Nat.lt_or_ge i j with q | q
    · have hp := List.pairwise_iff_getElem.mp hs i j (by omega) hj q
      simpa [hj, show i < l.length by omega] using hp
    · rw [show i = j by omega]; exact Int.le_refl _
  intro x hx
  rw [show (11 : Int32) = nI 11 from rfl, pk_mul] at hx
  subst hx
  refine ⟨vp_in_nI (by omega) (by omega), ?_⟩
  rw [nI_clamp (by omega), h3]
  intro y hy
  subst hy
  refine ⟨fun _ => ?_, fun cc => absurd (by rw [show (11 : Int32) = nI 11 from rfl]; exact nI_lt hlen (by omega)) cc⟩
  -- the end: at place k
  have fin : ∀ (k : Nat) (nb : Nat → Nat → Int32), k ≤ l.length → (∀ i, i < k → nb 2 (11 * t + i) = na 2 (11 * t + i) ∧ nb 4 i = na 4 i) → (∀ i, k < i → i ≤ l.length → nb 2 (11 * t + i) = na 2 (11 * t + (i - 1)) ∧ nb 4 i = na 4 (i - 1)) → (∀ i, k ≤ i → i < l.length → r c < r (l.getD i 0)) → (∀ j, j ≠ 2 → j ≠ 4 → nb j = na j) → (∀ x, (x < 11 * t ∨ 11 * t + 11 ≤ x) → nb 2 x = na 2 x) → (k = 0 ∨ r (l.getD (k - 1) 0) ≤ r c) → P_X3_putInOrder_84 (nI t) (nI c) (zI (r c)) post (nI (t * 11)) (nI k) nb := by
    intro k nb hk i1 i2 i3 i4 i5 i6
    have hat := insr_at (r := r) (c := c) l k hk (fun i hi => by
      rcases i6 with q | q
      · omega
      · have := hord i (k - 1) (by omega) (by omega)
        omega) i3
    refine ⟨vp_in_nI (by omega) (by omega), ?_⟩
    rw [nI_add]
    refine ⟨vp_in_nI (by omega) (by omega), vp_in_nI (by omega) (by omega), vp_in_nI (by omega) (by omega), ?_⟩
    rw [nI_clamp (show t < 2 ^ 31 by omega), nI_clamp (show k < 2 ^ 31 by omega), nI_clamp (show t * 11 + k < 2 ^ 31 by omega), i4 3 (by decide) (by decide), h3, nI_1]
    have h10 : ∀ i, i ≤ l.length → (insr r c l).getD i 0 ≤ 10 := by
      intro i hi
      rw [hat i hi]
      split
      · exact (h2 i (by omega)).2
      · split
        · exact hc
        · exact (h2 (i - 1) (by omega)).2
    refine h _ ⟨?_, ?_, ?_⟩ ?_ ?_ ?_ ?_
    · rw [up_ne (by decide), up_at, u_at, insr_len]
    · rw [insr_len]; omega
    · intro i hi
      rw [insr_len] at hi
      refine ⟨?_, h10 i (by omega)⟩
      rw [up_ne (by decide), up_ne (by decide), up_at, hat i (by omega)]
      by_cases c1 : i < k
      · rw [if_pos c1, u_ne (by omega), (i1 i c1).1, (h2 i (by omega)).1]
      · rw [if_neg c1]
        by_cases c2 : i = k
        · rw [if_pos c2, c2, show 11 * t + k = t * 11 + k by omega, u_at]
        · rw [if_neg c2, u_ne (by omega), (i2 i (by omega) (by omega)).1, (h2 (i - 1) (by omega)).1]
    · intro i hi
      rw [insr_len] at hi
      rw [up_at, hat i (by omega)]
      by_cases c1 : i < k
      · rw [if_pos c1, u_ne (by omega), (i1 i c1).2, hrk i (by omega)]
      · rw [if_neg c1]
        by_cases c2 : i = k
        · rw [if_pos c2, c2, u_at]
        · rw [if_neg c2, u_ne (by omega), (i2 i (by omega) (by omega)).2, hrk (i - 1) (by omega)]
    · intro j j2 j3 j4
      rw [up_ne j4, up_ne j3, up_ne j2, i4 j j2 j4]
    · intro t' ht'
      rw [up_ne (by decide), up_at, u_ne ht']
    · intro x hx
      rw [up_ne (by decide), up_ne (by decide), up_at, u_ne (by omega), i5 x hx]
  have L : ∀ (k : Nat) (nb : Nat → Nat → Int32), k ≤ l.length → (∀ i, i < k → nb 2 (11 * t + i) = na 2 (11 * t + i) ∧ nb 4 i = na 4 i) → (∀ i, k < i → i ≤ l.length → nb 2 (11 * t + i) = na 2 (11 * t + (i - 1)) ∧ nb 4 i = na 4 (i - 1)) → (∀ i, k ≤ i → i < l.length → r c < r (l.getD i 0)) → (∀ j, j ≠ 2 → j ≠ 4 → nb j = na j) → (∀ x, (x < 11 * t ∨ 11 * t + 11 ≤ x) → nb 2 x = na 2 x) →
      P_X3_putInOrder_22 (nI t) (nI c) (zI (r c)) post (fun x4_ x5_ na => P_X3_putInOrder_84 (nI t) (nI c) (zI (r c)) post x4_ x5_ na) (nI (t * 11)) (k + 1) (nI k) nb := by
    intro k
    induction k with
    | zero =>
      intro nb hk i1 i2 i3 i4 i5
      exact ⟨fun _ => fin 0 nb hk i1 i2 i3 i4 i5 (Or.inl rfl), fun q => absurd (by decide) q⟩
    | succ k ih =>
      intro nb hk i1 i2 i3 i4 i5
      refine ⟨fun q => absurd q (nI_nle (by omega) (by omega)), fun _ => ?_⟩
      rw [nI_pred]
      refine ⟨vp_in_nI (by omega) (by omega), ?_⟩
      rw [nI_clamp (by omega), (i1 k (by omega)).2, hrk k (by omega), zI_le (hb _) (hb _)]
      refine ⟨fun q => fin (k + 1) nb hk i1 i2 i3 i4 i5 (Or.inr (by simpa using q)), fun q => ⟨vp_in_nI (by omega) (by omega), vp_in_nI (by omega) (by omega), ?_⟩⟩
      rw [nI_add, show (1 : Int32) = nI 1 from rfl, pk_sub (by omega)]
      refine ⟨vp_in_nI (by omega) (by omega), vp_in_nI (by omega) (by omega), ?_⟩
      rw [show (-nI 1 : Int32) = -1 from rfl, pk_m1, nI_clamp (show k + 1 < 2 ^ 31 by omega), nI_clamp (show t * 11 + (k + 1) < 2 ^ 31 by omega), nI_clamp (show t * 11 + (k + 1) - 1 < 2 ^ 31 by omega)]
      refine ih _ (by omega) ?_ ?_ ?_ ?_ ?_
      · intro i hi
        rw [up_ne (by decide), up_at, up_at, u_ne (by omega), u_ne (by omega)]
        exact i1 i (by omega)
      · intro i h1 h4
        rw [up_ne (by decide), up_at, up_at]
        by_cases e : i = k + 1
        · subst e
          rw [show 11 * t + (k + 1) = t * 11 + (k + 1) by omega, u_at, u_at, show t * 11 + (k + 1) - 1 = 11 * t + k by omega, (i1 k (by omega)).1, show k + 1 - 1 = k by omega]
          exact ⟨rfl, (hrk k (by omega)).symm⟩
        · rw [u_ne (by omega), u_ne (by omega)]
          exact i2 i (by omega) h4
      · intro i h1 h4
        by_cases e : i = k
        · subst e
          omega
        · exact i3 i (by omega) h4
      · intro j j2 j4
        rw [up_ne j4, up_ne j2]
        exact i4 j j2 j4
      · intro x hx
        rw [up_ne (by decide), up_at, u_ne (by omega)]
        exact i5 x hx
  exact ⟨l.length + 1, L l.length na (Nat.le_refl _) (fun i hi => ⟨rfl, rfl⟩) (fun i h1 h4 => by omega) (fun i h1 h4 => by omega) (fun _ _ _ => rfl) (fun _ _ => rfl)⟩
