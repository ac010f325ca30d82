section
/-! plain facts on numbers and arrays, to paste: each family by itself; over the kit's rows on nI and upd -/
/-! ===== order of ints, in all its forms, and through longs ===== -/
theorem fa_lt (a b : Int32) : a < b ↔ a.toInt < b.toInt := Int32.lt_iff_toInt_lt
theorem fa_le (a b : Int32) : a ≤ b ↔ a.toInt ≤ b.toInt := Int32.le_iff_toInt_le
theorem fa_eq (a b : Int32) : a = b ↔ a.toInt = b.toInt := Int32.toInt_inj.symm
theorem fa_lt64 (a b : Int64) : a < b ↔ a.toInt < b.toInt := Int64.lt_iff_toInt_lt
theorem fa_le64 (a b : Int64) : a ≤ b ↔ a.toInt ≤ b.toInt := Int64.le_iff_toInt_le
theorem fa_eq64 (a b : Int64) : a = b ↔ a.toInt = b.toInt := Int64.toInt_inj.symm
/-- a comparison of two ints taken as longs -/
theorem fa_wide_lt (a b : Int32) : a.toInt64 < b.toInt64 ↔ a < b := by rw [fa_lt64, fa_lt, Int32.toInt_toInt64, Int32.toInt_toInt64]
theorem fa_wide_le (a b : Int32) : a.toInt64 ≤ b.toInt64 ↔ a ≤ b := by rw [fa_le64, fa_le, Int32.toInt_toInt64, Int32.toInt_toInt64]
theorem fa_wide_eq (a b : Int32) : a.toInt64 = b.toInt64 ↔ a = b := by rw [fa_eq64, fa_eq, Int32.toInt_toInt64, Int32.toInt_toInt64]
/-- one strict comparison gives all the others -/
theorem fa_of_lt {a b : Int32} (h : a < b) : a ≤ b ∧ ¬ b ≤ a ∧ ¬ b < a ∧ a ≠ b ∧ b ≠ a := by
  rw [fa_lt] at h
  refine ⟨?_, ?_, ?_, ?_, ?_⟩
  · rw [fa_le]; omega
  · rw [fa_le]; omega
  · rw [fa_lt]; omega
  · intro e; rw [fa_eq] at e; omega
  · intro e; rw [fa_eq] at e; omega
theorem fa_of_nlt {a b : Int32} (h : ¬ a < b) : b ≤ a := by
  rw [fa_lt] at h
  rw [fa_le]
  omega
theorem fa_of_nle {a b : Int32} (h : ¬ a ≤ b) : b < a := by
  rw [fa_le] at h
  rw [fa_lt]
  omega
theorem fa_le_ne {a b : Int32} (h : a ≤ b) (h2 : a ≠ b) : a < b := by
  rw [fa_le] at h
  rw [fa_lt]
  have h3 : a.toInt ≠ b.toInt := fun e => h2 ((fa_eq a b).mpr e)
  omega
theorem fa_three (a b : Int32) : a < b ∨ a = b ∨ b < a := by
  rw [fa_lt, fa_lt, fa_eq]
  omega
theorem fa_trans {a b c : Int32} (h : a < b) (h2 : b ≤ c) : a < c := by
  rw [fa_lt] at *
  rw [fa_le] at h2
  omega
/-! ===== small literals as numbers ===== -/
theorem fa_lit (n : Nat) : (OfNat.ofNat n : Int32) = nI n := rfl
theorem fa_litL (n : Nat) : (OfNat.ofNat n : Int64) = lN n := rfl
/-! ===== bits of a number: 'or', masks, one bit ===== -/
theorem fa_and (a b : Nat) : nI a &&& nI b = nI (a &&& b) := by
  apply Int32.toBitVec_inj.1
  show BitVec.ofNat 32 a &&& BitVec.ofNat 32 b = BitVec.ofNat 32 (a &&& b)
  apply BitVec.eq_of_getLsbD_eq
  intro i hi
  simp [hi]
theorem fa_or (a b : Nat) : nI a ||| nI b = nI (a ||| b) := by
  apply Int32.toBitVec_inj.1
  show BitVec.ofNat 32 a ||| BitVec.ofNat 32 b = BitVec.ofNat 32 (a ||| b)
  apply BitVec.eq_of_getLsbD_eq
  intro i hi
  simp [hi]
/-- a remainder by a power of two, as a mask -/
theorem fa_mask (n k : Nat) : nI n &&& nI (2 ^ k - 1) = nI (n % 2 ^ k) := by rw [fa_and, Nat.and_two_pow_sub_one_eq_mod]
/-- 'or' of a high part and a low one that don't meet is their sum -/
theorem fa_or_sum {a k : Nat} (b : Nat) (h : a < 2 ^ k) : nI (2 ^ k * b) ||| nI a = nI (2 ^ k * b + a) := by rw [fa_or, Nat.two_pow_add_eq_or_of_lt h]
/-- one bit, by 'and' with a power of two -/
theorem fa_bit {n j : Nat} (hj : j < 31) : nI n &&& nI (2 ^ j) = 0 ↔ n.testBit j = false := by
  have h2 : (2 : Nat) ^ j < 2 ^ 31 := Nat.pow_lt_pow_right (by decide) hj
  have hle : n &&& 2 ^ j ≤ 2 ^ j := Nat.and_le_right
  have e : n &&& 2 ^ j = 0 ↔ n.testBit j = false := by
    constructor
    · intro h
      have h1 : (n &&& 2 ^ j).testBit j = false := by rw [h]; simp
      rw [Nat.testBit_and] at h1
      first | simpa using h1 | simpa [Nat.testBit_two_pow_self] using h1 | simpa [Nat.testBit_two_pow] using h1
    · intro h
      apply Nat.eq_of_testBit_eq
      intro i
      rw [Nat.testBit_and]
      by_cases hi : j = i
      · subst hi; simp [h]
      · first | (simp [Nat.testBit_two_pow, hi]; done) | (simp [Nat.testBit_two_pow_of_ne hi]; done)
  rw [fa_and]
  constructor
  · intro h
    apply e.mp
    rcases Nat.eq_zero_or_pos (n &&& 2 ^ j) with z | z
    · exact z
    · exact absurd h (nI_ne0 z (Nat.lt_of_le_of_lt hle h2))
  · intro h
    rw [e.mpr h]; exact nI_0
/-- a remainder by a power of two of a number that isn't negative, as Java divides -/
theorem fa_rem {a k : Nat} (ha : a < 2 ^ 31) (hk : k < 31) : nI a - nI a / nI (2 ^ k) * nI (2 ^ k) = nI (a % 2 ^ k) := pk_rem ha (Nat.two_pow_pos k) (Nat.pow_lt_pow_right (by decide) hk)
/-! ===== cuts to a byte, a short ===== -/
theorem fa_byte_xor (x y : Int32) : (x ^^^ y).toInt8 = x.toInt8 ^^^ y.toInt8 := by
  apply Int8.toBitVec_inj.1
  apply BitVec.eq_of_getLsbD_eq
  intro i hi
  first | (simp [hi]; done) | (simp [hi, BitVec.getLsbD_setWidth, BitVec.getLsbD_signExtend]; done)
theorem fa_short_xor (x y : Int32) : (x ^^^ y).toInt16 = x.toInt16 ^^^ y.toInt16 := by
  apply Int16.toBitVec_inj.1
  apply BitVec.eq_of_getLsbD_eq
  intro i hi
  first | (simp [hi]; done) | (simp [hi, BitVec.getLsbD_setWidth, BitVec.getLsbD_signExtend]; done)
/-- the cut to a byte sees the low byte alone -/
theorem fa_byte_low (x : Int32) : (x &&& 255).toInt8 = x.toInt8 := by
  apply Int8.toBitVec_inj.1
  apply BitVec.eq_of_getLsbD_eq
  intro i hi
  have h2 : (255 : Int32).toBitVec.getLsbD i = true := by
    have : ∀ j : Fin 8, (255 : Int32).toBitVec.getLsbD j.val = true := by decide +kernel
    exact this ⟨i, hi⟩
  have h4 : (x &&& 255).toBitVec.getLsbD i = x.toBitVec.getLsbD i := by
    show (x.toBitVec &&& (255 : Int32).toBitVec).getLsbD i = _
    rw [BitVec.getLsbD_and, h2, Bool.and_true]
  have h3 : i < 32 := by omega
  first
    | (show (((x &&& 255).toBitVec).signExtend 8).getLsbD i = (x.toBitVec.signExtend 8).getLsbD i; rw [BitVec.getLsbD_signExtend, BitVec.getLsbD_signExtend, if_pos h3, if_pos h3, h4])
    | (show (((x &&& 255).toBitVec).setWidth 8).getLsbD i = (x.toBitVec.setWidth 8).getLsbD i; rw [BitVec.getLsbD_setWidth, BitVec.getLsbD_setWidth, h4])
    | (simp [hi, h3, h4]; done)
theorem fa_short_low (x : Int32) : (x &&& 65535).toInt16 = x.toInt16 := by
  apply Int16.toBitVec_inj.1
  apply BitVec.eq_of_getLsbD_eq
  intro i hi
  have h2 : (65535 : Int32).toBitVec.getLsbD i = true := by
    have : ∀ j : Fin 16, (65535 : Int32).toBitVec.getLsbD j.val = true := by decide +kernel
    exact this ⟨i, hi⟩
  have h4 : (x &&& 65535).toBitVec.getLsbD i = x.toBitVec.getLsbD i := by
    show (x.toBitVec &&& (65535 : Int32).toBitVec).getLsbD i = _
    rw [BitVec.getLsbD_and, h2, Bool.and_true]
  have h3 : i < 32 := by omega
  first
    | (show (((x &&& 65535).toBitVec).signExtend 16).getLsbD i = (x.toBitVec.signExtend 16).getLsbD i; rw [BitVec.getLsbD_signExtend, BitVec.getLsbD_signExtend, if_pos h3, if_pos h3, h4])
    | (show (((x &&& 65535).toBitVec).setWidth 16).getLsbD i = (x.toBitVec.setWidth 16).getLsbD i; rw [BitVec.getLsbD_setWidth, BitVec.getLsbD_setWidth, h4])
    | (simp [hi, h3, h4]; done)
/-- a small number is its own byte, its own short -/
theorem fa_byte_small {n : Nat} (h : n < 128) : (nI n).toInt8.toInt32 = nI n := by
  have : ∀ j : Fin 128, (nI j.val).toInt8.toInt32 = nI j.val := by decide +kernel
  exact this ⟨n, h⟩
/-! ===== absolute difference ===== -/
theorem fa_absdiff {a b : Nat} (ha : a < 2 ^ 31) (hb : b < 2 ^ 31) : (if nI a < nI b then nI b - nI a else nI a - nI b) = nI (if a < b then b - a else a - b) := by
  by_cases h : a < b
  · rw [if_pos (nI_lt h hb), if_pos h]
    exact pk_sub (Nat.le_of_lt h)
  · rw [if_neg (nI_nlt (Nat.le_of_not_lt h) ha), if_neg h]
    exact pk_sub (Nat.le_of_not_lt h)
/-! ===== an array behind i stores, a conditional store, a row copied ===== -/
/-- f where k < i, what stood there else -/
def fa_fill {α : Type} (f g : Nat → α) (i : Nat) : Nat → α := fun k => if k < i then f k else g k
theorem fa_fill_0 {α : Type} (f g : Nat → α) : fa_fill f g 0 = g := funext fun k => if_neg (Nat.not_lt_zero k)
theorem fa_fill_in {α : Type} {f g : Nat → α} {i k : Nat} (h : k < i) : fa_fill f g i k = f k := if_pos h
theorem fa_fill_out {α : Type} {f g : Nat → α} {i k : Nat} (h : i ≤ k) : fa_fill f g i k = g k := if_neg (Nat.not_lt.mpr h)
theorem fa_fill_succ (f g : Nat → Int32) (i : Nat) : upd (fa_fill f g i) i (f i) = fa_fill f g (i + 1) := by
  funext k
  by_cases e : k = i
  · subst e
    rw [pk_us]
    exact (if_pos (Nat.lt_succ_self k)).symm
  · rw [pk_un e]
    by_cases h : k < i
    · rw [fa_fill_in h, fa_fill_in (Nat.lt_succ_of_lt h)]
    · rw [fa_fill_out (Nat.le_of_not_lt h), fa_fill_out (by omega)]
/-- a store that changes nothing -/
theorem fa_upd_same {f : Nat → Int32} {i : Nat} {x : Int32} (h : f i = x) : upd f i x = f := by
  funext k
  by_cases e : k = i
  · subst e
    rw [pk_us, h]
  · rw [pk_un e]
/-- a store under a condition, told as one -/
theorem fa_upd_if (c : Prop) [Decidable c] (f : Nat → Int32) (i : Nat) (x : Int32) : (if c then upd f i x else f) = upd f i (if c then x else f i) := by
  by_cases h : c
  · rw [if_pos h, if_pos h]
  · rw [if_neg h, if_neg h, fa_upd_same rfl]
/-- two stores at one place, at two -/
theorem fa_upd_twice (f : Nat → Int32) (i : Nat) (x y : Int32) : upd (upd f i x) i y = upd f i y := by
  funext k
  by_cases e : k = i
  · subst e
    rw [pk_us, pk_us]
  · rw [pk_un e, pk_un e, pk_un e]
theorem fa_upd_swap (f : Nat → Int32) {i j : Nat} (h : i ≠ j) (x y : Int32) : upd (upd f i x) j y = upd (upd f j y) i x := by
  funext k
  by_cases e : k = i
  · subst e
    rw [pk_un h, pk_us, pk_us]
  · by_cases e2 : k = j
    · subst e2
      rw [pk_us, pk_un e, pk_us]
    · rw [pk_un e2, pk_un e, pk_un e, pk_un e2]
/-! ===== the first index with a property; a count ===== -/
/-- the first k < n with p k, n if there is none -/
def fa_first (p : Nat → Bool) : Nat → Nat
  | 0 => 0
  | n + 1 => if fa_first p n < n then fa_first p n else if p n then n else n + 1
theorem fa_first_le (p : Nat → Bool) : ∀ n, fa_first p n ≤ n
  | 0 => Nat.le_refl 0
  | n + 1 => by
    have ih := fa_first_le p n
    unfold fa_first
    split
    · omega
    · split
      · omega
      · omega
theorem fa_first_no (p : Nat → Bool) : ∀ n k, k < fa_first p n → p k = false
  | 0, k, h => absurd h (Nat.not_lt_zero k)
  | n + 1, k, h => by
    have ih := fa_first_no p n
    have hl := fa_first_le p n
    unfold fa_first at h
    split at h
    · exact ih k h
    · rename_i h1
      split at h
      · exact ih k (by omega)
      · rename_i h2
        by_cases e : k = n
        · subst e
          exact Bool.eq_false_iff.mpr h2
        · exact ih k (by omega)
theorem fa_first_yes (p : Nat → Bool) : ∀ n, fa_first p n < n → p (fa_first p n) = true
  | 0, h => absurd h (Nat.not_lt_zero _)
  | n + 1, h => by
    have ih := fa_first_yes p n
    have hl := fa_first_le p n
    unfold fa_first at h ⊢
    split at h
    · rename_i h1
      rw [if_pos h1]
      exact ih h1
    · rename_i h1
      rw [if_neg h1]
      split at h
      · rename_i h2
        rw [if_pos h2]
        exact h2
      · omega
/-- how many k < n have p k -/
def fa_cnt (p : Nat → Bool) : Nat → Nat
  | 0 => 0
  | n + 1 => fa_cnt p n + if p n then 1 else 0
theorem fa_cnt_le (p : Nat → Bool) : ∀ n, fa_cnt p n ≤ n
  | 0 => Nat.le_refl 0
  | n + 1 => by
    have ih := fa_cnt_le p n
    unfold fa_cnt
    split
    · omega
    · omega
theorem fa_cnt_yes {p : Nat → Bool} {n : Nat} (h : p n = true) : fa_cnt p (n + 1) = fa_cnt p n + 1 := by rw [fa_cnt, if_pos h]
theorem fa_cnt_no {p : Nat → Bool} {n : Nat} (h : p n = false) : fa_cnt p (n + 1) = fa_cnt p n := by rw [fa_cnt, if_neg (by rw [h]; decide)]; rfl
theorem fa_cnt_cong {p q : Nat → Bool} : ∀ {n : Nat}, (∀ k, k < n → p k = q k) → fa_cnt p n = fa_cnt q n
  | 0, _ => rfl
  | n + 1, h => by rw [fa_cnt, fa_cnt, fa_cnt_cong (fun k hk => h k (Nat.lt_succ_of_lt hk)), h n (Nat.lt_succ_self n)]
/-! ===== an answer carried into a post; a branch on a boolean answer ===== -/
theorem fa_post {α : Type} {P : α → Prop} {x y : α} (h : x = y) (hp : P y) : P x := h ▸ hp
theorem fa_post2 {α β : Type} {P : α → β → Prop} {x y : α} {u v : β} (h : x = y) (h2 : u = v) (hp : P y v) : P x u := h ▸ h2 ▸ hp
theorem fa_bool {r : Int32} {b : Bool} (h : r = if b then 1 else 0) : (r = 0 ↔ b = false) ∧ (¬ r = 0 ↔ b = true) := by
  subst h
  cases b
  · exact ⟨⟨fun _ => rfl, fun _ => rfl⟩, ⟨fun h => absurd rfl h, fun h => absurd h (by decide)⟩⟩
  · exact ⟨⟨fun h => absurd h (by decide), fun h => absurd h (by decide)⟩, ⟨fun _ => rfl, fun _ => by decide⟩⟩
/-- a boolean's narrowing changes nothing -/
theorem fa_bool_and {r : Int32} (h : r = 0 ∨ r = 1) : r &&& 1 = r := by
  rcases h with rfl | rfl
  · decide
  · decide
theorem fa_bool_prop {c : Prop} [Decidable c] {r : Int32} (h : r = if c then 1 else 0) : (r = 0 ↔ ¬ c) ∧ (¬ r = 0 ↔ c) := by
  subst h
  by_cases hc : c
  · rw [if_pos hc]
    exact ⟨⟨fun h => absurd h (by decide), fun h => absurd hc h⟩, ⟨fun _ => hc, fun _ => by decide⟩⟩
  · rw [if_neg hc]
    exact ⟨⟨fun _ => hc, fun _ => rfl⟩, ⟨fun h => absurd rfl h, fun h => absurd h hc⟩⟩
end
section
/-! ===== signed ints as whole numbers, within bounds ===== -/
theorem fb_rng (x : Int32) : -2147483648 ≤ x.toInt ∧ x.toInt < 2147483648 := by
  have h1 := Int32.le_toInt x
  have h2 := Int32.toInt_lt x
  omega
theorem fb_bmod {z : Int} (h1 : -2147483648 ≤ z) (h2 : z < 2147483648) : z.bmod (2 ^ 32) = z := by
  rw [Int.bmod_eq_of_le (by omega) (by omega)]
theorem fb_addI {x y : Int32} (h1 : -2147483648 ≤ x.toInt + y.toInt) (h2 : x.toInt + y.toInt < 2147483648) : (x + y).toInt = x.toInt + y.toInt := by
  rw [Int32.toInt_add, fb_bmod h1 h2]
theorem fb_subI {x y : Int32} (h1 : -2147483648 ≤ x.toInt - y.toInt) (h2 : x.toInt - y.toInt < 2147483648) : (x - y).toInt = x.toInt - y.toInt := by
  rw [Int32.toInt_sub, fb_bmod h1 h2]
theorem fb_mulI {x y : Int32} (h1 : -2147483648 ≤ x.toInt * y.toInt) (h2 : x.toInt * y.toInt < 2147483648) : (x * y).toInt = x.toInt * y.toInt := by
  rw [Int32.toInt_mul, fb_bmod h1 h2]
theorem fb_negI {x : Int32} (h : x.toInt ≠ -2147483648) : (-x).toInt = -x.toInt := by
  have := fb_rng x
  rw [Int32.toInt_neg, fb_bmod (by omega) (by omega)]
theorem fb_ofI {z : Int} (h1 : -2147483648 ≤ z) (h2 : z < 2147483648) : (Int32.ofInt z).toInt = z := by
  rw [Int32.toInt_ofInt, fb_bmod h1 h2]
theorem fb_asI (x : Int32) : Int32.ofInt x.toInt = x := Int32.ofInt_toInt x
theorem fb_rngL (x : Int64) : -9223372036854775808 ≤ x.toInt ∧ x.toInt < 9223372036854775808 := by
  have h1 := Int64.le_toInt x
  have h2 := Int64.toInt_lt x
  omega
theorem fb_bmodL {z : Int} (h1 : -9223372036854775808 ≤ z) (h2 : z < 9223372036854775808) : z.bmod (2 ^ 64) = z := by
  rw [Int.bmod_eq_of_le (by omega) (by omega)]
theorem fb_addL {x y : Int64} (h1 : -9223372036854775808 ≤ x.toInt + y.toInt) (h2 : x.toInt + y.toInt < 9223372036854775808) : (x + y).toInt = x.toInt + y.toInt := by
  rw [Int64.toInt_add, fb_bmodL h1 h2]
theorem fb_subL {x y : Int64} (h1 : -9223372036854775808 ≤ x.toInt - y.toInt) (h2 : x.toInt - y.toInt < 9223372036854775808) : (x - y).toInt = x.toInt - y.toInt := by
  rw [Int64.toInt_sub, fb_bmodL h1 h2]
theorem fb_mulL {x y : Int64} (h1 : -9223372036854775808 ≤ x.toInt * y.toInt) (h2 : x.toInt * y.toInt < 9223372036854775808) : (x * y).toInt = x.toInt * y.toInt := by
  rw [Int64.toInt_mul, fb_bmodL h1 h2]
/-! ===== cuts of what is narrow already ===== -/
theorem fb_byte {x : Int32} (h1 : -128 ≤ x.toInt) (h2 : x.toInt < 128) : x.toInt8.toInt32 = x := by
  apply Int32.toInt_inj.1
  rw [Int8.toInt_toInt32, Int32.toInt_toInt8, Int.bmod_eq_of_le (by omega) (by omega)]
theorem fb_short {x : Int32} (h1 : -32768 ≤ x.toInt) (h2 : x.toInt < 32768) : x.toInt16.toInt32 = x := by
  apply Int32.toInt_inj.1
  rw [Int16.toInt_toInt32, Int32.toInt_toInt16, Int.bmod_eq_of_le (by omega) (by omega)]
theorem fb_byte_rng (x : Int32) : -128 ≤ x.toInt8.toInt32.toInt ∧ x.toInt8.toInt32.toInt < 128 := by
  rw [Int8.toInt_toInt32]
  have h1 := Int8.le_toInt x.toInt8
  have h2 := Int8.toInt_lt x.toInt8
  omega
theorem fb_short_rng (x : Int32) : -32768 ≤ x.toInt16.toInt32.toInt ∧ x.toInt16.toInt32.toInt < 32768 := by
  rw [Int16.toInt_toInt32]
  have h1 := Int16.le_toInt x.toInt16
  have h2 := Int16.toInt_lt x.toInt16
  omega
theorem fb_byte_twice (x : Int32) : x.toInt8.toInt32.toInt8.toInt32 = x.toInt8.toInt32 := fb_byte (fb_byte_rng x).1 (fb_byte_rng x).2
theorem fb_short_twice (x : Int32) : x.toInt16.toInt32.toInt16.toInt32 = x.toInt16.toInt32 := fb_short (fb_short_rng x).1 (fb_short_rng x).2
theorem fb_char {n : Nat} (h : n < 65536) : (nI n).toUInt32.toUInt16.toUInt32.toInt32 = nI n := by
  apply Int32.toBitVec_inj.1
  apply BitVec.eq_of_toNat_eq
  have e1 : (nI n).toBitVec.toNat = n := by
    show (BitVec.ofNat 32 n).toNat = n
    rw [BitVec.toNat_ofNat, Nat.mod_eq_of_lt (by omega)]
  have e2 : ((nI n).toUInt32.toUInt16.toUInt32).toNat = n := by
    rw [UInt16.toNat_toUInt32, UInt32.toNat_toUInt16]
    show (nI n).toBitVec.toNat % 2 ^ 16 = n
    rw [e1, Nat.mod_eq_of_lt (by omega)]
  rw [e1]
  exact e2
end
section
/-! THE MATHEMATICAL VALUE. A rail is a table of numbers: v field index. Fields: 0 places 1 nights 2 lines 3 markTold 4 markPrice 5 known 6 hidden 7 watchTold 8 wage 9 adds 10 watched 11 lamps 12 locks 13 bikes 14 thieves 15 yearThere; 16 lamp's place 17 its brightness 18 lock's price 19 cuts (3 lock + tool) 20 worth 21 seems 22 place 23 lock and 1 24 marked 25 tool 26 comes 27 fears 28 kind 29 just and 1 30 taken 31 took. -/
abbrev Rl : Type := Nat → Nat → Nat
def sumN (f : Nat → Nat) : Nat → Nat
  | 0 => 0
  | k + 1 => sumN f k + f k
theorem sumN_cong {f g : Nat → Nat} : ∀ {n : Nat}, (∀ k, k < n → f k = g k) → sumN f n = sumN g n
  | 0, _ => rfl
  | n + 1, h => by rw [sumN, sumN, sumN_cong (fun k hk => h k (Nat.lt_succ_of_lt hk)), h n (Nat.lt_succ_self n)]
theorem sumN_le {f : Nat → Nat} {c : Nat} : ∀ {n : Nat}, (∀ k, k < n → f k ≤ c) → sumN f n ≤ n * c
  | 0, _ => by simp [sumN]
  | n + 1, h => by
    have h1 := sumN_le (n := n) (fun k hk => h k (Nat.lt_succ_of_lt hk))
    have h2 := h n (Nat.lt_succ_self n)
    rw [sumN, Nat.succ_mul]
    omega
def dist (a b : Nat) : Nat := (a - b) + (b - a)
def light (v : Rl) (p : Nat) : Nat := (if v 10 0 = 1 then v 9 0 else 0) + sumN (fun k => v 17 k - dist p (v 16 k)) (v 11 0)
def trouble (v : Rl) (t b : Nat) : Nat := if v 23 b = 0 then 0 else v 19 (3 * (v 23 b - 1) + v 25 t) * v 27 t * (1 + light v (v 22 b)) / 100
def nMarked (v : Rl) : Nat := sumN (fun b => v 24 b) (v 13 0)
def gain (v : Rl) (b : Nat) : Nat := if v 6 0 = 1 then v 21 b * (100 * v 13 0 - v 5 0 * nMarked v) / (100 * v 13 0) else if v 24 b = 1 then v 21 b * (100 - v 5 0) / 100 else v 21 b
/-- what a rail keeps to -/
def okV (v : Rl) : Prop :=
  (v 0 0 ≤ 20 ∧ v 1 0 ≤ 60 ∧ v 2 0 ≤ 1600 ∧ v 3 0 ≤ 1 ∧ v 4 0 ≤ 999 ∧ v 5 0 ≤ 100 ∧ v 6 0 ≤ 1 ∧ v 7 0 ≤ 1 ∧ v 8 0 ≤ 999 ∧ v 9 0 ≤ 99 ∧ v 10 0 ≤ 1 ∧ v 11 0 ≤ 5 ∧ v 12 0 ≤ 5 ∧ v 13 0 ≤ 10 ∧ v 14 0 ≤ 6 ∧ v 15 0 ≤ 1 ∧ (v 2 0 = 0 ↔ v 0 0 = 0)) ∧
  (∀ k, k < v 11 0 → v 16 k < 20 ∧ v 17 k ≤ 99) ∧ (∀ k, k < v 12 0 → v 18 k ≤ 999) ∧ (∀ k, k < 3 * v 12 0 → v 19 k ≤ 999) ∧
  (∀ b, b < v 13 0 → v 20 b ≤ 9999 ∧ v 21 b ≤ 9999 ∧ v 22 b < 20 ∧ v 23 b ≤ v 12 0 ∧ v 24 b ≤ 1) ∧
  (∀ t, t < v 14 0 → v 25 t ≤ 2 ∧ v 26 t ≤ 100 ∧ v 27 t ≤ 99 ∧ v 28 t ≤ 2 ∧ v 29 t ≤ 10) ∧ True
/-- the class's rail holds v -/
def RelC (v : Rl) (rs : Nat → Int32) (ra : Nat → Nat → Int32) : Prop :=
  (∀ j, j < 16 → rs j = nI (v j 0)) ∧ (∀ k, k < v 11 0 → ra 0 k = nI (v 16 k) ∧ ra 1 k = nI (v 17 k)) ∧ (∀ k, k < v 12 0 → ra 2 k = nI (v 18 k)) ∧ (∀ k, k < 3 * v 12 0 → ra 3 k = nI (v 19 k)) ∧
  (∀ b, b < v 13 0 → ra 4 b = nI (v 20 b) ∧ ra 5 b = nI (v 21 b) ∧ ra 6 b = nI (v 22 b) ∧ ra 7 b = nI (v 23 b) - 1 ∧ ra 8 b = nI (v 24 b)) ∧
  (∀ t, t < v 14 0 → ra 9 t = nI (v 25 t) ∧ ra 10 t = nI (v 26 t) ∧ ra 11 t = nI (v 27 t) ∧ ra 12 t = nI (v 28 t) ∧ ra 13 t = nI (v 29 t) - 1) ∧
  (v 15 0 = 1 → (∀ b, b < 10 → ra 14 b = nI (v 30 b)) ∧ (∀ t, t < 6 → ra 15 t = nI (v 31 t))) ∧ (∀ b, b < 10 → ra 8 b = 0 ∨ ra 8 b = 1)
theorem dist_lt {a b : Nat} (ha : a < 20) (hb : b < 20) : dist a b < 20 := by unfold dist; omega
theorem light_le {v : Rl} (hv : okV v) (p : Nat) : light v p ≤ 594 := by
  have h1 : sumN (fun k => v 17 k - dist p (v 16 k)) (v 11 0) ≤ v 11 0 * 99 := sumN_le (fun k hk => by have := (hv.2.1 k hk).2; omega)
  have h2 : v 11 0 ≤ 5 := hv.1.2.2.2.2.2.2.2.2.2.2.2.1
  have h3 : v 9 0 ≤ 99 := hv.1.2.2.2.2.2.2.2.2.2.1
  have h4 : v 11 0 * 99 ≤ 5 * 99 := Nat.mul_le_mul_right _ h2
  unfold light
  split <;> omega
/-! small rows on Int32 -/
theorem nS {a b : Nat} (ha : a < 2 ^ 30) (hb : b < 2 ^ 30) : (nI a - nI b).toInt = (a : Int) - b := pk_sub_toInt ha hb
theorem nS_pos {a b : Nat} (ha : a < 2 ^ 30) (hb : b < 2 ^ 30) : (0 : Int32) < nI a - nI b ↔ b < a := by
  rw [Int32.lt_iff_toInt_lt, nS ha hb, show (0 : Int32).toInt = 0 from rfl]
  omega
theorem nS_nonneg {a b : Nat} (ha : a < 2 ^ 30) (hb : b < 2 ^ 30) : (0 : Int32) ≤ nI a - nI b ↔ b ≤ a := by
  rw [Int32.le_iff_toInt_le, nS ha hb, show (0 : Int32).toInt = 0 from rfl]
  omega
theorem nS_neg (x y : Int32) : 0 - (x - y) = y - x := by grind
theorem n_abs {p q : Nat} (hp : p < 2 ^ 30) (hq : q < 2 ^ 30) : (if (0 : Int32) ≤ nI p - nI q then nI p - nI q else 0 - (nI p - nI q)) = nI (dist p q) := by
  split
  · rename_i h
    rw [nS_nonneg hp hq] at h
    rw [pk_sub h]
    congr 1
    unfold dist
    omega
  · rename_i h
    rw [nS_nonneg hp hq] at h
    rw [nS_neg, pk_sub (by omega)]
    congr 1
    unfold dist
    omega
theorem n_max0 {a b : Nat} (ha : a < 2 ^ 30) (hb : b < 2 ^ 30) : (if (0 : Int32) < nI a - nI b then nI a - nI b else 0) = nI (a - b) := by
  split
  · rename_i h
    rw [nS_pos ha hb] at h
    rw [pk_sub (by omega)]
  · rename_i h
    rw [nS_pos ha hb] at h
    rw [show a - b = 0 by omega]
    rfl
end
section
/-! the class's rail: what its small methods answer -/
theorem rc_s {v : Rl} {rs : Nat → Int32} {ra : Nat → Nat → Int32} (h : RelC v rs ra) (j : Nat) (hj : j < 16 := by decide) : rs j = nI (v j 0) := h.1 j hj
theorem c_markedOnes {n : Nat} {am : Nat → Int32} {g : Nat → Nat} {post : Int32 → Prop} (hn : n ≤ 10) (hm : ∀ b, b < n → am b = nI (g b) ∧ g b ≤ 1) (h : post (nI (sumN g n))) : P_X0_markedOnes (nI n) am post := by
  have L : ∀ k i, i + k = n → P_X0_markedOnes_4 (nI n) am post (k + 1) (nI (sumN g i)) (nI i) := by
    intro k
    induction k with
    | zero =>
      intro i hi
      obtain rfl : i = n := by omega
      exact ⟨fun _ => h, fun c => absurd (nI_le (Nat.le_refl i) (by omega)) c⟩
    | succ k ih =>
      intro i hi
      refine ⟨fun c => absurd ((nI_leI (by omega) (by omega)).mp c) (by omega), fun _ => ⟨vp_in_nI (by omega) (by omega), ?_⟩⟩
      rw [nI_clamp (by omega)]
      obtain ⟨e, g1⟩ := hm i (by omega)
      rw [nI_1]
      have ihh := ih (i + 1) (by omega)
      refine ⟨fun c => ?_, fun c => ?_⟩
      · have g0 : g i = 0 := by
          rw [e] at c
          exact (nI_eq (b := 0) (by omega) (by decide)).mp c
        rw [sumN, g0] at ihh
        exact ihh
      · have g0 : g i = 1 := by
          have : g i ≠ 0 := fun q => c (by rw [e, q]; rfl)
          omega
        rw [sumN, g0] at ihh
        rw [nI_1]
        exact ihh
  exact ⟨n + 1, L n 0 (by omega)⟩
theorem c_lightOf {v : Rl} {rs : Nat → Int32} {ra : Nat → Nat → Int32} (hR : RelC v rs ra) (hv : okV v) {p : Nat} (hp : p < 20) {post : Int32 → Prop} (h : post (nI (light v p))) : P_X4_lightOf rs ra (nI p) post := by
  have h11 : v 11 0 ≤ 5 := hv.1.2.2.2.2.2.2.2.2.2.2.2.1
  have L : ∀ (base : Nat), base + sumN (fun k => v 17 k - dist p (v 16 k)) (v 11 0) = light v p → ∀ k i, i + k = v 11 0 → P_X4_lightOf_18 rs ra (nI p) post (k + 1) (nI (base + sumN (fun k => v 17 k - dist p (v 16 k)) i)) (nI i) := by
    intro base hbase k
    induction k with
    | zero =>
      intro i hi
      obtain rfl : i = v 11 0 := by omega
      refine ⟨fun _ => by rw [hbase]; exact h, fun c => absurd ?_ c⟩
      rw [rc_s hR 11]
      exact nI_le (Nat.le_refl _) (by omega)
    | succ k ih =>
      intro i hi
      refine ⟨fun c => absurd ?_ (show ¬ v 11 0 ≤ i by omega), fun _ => ⟨vp_in_nI (by omega) (by omega), vp_in_nI (by omega) (by omega), ?_⟩⟩
      · rw [rc_s hR 11] at c
        exact (nI_leI (by omega) (by omega)).mp c
      rw [nI_clamp (by omega)]
      obtain ⟨e0, e1⟩ := hR.2.1 i (by omega)
      obtain ⟨b0, b1⟩ := hv.2.1 i (by omega)
      have hd := dist_lt hp b0
      intro x hx
      rw [e0, e1, n_abs (by omega) (by omega), n_max0 (by omega) (by omega), nI_add] at hx
      rw [hx, nI_1]
      have := ih (i + 1) (by omega)
      rw [sumN, ← Nat.add_assoc] at this
      exact this
  refine ⟨fun c => ⟨v 11 0 + 1, ?_⟩, fun c x hx => ⟨v 11 0 + 1, ?_⟩⟩
  · have h10 : v 10 0 = 0 := by
      rw [rc_s hR 10] at c
      have := hv.1.2.2.2.2.2.2.2.2.2.2.1
      exact (nI_eq (b := 0) (by omega) (by decide)).mp c
    exact L 0 (by unfold light; simp [h10]) _ 0 (by omega)
  · have h10 : v 10 0 = 1 := by
      have := hv.1.2.2.2.2.2.2.2.2.2.2.1
      have : v 10 0 ≠ 0 := fun q => c (by rw [rc_s hR 10, q]; rfl)
      omega
    rw [hx, rc_s hR 9]
    exact L (v 9 0) (by unfold light; simp [h10]) _ 0 (by omega)
theorem nI_m1 {a : Nat} (ha : a < 2 ^ 30) : nI a - 1 = -1 ↔ a = 0 := by
  rw [show nI a - 1 = nI a - nI 1 from rfl, ← Int32.toInt_inj, nS ha (by decide), show (-1 : Int32).toInt = -1 from rfl]
  omega
theorem nI_pre {a : Nat} (h : 0 < a) : nI a - 1 = nI (a - 1) := by
  rw [show (1 : Int32) = nI 1 from rfl, pk_sub (by omega)]
theorem c_troubleOf {v : Rl} {rs : Nat → Int32} {ra : Nat → Nat → Int32} (hR : RelC v rs ra) (hv : okV v) {t b : Nat} (ht : t < v 14 0) (hb : b < v 13 0) {li : Nat} (hli : li = light v (v 22 b)) {post : Int32 → Prop} (h : post (nI (trouble v t b))) : P_X4_troubleOf ra (nI t) (nI b) (nI li) post := by
  have h13 : v 13 0 ≤ 10 := hv.1.2.2.2.2.2.2.2.2.2.2.2.2.2.1
  have h14 : v 14 0 ≤ 6 := hv.1.2.2.2.2.2.2.2.2.2.2.2.2.2.2.1
  have h12 : v 12 0 ≤ 5 := hv.1.2.2.2.2.2.2.2.2.2.2.2.2.1
  obtain ⟨-, -, -, e7, -⟩ := hR.2.2.2.2.1 b hb
  obtain ⟨e9, -, e11, -, -⟩ := hR.2.2.2.2.2.1 t ht
  obtain ⟨-, -, -, b23, -⟩ := hv.2.2.2.2.1 b hb
  obtain ⟨b25, -, b27, -, -⟩ := hv.2.2.2.2.2.1 t ht
  have hl := light_le hv (v 22 b)
  have fin : ∀ sec : Nat, sec ≤ 999 → sec * v 27 t * (1 + light v (v 22 b)) / 100 = trouble v t b → P_X4_troubleOf_43 ra (nI t) (nI b) (nI li) post (nI sec) := by
    intro sec hs he
    refine ⟨vp_in_nI (by omega) (by omega), ?_⟩
    rw [nI_clamp (by omega), e11, hli, show (1 : Int32) = nI 1 from rfl, show (100 : Int32) = nI 100 from rfl, nI_add, pk_mul, pk_mul, pk_div ?_ (by decide) (by decide), he]
    · exact h
    · have a1 : sec * v 27 t ≤ 999 * 99 := Nat.mul_le_mul hs b27
      have a2 : sec * v 27 t * (1 + light v (v 22 b)) ≤ 999 * 99 * 595 := Nat.mul_le_mul a1 (by omega)
      omega
  refine ⟨vp_in_nI (by omega) (by omega), ?_⟩
  intro x hx
  rw [nI_clamp (by omega), e7] at hx
  subst hx
  refine ⟨fun c => ?_, fun c => ?_⟩
  · have hp : 0 < v 23 b := Nat.pos_of_ne_zero fun q => c ((nI_m1 (by omega)).mpr q)
    have hix : v 19 (3 * (v 23 b - 1) + v 25 t) ≤ 999 := hv.2.2.2.1 _ (by omega)
    have ee : (3 : Int32) * (nI (v 23 b) - 1) + nI (v 25 t) = nI (3 * (v 23 b - 1) + v 25 t) := by
      rw [nI_pre hp, show (3 : Int32) = nI 3 from rfl, pk_mul, nI_add]
    refine ⟨vp_in_nI (by omega) (by omega), ?_⟩
    rw [nI_clamp (by omega), e9, ee]
    refine ⟨vp_in_nI (by omega) (by omega), ?_⟩
    rw [nI_clamp (by omega), hR.2.2.2.1 _ (by omega)]
    exact fin _ hix (by unfold trouble; rw [if_neg (by omega)])
  · have hz : v 23 b = 0 := (nI_m1 (by omega)).mp c
    exact fin 0 (by decide) (by unfold trouble; rw [if_pos hz]; simp)
theorem nMarked_le {v : Rl} (hv : okV v) : nMarked v ≤ v 13 0 := by
  have := sumN_le (f := fun b => v 24 b) (c := 1) (n := v 13 0) (fun k hk => (hv.2.2.2.2.1 k hk).2.2.2.2)
  unfold nMarked
  omega
theorem c_gainOf {v : Rl} {rs : Nat → Int32} {ra : Nat → Nat → Int32} (hR : RelC v rs ra) (hv : okV v) {b : Nat} (hb : b < v 13 0) {post : Int32 → Prop} (h : post (nI (gain v b))) : P_X4_gainOf rs ra (nI b) (nI (nMarked v)) post := by
  have h13 : v 13 0 ≤ 10 := hv.1.2.2.2.2.2.2.2.2.2.2.2.2.2.1
  have h6 : v 6 0 ≤ 1 := hv.1.2.2.2.2.2.2.1
  have h5 : v 5 0 ≤ 100 := hv.1.2.2.2.2.2.1
  obtain ⟨-, e5, -, -, e8⟩ := hR.2.2.2.2.1 b hb
  obtain ⟨-, b21, -, -, b24⟩ := hv.2.2.2.2.1 b hb
  have hm := nMarked_le hv
  refine ⟨vp_in_nI (by omega) (by omega), ?_⟩
  rw [nI_clamp (by omega), e5, rc_s hR 13, rc_s hR 6]
  intro x hx y hy
  rw [show (100 : Int32) = nI 100 from rfl, pk_mul] at hy
  subst hx; subst hy
  refine ⟨fun c => ?_, fun c => ⟨fun c2 => absurd c2 ?_, fun c2 => ⟨?_, ?_⟩⟩⟩
  · have hz : v 6 0 = 0 := (nI_eq (b := 0) (by omega) (by decide)).mp c
    refine ⟨vp_in_nI (by omega) (by omega), ?_⟩
    rw [nI_clamp (by omega), e8, rc_s hR 5]
    refine ⟨fun c3 => ?_, fun c3 => ?_⟩
    · have hz3 : v 24 b = 0 := (nI_eq (b := 0) (by omega) (by decide)).mp c3
      have : gain v b = v 21 b := by unfold gain; rw [if_neg (by omega), if_neg (by omega)]
      rw [this] at h
      exact h
    · have hz3 : v 24 b = 1 := by
        have : v 24 b ≠ 0 := fun q => c3 (by rw [q]; rfl)
        omega
      have : gain v b = v 21 b * (100 - v 5 0) / 100 := by unfold gain; rw [if_neg (by omega), if_pos hz3]
      rw [this] at h
      rw [show (100 : Int32) = nI 100 from rfl, pk_sub h5, pk_mul, pk_div ?_ (by decide) (by decide)]
      · exact h
      · have : v 21 b * (100 - v 5 0) ≤ 9999 * 100 := Nat.mul_le_mul b21 (by omega)
        omega
  · exact nI_nle (by omega) (by omega)
  · exact nI_ne0 (by omega) (by omega)
  · have hz : v 6 0 = 1 := by
      have : v 6 0 ≠ 0 := fun q => c (by rw [q]; rfl)
      omega
    have hk : v 5 0 * nMarked v ≤ 100 * v 13 0 := Nat.mul_le_mul h5 hm
    have : gain v b = v 21 b * (100 * v 13 0 - v 5 0 * nMarked v) / (100 * v 13 0) := by unfold gain; rw [if_pos hz]
    rw [this] at h
    rw [rc_s hR 5, pk_mul, pk_sub hk, pk_mul, pk_div ?_ (by omega) (by omega)]
    · exact h
    · have : v 21 b * (100 * v 13 0 - v 5 0 * nMarked v) ≤ 9999 * 1000 := Nat.mul_le_mul b21 (by omega)
      omega
end
section
/-! whom a thief takes: an order of the choices by rank, the first of them that is there -/
def net (v : Rl) (t b : Nat) : Int := (gain v b : Int) - (trouble v t b : Int)
def rnk (v : Rl) (s t b : Nat) : Int := if v 28 t = 0 then (if b < v 13 0 then -(net v t b) else -(s : Int)) else (if b < v 13 0 then (trouble v t b : Int) else 0)
def wnt (v : Rl) (s t b : Nat) : Bool := if b < v 13 0 then decide (0 < net v t b) && (v 28 t != 2 || v 29 t == b + 1) else b == v 13 0 && decide (0 < s) && v 28 t != 2
def insr (r : Nat → Int) (c : Nat) : List Nat → List Nat
  | [] => [c]
  | a :: l => if r a ≤ r c then a :: insr r c l else c :: a :: l
def pickL (l : List Nat) (g : Nat) : Option Nat := l.find? (fun c => !g.testBit c)
def ordl (v : Rl) (s t : Nat) : Nat → List Nat
  | 0 => []
  | k + 1 => if wnt v s t k then insr (rnk v s t) k (ordl v s t k) else ordl v s t k
/-- whom thief t takes, those of g being gone; a bait seems s -/
def tk (v : Rl) (s t g : Nat) : Option Nat := pickL (ordl v s t (v 13 0 + 1)) g
def srt (r : Nat → Int) (l : List Nat) : Prop := l.Pairwise (fun a b => r a ≤ r b)
theorem insr_mem {r : Nat → Int} {c x : Nat} : ∀ {l : List Nat}, x ∈ insr r c l ↔ x = c ∨ x ∈ l
  | [] => by simp [insr]
  | a :: l => by
    unfold insr
    split
    · simp only [List.mem_cons, insr_mem (l := l)]; constructor <;> rintro (h | h | h) <;> simp [h]
    · simp only [List.mem_cons]
theorem insr_len {r : Nat → Int} {c : Nat} : ∀ {l : List Nat}, (insr r c l).length = l.length + 1
  | [] => rfl
  | a :: l => by
    unfold insr
    split
    · simp [insr_len (l := l)]
    · simp
theorem insr_srt {r : Nat → Int} {c : Nat} : ∀ {l : List Nat}, srt r l → srt r (insr r c l)
  | [], _ => by simp [insr, srt]
  | a :: l, h => by
    unfold srt at h ⊢
    rw [List.pairwise_cons] at h
    unfold insr
    split
    · rename_i hc
      rw [List.pairwise_cons]
      refine ⟨fun b hb => ?_, insr_srt (l := l) h.2⟩
      rcases insr_mem.mp hb with rfl | hb
      · exact hc
      · exact h.1 b hb
    · rename_i hc
      rw [List.pairwise_cons]
      refine ⟨fun b hb => ?_, by rw [List.pairwise_cons]; exact h⟩
      rcases List.mem_cons.mp hb with rfl | hb
      · omega
      · have := h.1 b hb
        omega
theorem ordl_srt (v : Rl) (s t : Nat) : ∀ k, srt (rnk v s t) (ordl v s t k)
  | 0 => by simp [ordl, srt]
  | k + 1 => by
    unfold ordl
    split
    · exact insr_srt (ordl_srt v s t k)
    · exact ordl_srt v s t k
theorem ordl_mem {v : Rl} {s t x : Nat} : ∀ {k : Nat}, x ∈ ordl v s t k ↔ x < k ∧ wnt v s t x = true
  | 0 => by simp [ordl]
  | k + 1 => by
    unfold ordl
    split
    · rename_i h
      rw [insr_mem, ordl_mem (k := k)]
      constructor
      · rintro (rfl | ⟨h1, h2⟩)
        · exact ⟨by omega, h⟩
        · exact ⟨by omega, h2⟩
      · rintro ⟨h1, h2⟩
        by_cases e : x = k
        · exact Or.inl e
        · exact Or.inr ⟨by omega, h2⟩
    · rename_i h
      rw [ordl_mem (k := k)]
      constructor
      · rintro ⟨h1, h2⟩; exact ⟨by omega, h2⟩
      · rintro ⟨h1, h2⟩
        by_cases e : x = k
        · subst e; exact absurd h2 h
        · exact ⟨by omega, h2⟩
theorem ordl_len (v : Rl) (s t : Nat) : ∀ k, (ordl v s t k).length ≤ k
  | 0 => by simp [ordl]
  | k + 1 => by
    have := ordl_len v s t k
    unfold ordl
    split
    · rw [insr_len]; omega
    · omega
/-- the same by going through the choices one by one (the first of several stays) -/
def scn (v : Rl) (s t g : Nat) : Nat → Option Nat
  | 0 => none
  | k + 1 => if wnt v s t k && !g.testBit k then (match scn v s t g k with
    | none => some k
    | some b => if rnk v s t k < rnk v s t b then some k else some b) else scn v s t g k
theorem pick_ins {r : Nat → Int} {c g : Nat} : ∀ {l : List Nat}, srt r l → pickL (insr r c l) g = if !g.testBit c then (match pickL l g with
    | none => some c
    | some b => if r c < r b then some c else some b) else pickL l g
  | [], _ => by
    unfold insr pickL
    by_cases h : g.testBit c <;> simp [h]
  | a :: l, hs => by
    have hs2 := List.pairwise_cons.mp hs
    have ih := pick_ins (r := r) (c := c) (g := g) (l := l) hs2.2
    unfold insr
    by_cases ha : g.testBit a = true
    · have e1 : pickL (a :: l) g = pickL l g := by simp [pickL, ha]
      rw [e1]
      split
      · rename_i hc
        have e2 : pickL (a :: insr r c l) g = pickL (insr r c l) g := by simp [pickL, ha]
        rw [e2, ih]
      · rename_i hc
        by_cases hcg : g.testBit c = true
        · simp [pickL, hcg, ha]
        · have e3 : pickL (c :: a :: l) g = some c := by simp [pickL, hcg]
          rw [e3]
          simp only [hcg, Bool.not_false, if_true]
          cases hp : pickL l g with
          | none => rfl
          | some b =>
            have hb : b ∈ l := List.mem_of_find?_eq_some hp
            have := hs2.1 b hb
            simp only
            rw [if_pos (by omega)]
    · have e1 : pickL (a :: l) g = some a := by simp [pickL, ha]
      rw [e1]
      split
      · rename_i hc
        have e2 : pickL (a :: insr r c l) g = some a := by simp [pickL, ha]
        rw [e2]
        by_cases hcg : g.testBit c = true
        · simp [hcg]
        · simp only [hcg, Bool.not_false, if_true]
          rw [if_neg (by omega)]
      · rename_i hc
        by_cases hcg : g.testBit c = true
        · simp [pickL, hcg, ha]
        · have e3 : pickL (c :: a :: l) g = some c := by simp [pickL, hcg]
          rw [e3]
          simp only [hcg, Bool.not_false, if_true]
          rw [if_pos (by omega)]
theorem pick_scn (v : Rl) (s t g : Nat) : ∀ k, pickL (ordl v s t k) g = scn v s t g k
  | 0 => rfl
  | k + 1 => by
    unfold ordl scn
    by_cases h : wnt v s t k = true
    · rw [if_pos h, pick_ins (ordl_srt v s t k), pick_scn v s t g k]
      simp only [h, Bool.true_and]
    · simp only [h, Bool.false_and, if_false, Bool.false_eq_true]
      exact pick_scn v s t g k
theorem tk_scn (v : Rl) (s t g : Nat) : tk v s t g = scn v s t g (v 13 0 + 1) := pick_scn v s t g _
theorem tk_some {v : Rl} {s t g b : Nat} (h : tk v s t g = some b) : b ≤ v 13 0 ∧ wnt v s t b = true ∧ g.testBit b = false := by
  have hm : b ∈ ordl v s t (v 13 0 + 1) := List.mem_of_find?_eq_some h
  have hp := List.find?_some h
  rw [ordl_mem] at hm
  exact ⟨by omega, hm.2, by simpa using hp⟩
end
section
/-! the class's Night: its orders, and whom a thief picks -/
theorem sh_c : ∀ n, n < 32 → ((nI n &&& 31).toBitVec.smod 32).toNat = n := by decide +kernel
theorem bit_and1 {n : Nat} (h : n < 2 ^ 31) : nI n &&& 1 = nI (n % 2) := by
  have := pk_andN (n := n) (by omega) (m := 1) 1 (by decide)
  simpa using this
theorem bit_z {g c : Nat} (hg : g < 2 ^ 31) (hc : c < 32) : ((nI g >>> (nI c &&& 31)) &&& 1) = 0 ↔ g.testBit c = false := by
  rw [pk_shrN hg _ c (sh_c c hc), bit_and1 (Nat.lt_of_le_of_lt (Nat.div_le_self _ _) hg), show (0 : Int32) = nI 0 from rfl, nI_eq (by omega) (by decide), Nat.testBit_eq_decide_div_mod_eq]
  simp
def oI (x : Option Nat) : Int32 := match x with
  | none => -1
  | some b => nI b
theorem pickL_t {a : Nat} {l : List Nat} {g : Nat} (h : g.testBit a = true) : pickL (a :: l) g = pickL l g := by simp [pickL, h]
theorem pickL_f {a : Nat} {l : List Nat} {g : Nat} (h : g.testBit a = false) : pickL (a :: l) g = some a := by simp [pickL, h]
/-- the order of thief t, as the arrays have it -/
def OL (na : Nat → Nat → Int32) (t : Nat) (l : List Nat) : Prop := na 3 t = nI l.length ∧ l.length ≤ 11 ∧ ∀ i, i < l.length → na 2 (11 * t + i) = nI (l.getD i 0) ∧ l.getD i 0 ≤ 10
theorem c_pick {na : Nat → Nat → Int32} {t g : Nat} {l : List Nat} (h : OL na t l) (ht : t < 6) (hg : g < 2 ^ 31) {post : Int32 → Prop} (hp : post (oI (pickL l g))) : P_X3_pick na (nI t) (nI g) post := by
  obtain ⟨h3, hlen, h2⟩ := h
  intro x hx
  rw [show (11 : Int32) = nI 11 from rfl, pk_mul] at hx
  subst hx
  have L : ∀ k i, i + k = l.length → pickL (l.drop i) g = pickL l g → P_X3_pick_8 na (nI t) (nI g) post (nI (t * 11)) (k + 1) (nI i) := by
    intro k
    induction k with
    | zero =>
      intro i hi he
      refine ⟨vp_in_nI (by omega) (by omega), ?_⟩
      rw [nI_clamp (by omega), h3]
      refine ⟨fun _ => ?_, fun c => absurd (nI_le (by omega) (by omega)) c⟩
      rw [show i = l.length by omega, List.drop_length] at he
      rw [← he] at hp
      exact hp
    | succ k ih =>
      intro i hi he
      refine ⟨vp_in_nI (by omega) (by omega), ?_⟩
      rw [nI_clamp (by omega), h3]
      refine ⟨fun c => absurd ((nI_leI (by omega) (by omega)).mp c) (by omega), fun _ => ?_⟩
      rw [nI_add]
      refine ⟨vp_in_nI (by omega) (by omega), ?_⟩
      rw [nI_clamp (by omega), show t * 11 + i = 11 * t + i by omega, (h2 i (by omega)).1]
      have h10 := (h2 i (by omega)).2
      intro y hy
      subst hy
      have hi2 : i < l.length := by omega
      have hd : l.drop i = l.getD i 0 :: l.drop (i + 1) := by
        rw [List.drop_eq_getElem_cons hi2]
        congr 1
        simp [hi2]
      rw [hd] at he
      refine ⟨fun c => ?_, fun c => ?_⟩
      · rw [bit_z hg (by omega)] at c
        rw [nI_1]
        refine ih (i + 1) (by omega) ?_
        rw [← he, pickL_t (by simpa using c)]
      · rw [bit_z hg (by omega)] at c
        have : pickL (l.getD i 0 :: l.drop (i + 1)) g = some (l.getD i 0) := pickL_f c
        rw [← he, this] at hp
        exact hp
  exact ⟨l.length + 1, L l.length 0 (by omega) (by simp)⟩
def zI (z : Int) : Int32 := Int32.ofInt z
theorem zI_le {a b : Int} (ha : -2147483648 ≤ a ∧ a < 2147483648) (hb : -2147483648 ≤ b ∧ b < 2147483648) : zI a ≤ zI b ↔ a ≤ b := by
  rw [Int32.le_iff_toInt_le]
  unfold zI
  rw [fb_ofI ha.1 ha.2, fb_ofI hb.1 hb.2]
theorem insr_at {r : Nat → Int} {c : Nat} : ∀ (l : List Nat) (k : Nat), k ≤ l.length → (∀ i, i < k → r (l.getD i 0) ≤ r c) → (∀ i, k ≤ i → i < l.length → r c < r (l.getD i 0)) → ∀ i, i ≤ l.length → (insr r c l).getD i 0 = if i < k then l.getD i 0 else if i = k then c else l.getD (i - 1) 0
  | [], k, h0, _, _, i, hi => by
    have e1 : i = 0 := by simpa using hi
    have e2 : k = 0 := by simpa using h0
    subst e1; subst e2
    simp [insr]
  | a :: l, 0, _, _, h2, i, hi => by
    have := h2 0 (Nat.le_refl 0) (by simp)
    simp only [List.getD_cons_zero] at this
    unfold insr
    rw [if_neg (by omega), if_neg (Nat.not_lt_zero i)]
    match i with
    | 0 => simp
    | j + 1 => simp
  | a :: l, k + 1, h0, h1, h2, i, hi => by
    have := h1 0 (by omega)
    simp only [List.getD_cons_zero] at this
    unfold insr
    rw [if_pos this]
    match i with
    | 0 => simp
    | j + 1 =>
      have ih := insr_at (r := r) (c := c) l k (by simpa using h0) (fun i hi => by simpa using h1 (i + 1) (by omega)) (fun i h3 h4 => by simpa using h2 (i + 1) (by omega) (by simpa using h4)) j (by simpa using hi)
      rw [List.getD_cons_succ, ih]
      by_cases c1 : j < k
      · rw [if_pos c1, if_pos (by omega), List.getD_cons_succ]
      · rw [if_neg c1, if_neg (show ¬ j + 1 < k + 1 by omega)]
        by_cases c2 : j = k
        · rw [if_pos c2, if_pos (show j + 1 = k + 1 by omega)]
        · rw [if_neg c2, if_neg (show ¬ j + 1 = k + 1 by omega)]
          obtain ⟨j', rfl⟩ : ∃ j', j = j' + 1 := ⟨j - 1, by omega⟩
          simp
theorem up_at {α : Type} {f : Nat → α} {k : Nat} {x : α} : va_up f k x k = x := by simp [va_up]
theorem up_ne {α : Type} {f : Nat → α} {k j : Nat} {x : α} (h : j ≠ k) : va_up f k x j = f j := by simp [va_up, h]
theorem u_at {f : Nat → Int32} {k : Nat} {x : Int32} : upd f k x k = x := by simp [upd]
theorem u_ne {f : Nat → Int32} {k j : Nat} {x : Int32} (h : j ≠ k) : upd f k x j = f j := by simp [upd, h]
theorem c_putInOrder {na : Nat → Nat → Int32} {t c : Nat} {l : List Nat} {r : Nat → Int} (hO : OL na t l) (ht : t < 6) (hlen : l.length < 11) (hc : c ≤ 10) (hrk : ∀ i, i < l.length → na 4 i = zI (r (l.getD i 0))) (hb : ∀ x, -2147483648 ≤ r x ∧ r x < 2147483648) (hs : srt r l) {post : (Nat → Nat → Int32) → Prop}
    (h : ∀ na' : Nat → Nat → Int32, OL na' t (insr r c l) → (∀ i, i < (insr r c l).length → na' 4 i = zI (r ((insr r c l).getD i 0))) → (∀ j, j ≠ 2 → j ≠ 3 → j ≠ 4 → na' j = na j) → (∀ t', t' ≠ t → na' 3 t' = na 3 t') → (∀ x, (x < 11 * t ∨ 11 * t + 11 ≤ x) → na' 2 x = na 2 x) → post na') : P_X3_putInOrder na (nI t) (nI c) (zI (r c)) post := by
  obtain ⟨h3, -, h2⟩ := hO
  have hord : ∀ i j, i ≤ j → j < l.length → r (l.getD i 0) ≤ r (l.getD j 0) := by
    intro i j hij hj
    rcases Nat.lt_or_ge i j with q | q
    · have hp := List.pairwise_iff_getElem.mp hs i j (by omega) hj q
      simpa [hj, show i < l.length by omega] using hp
    · rw [show i = j by omega]; exact Int.le_refl _
  intro x hx
  rw [show (11 : Int32) = nI 11 from rfl, pk_mul] at hx
  subst hx
  refine ⟨vp_in_nI (by omega) (by omega), ?_⟩
  rw [nI_clamp (by omega), h3]
  intro y hy
  subst hy
  refine ⟨fun _ => ?_, fun cc => absurd (by rw [show (11 : Int32) = nI 11 from rfl]; exact nI_lt hlen (by omega)) cc⟩
  -- the end: at place k
  have fin : ∀ (k : Nat) (nb : Nat → Nat → Int32), k ≤ l.length → (∀ i, i < k → nb 2 (11 * t + i) = na 2 (11 * t + i) ∧ nb 4 i = na 4 i) → (∀ i, k < i → i ≤ l.length → nb 2 (11 * t + i) = na 2 (11 * t + (i - 1)) ∧ nb 4 i = na 4 (i - 1)) → (∀ i, k ≤ i → i < l.length → r c < r (l.getD i 0)) → (∀ j, j ≠ 2 → j ≠ 4 → nb j = na j) → (∀ x, (x < 11 * t ∨ 11 * t + 11 ≤ x) → nb 2 x = na 2 x) → (k = 0 ∨ r (l.getD (k - 1) 0) ≤ r c) → P_X3_putInOrder_84 (nI t) (nI c) (zI (r c)) post (nI (t * 11)) (nI k) nb := by
    intro k nb hk i1 i2 i3 i4 i5 i6
    have hat := insr_at (r := r) (c := c) l k hk (fun i hi => by
      rcases i6 with q | q
      · omega
      · have := hord i (k - 1) (by omega) (by omega)
        omega) i3
    refine ⟨vp_in_nI (by omega) (by omega), ?_⟩
    rw [nI_add]
    refine ⟨vp_in_nI (by omega) (by omega), vp_in_nI (by omega) (by omega), vp_in_nI (by omega) (by omega), ?_⟩
    rw [nI_clamp (show t < 2 ^ 31 by omega), nI_clamp (show k < 2 ^ 31 by omega), nI_clamp (show t * 11 + k < 2 ^ 31 by omega), i4 3 (by decide) (by decide), h3, nI_1]
    have h10 : ∀ i, i ≤ l.length → (insr r c l).getD i 0 ≤ 10 := by
      intro i hi
      rw [hat i hi]
      split
      · exact (h2 i (by omega)).2
      · split
        · exact hc
        · exact (h2 (i - 1) (by omega)).2
    refine h _ ⟨?_, ?_, ?_⟩ ?_ ?_ ?_ ?_
    · rw [up_ne (by decide), up_at, u_at, insr_len]
    · rw [insr_len]; omega
    · intro i hi
      rw [insr_len] at hi
      refine ⟨?_, h10 i (by omega)⟩
      rw [up_ne (by decide), up_ne (by decide), up_at, hat i (by omega)]
      by_cases c1 : i < k
      · rw [if_pos c1, u_ne (by omega), (i1 i c1).1, (h2 i (by omega)).1]
      · rw [if_neg c1]
        by_cases c2 : i = k
        · rw [if_pos c2, c2, show 11 * t + k = t * 11 + k by omega, u_at]
        · rw [if_neg c2, u_ne (by omega), (i2 i (by omega) (by omega)).1, (h2 (i - 1) (by omega)).1]
    · intro i hi
      rw [insr_len] at hi
      rw [up_at, hat i (by omega)]
      by_cases c1 : i < k
      · rw [if_pos c1, u_ne (by omega), (i1 i c1).2, hrk i (by omega)]
      · rw [if_neg c1]
        by_cases c2 : i = k
        · rw [if_pos c2, c2, u_at]
        · rw [if_neg c2, u_ne (by omega), (i2 i (by omega) (by omega)).2, hrk (i - 1) (by omega)]
    · intro j j2 j3 j4
      rw [up_ne j4, up_ne j3, up_ne j2, i4 j j2 j4]
    · intro t' ht'
      rw [up_ne (by decide), up_at, u_ne ht']
    · intro x hx
      rw [up_ne (by decide), up_ne (by decide), up_at, u_ne (by omega), i5 x hx]
  have L : ∀ (k : Nat) (nb : Nat → Nat → Int32), k ≤ l.length → (∀ i, i < k → nb 2 (11 * t + i) = na 2 (11 * t + i) ∧ nb 4 i = na 4 i) → (∀ i, k < i → i ≤ l.length → nb 2 (11 * t + i) = na 2 (11 * t + (i - 1)) ∧ nb 4 i = na 4 (i - 1)) → (∀ i, k ≤ i → i < l.length → r c < r (l.getD i 0)) → (∀ j, j ≠ 2 → j ≠ 4 → nb j = na j) → (∀ x, (x < 11 * t ∨ 11 * t + 11 ≤ x) → nb 2 x = na 2 x) →
      P_X3_putInOrder_22 (nI t) (nI c) (zI (r c)) post (fun x4_ x5_ na => P_X3_putInOrder_84 (nI t) (nI c) (zI (r c)) post x4_ x5_ na) (nI (t * 11)) (k + 1) (nI k) nb := by
    intro k
    induction k with
    | zero =>
      intro nb hk i1 i2 i3 i4 i5
      exact ⟨fun _ => fin 0 nb hk i1 i2 i3 i4 i5 (Or.inl rfl), fun q => absurd (by decide) q⟩
    | succ k ih =>
      intro nb hk i1 i2 i3 i4 i5
      refine ⟨fun q => absurd q (nI_nle (by omega) (by omega)), fun _ => ?_⟩
      rw [nI_pred]
      refine ⟨vp_in_nI (by omega) (by omega), ?_⟩
      rw [nI_clamp (by omega), (i1 k (by omega)).2, hrk k (by omega), zI_le (hb _) (hb _)]
      refine ⟨fun q => fin (k + 1) nb hk i1 i2 i3 i4 i5 (Or.inr (by simpa using q)), fun q => ⟨vp_in_nI (by omega) (by omega), vp_in_nI (by omega) (by omega), ?_⟩⟩
      rw [nI_add, show (1 : Int32) = nI 1 from rfl, pk_sub (by omega)]
      refine ⟨vp_in_nI (by omega) (by omega), vp_in_nI (by omega) (by omega), ?_⟩
      rw [show (-nI 1 : Int32) = -1 from rfl, pk_m1, nI_clamp (show k + 1 < 2 ^ 31 by omega), nI_clamp (show t * 11 + (k + 1) < 2 ^ 31 by omega), nI_clamp (show t * 11 + (k + 1) - 1 < 2 ^ 31 by omega)]
      refine ih _ (by omega) ?_ ?_ ?_ ?_ ?_
      · intro i hi
        rw [up_ne (by decide), up_at, up_at, u_ne (by omega), u_ne (by omega)]
        exact i1 i (by omega)
      · intro i h1 h4
        rw [up_ne (by decide), up_at, up_at]
        by_cases e : i = k + 1
        · subst e
          rw [show 11 * t + (k + 1) = t * 11 + (k + 1) by omega, u_at, u_at, show t * 11 + (k + 1) - 1 = 11 * t + k by omega, (i1 k (by omega)).1, show k + 1 - 1 = k by omega]
          exact ⟨rfl, (hrk k (by omega)).symm⟩
        · rw [u_ne (by omega), u_ne (by omega)]
          exact i2 i (by omega) h4
      · intro i h1 h4
        by_cases e : i = k
        · subst e
          omega
        · exact i3 i (by omega) h4
      · intro j j2 j4
        rw [up_ne j4, up_ne j2]
        exact i4 j j2 j4
      · intro x hx
        rw [up_ne (by decide), up_at, u_ne (by omega)]
        exact i5 x hx
  exact ⟨l.length + 1, L l.length na (Nat.le_refl _) (fun i hi => ⟨rfl, rfl⟩) (fun i h1 h4 => by omega) (fun i h1 h4 => by omega) (fun _ _ _ => rfl) (fun _ _ => rfl)⟩
end
section
/-! the class's Night looks at a rail: each thief's order -/
theorem nI_zI (n : Nat) : nI n = zI (n : Int) := rfl
theorem z_neg {a b : Nat} (ha : a < 2 ^ 30) (hb : b < 2 ^ 30) : -(nI a - nI b) = zI (-((a : Int) - (b : Int))) := by
  rw [← Int32.toInt_inj]
  unfold zI
  rw [fb_ofI (by omega) (by omega), fb_negI (by rw [nS ha hb]; omega), nS ha hb]
theorem z_neg1 {a : Nat} (ha : a < 2 ^ 30) : -(nI a) = zI (-(a : Int)) := by
  rw [← Int32.toInt_inj]
  unfold zI
  rw [fb_ofI (by omega) (by omega), fb_negI (by rw [nI_toInt (by omega)]; omega), nI_toInt (by omega)]
theorem gain_le {v : Rl} (hv : okV v) {b : Nat} (hb : b < v 13 0) : gain v b ≤ 9999 := by
  have h5 : v 5 0 ≤ 100 := hv.1.2.2.2.2.2.1
  obtain ⟨-, b21, -, -, -⟩ := hv.2.2.2.2.1 b hb
  unfold gain
  split
  · refine Nat.le_trans (Nat.div_le_of_le_mul ?_) b21
    rw [Nat.mul_comm]
    exact Nat.mul_le_mul_right _ (by omega)
  · split
    · refine Nat.le_trans (Nat.div_le_of_le_mul ?_) b21
      rw [Nat.mul_comm]
      exact Nat.mul_le_mul_right _ (by omega)
    · exact b21
theorem trouble_le {v : Rl} (hv : okV v) {t b : Nat} (ht : t < v 14 0) (hb : b < v 13 0) : trouble v t b ≤ 600000 := by
  have hl := light_le hv (v 22 b)
  obtain ⟨b25, -, b27, -, -⟩ := hv.2.2.2.2.2.1 t ht
  obtain ⟨-, -, -, b23, -⟩ := hv.2.2.2.2.1 b hb
  unfold trouble
  split
  · omega
  · have hix : v 19 (3 * (v 23 b - 1) + v 25 t) ≤ 999 := hv.2.2.2.1 _ (by omega)
    have a1 : v 19 (3 * (v 23 b - 1) + v 25 t) * v 27 t ≤ 999 * 99 := Nat.mul_le_mul hix b27
    have a2 : v 19 (3 * (v 23 b - 1) + v 25 t) * v 27 t * (1 + light v (v 22 b)) ≤ 999 * 99 * 595 := Nat.mul_le_mul a1 (by omega)
    omega
/-- ranks are small -/
theorem rnk_rng {v : Rl} (hv : okV v) {s t : Nat} (ht : t < v 14 0) (hs : s ≤ 9999) (x : Nat) : -2147483648 ≤ rnk v s t x ∧ rnk v s t x < 2147483648 := by
  unfold rnk net
  by_cases hb : x < v 13 0
  · have h1 := gain_le hv hb
    have h2 := trouble_le hv ht hb
    simp only [hb, if_true]
    split <;> omega
  · simp only [hb, if_false]
    split <;> omega
theorem cmp_le {x : Int32} {n i : Nat} (h : x = nI n) (hn : n < 2 ^ 31) (hi : i < 2 ^ 31) : x ≤ nI i ↔ n ≤ i := by rw [h]; exact nI_leI hn hi
theorem cmp_eq {x : Int32} {n i : Nat} (h : x = nI n) (hn : n < 2 ^ 31) (hi : i < 2 ^ 31) : x = nI i ↔ n = i := by rw [h]; exact nI_eq hn hi
/-- what the Night knows of a rail -/
def NR (v : Rl) (s : Nat) (ns : Nat → Int32) (na : Nat → Nat → Int32) : Prop := ns 0 = nI (v 13 0) ∧ (∀ b, b < v 13 0 → na 0 b = nI (light v (v 22 b)) ∧ na 1 b = nI (gain v b)) ∧ ∀ t, t < v 14 0 → OL na t (ordl v s t (v 13 0 + 1))
theorem OL_eq {na nb : Nat → Nat → Int32} {t : Nat} {l : List Nat} (h : OL na t l) (h3 : nb 3 t = na 3 t) (h2 : ∀ i, i < 11 → nb 2 (11 * t + i) = na 2 (11 * t + i)) : OL nb t l := by
  obtain ⟨e3, e, e2⟩ := h
  exact ⟨h3.trans e3, e, fun i hi => ⟨(h2 i (by omega)).trans (e2 i hi).1, (e2 i hi).2⟩⟩
theorem c_orderFor {v : Rl} {rs : Nat → Int32} {ra : Nat → Nat → Int32} (hR : RelC v rs ra) (hv : okV v) {ns : Nat → Int32} {na : Nat → Nat → Int32} {s t : Nat} (hs : s ≤ 9999) (ht : t < v 14 0) (hb0 : ns 0 = nI (v 13 0)) (hl : ∀ b, b < v 13 0 → na 0 b = nI (light v (v 22 b)) ∧ na 1 b = nI (gain v b)) {post : (Nat → Nat → Int32) → Prop}
    (h : ∀ nb : Nat → Nat → Int32, OL nb t (ordl v s t (v 13 0 + 1)) → (∀ j, j ≠ 2 → j ≠ 3 → j ≠ 4 → nb j = na j) → (∀ t', t' ≠ t → nb 3 t' = na 3 t') → (∀ x, (x < 11 * t ∨ 11 * t + 11 ≤ x) → nb 2 x = na 2 x) → post nb) : P_X3_orderFor ns na rs ra (nI t) (nI s) post := by
  have h13 : v 13 0 ≤ 10 := hv.1.2.2.2.2.2.2.2.2.2.2.2.2.2.1
  have h14 : v 14 0 ≤ 6 := hv.1.2.2.2.2.2.2.2.2.2.2.2.2.2.2.1
  obtain ⟨-, -, -, e12, e13⟩ := hR.2.2.2.2.2.1 t ht
  obtain ⟨-, -, -, b28, b29⟩ := hv.2.2.2.2.2.1 t ht
  have rr := rnk_rng (v := v) hv (s := s) ht hs
  refine ⟨vp_in_nI (by omega) (by omega), vp_in_nI (by omega) (by omega), ?_⟩
  rw [nI_clamp (by omega), e12]
  intro x hx
  subst hx
  -- behind the bikes
  have fin : ∀ nb : Nat → Nat → Int32, OL nb t (ordl v s t (v 13 0)) → (∀ i, i < (ordl v s t (v 13 0)).length → nb 4 i = zI (rnk v s t ((ordl v s t (v 13 0)).getD i 0))) → (∀ j, j ≠ 2 → j ≠ 3 → j ≠ 4 → nb j = na j) → (∀ t', t' ≠ t → nb 3 t' = na 3 t') → (∀ x, (x < 11 * t ∨ 11 * t + 11 ≤ x) → nb 2 x = na 2 x) → P_X3_orderFor_124 ns rs ra (nI t) (nI s) post (nI (v 28 t)) nb := by
    intro nb o1 o2 o3 o4 o5
    have hlen := ordl_len v s t (v 13 0)
    by_cases hw : wnt v s t (v 13 0) = true
    · have ho : ordl v s t (v 13 0 + 1) = insr (rnk v s t) (v 13 0) (ordl v s t (v 13 0)) := by rw [ordl, if_pos hw]
      have hw2 : 0 < s ∧ v 28 t ≠ 2 := by
        unfold wnt at hw
        simpa using hw
      have put : ∀ q : Int32, q = zI (rnk v s t (v 13 0)) → P_X3_orderFor_151 ns rs ra (nI t) (nI s) post q (ns 0) (nI t) nb := by
        intro q hq
        unfold P_X3_orderFor_151
        rw [hq, hb0]
        refine c_putInOrder o1 (by omega) (by omega) h13 o2 rr (ordl_srt v s t _) (fun nc q1 q2 q3 q4 q5 => ?_)
        rw [← ho] at q1
        exact h nc q1 (fun j a b c => (q3 j a b c).trans (o3 j a b c)) (fun t' a => (q4 t' a).trans (o4 t' a)) (fun x a => (q5 x a).trans (o5 x a))
      refine ⟨fun c => absurd c (nI_nle hw2.1 (by omega)), fun _ => ⟨fun c => absurd ((nI_eq (b := 2) (by omega) (by decide)).mp c) hw2.2, fun _ => ⟨fun c => ?_, fun c => ?_⟩⟩⟩
      · refine put 0 ?_
        have : v 28 t ≠ 0 := fun q => c (by rw [q]; rfl)
        unfold rnk
        rw [if_neg this, if_neg (Nat.lt_irrefl _)]
        rfl
      · refine put _ ?_
        have : v 28 t = 0 := (nI_eq (b := 0) (by omega) (by decide)).mp c
        unfold rnk
        rw [if_pos this, if_neg (Nat.lt_irrefl _), z_neg1 (by omega)]
    · have ho : ordl v s t (v 13 0 + 1) = ordl v s t (v 13 0) := by rw [ordl, if_neg hw]
      have hh : post nb := h nb (by rw [ho]; exact o1) o3 o4 o5
      have hw2 : ¬ (0 < s ∧ v 28 t ≠ 2) := by
        intro q
        apply hw
        unfold wnt
        simp [q.1, q.2]
      refine ⟨fun _ => hh, fun c => ⟨fun _ => hh, fun c2 => absurd ⟨?_, ?_⟩ hw2⟩⟩
      · exact Nat.pos_of_ne_zero fun q => c (by rw [q]; decide)
      · exact fun q => c2 (by rw [q]; rfl)
  have L : ∀ (k i : Nat) (nb : Nat → Nat → Int32), i + k = v 13 0 → OL nb t (ordl v s t i) → (∀ j, j < (ordl v s t i).length → nb 4 j = zI (rnk v s t ((ordl v s t i).getD j 0))) → (∀ j, j ≠ 2 → j ≠ 3 → j ≠ 4 → nb j = na j) → (∀ t', t' ≠ t → nb 3 t' = na 3 t') → (∀ x, (x < 11 * t ∨ 11 * t + 11 ≤ x) → nb 2 x = na 2 x) → P_X3_orderFor_21 ns rs ra (nI t) (nI s) post (fun x4_ na => P_X3_orderFor_124 ns rs ra (nI t) (nI s) post x4_ na) (nI (v 28 t)) (k + 1) (nI i) nb := by
    intro k
    induction k with
    | zero =>
      intro i nb hi o1 o2 o3 o4 o5
      obtain rfl : i = v 13 0 := by omega
      refine ⟨fun _ => fin nb o1 o2 o3 o4 o5, fun c => absurd ?_ c⟩
      rw [rc_s hR 13]
      exact nI_le (Nat.le_refl _) (by omega)
    | succ k ih =>
      intro i nb hi o1 o2 o3 o4 o5
      have hib : i < v 13 0 := by omega
      have hlen := ordl_len v s t i
      have hg := gain_le hv hib
      have htr := trouble_le hv ht hib
      refine ⟨fun c => absurd ((cmp_le (rc_s hR 13) (by omega) (by omega)).mp c) (by omega), fun _ => ⟨vp_in_nI (by omega) (by omega), ?_⟩⟩
      rw [nI_clamp (by omega), o3 0 (by decide) (by decide) (by decide), (hl i hib).1]
      refine c_troubleOf hR hv ht hib rfl ?_
      refine ⟨vp_in_nI (by omega) (by omega), ?_⟩
      rw [o3 1 (by decide) (by decide) (by decide), (hl i hib).2]
      intro y hy
      subst hy
      have skip : wnt v s t i ≠ true → P_X3_orderFor_21 ns rs ra (nI t) (nI s) post (fun x4_ na => P_X3_orderFor_124 ns rs ra (nI t) (nI s) post x4_ na) (nI (v 28 t)) (k + 1) (nI (i + 1)) nb := by
        intro hw
        have ho : ordl v s t (i + 1) = ordl v s t i := by rw [ordl, if_neg hw]
        refine ih (i + 1) nb (by omega) (by rw [ho]; exact o1) (by rw [ho]; exact o2) o3 o4 o5
      have put : wnt v s t i = true → ∀ q : Int32, q = zI (rnk v s t i) → P_X3_orderFor_115 ns rs ra (nI t) (nI s) (nI (v 28 t)) post (P_X3_orderFor_21 ns rs ra (nI t) (nI s) post (fun x4_ na => P_X3_orderFor_124 ns rs ra (nI t) (nI s) post x4_ na) (nI (v 28 t)) (k + 1)) (nI i) q (nI i) (nI t) nb := by
        intro hw q hq
        have ho : ordl v s t (i + 1) = insr (rnk v s t) i (ordl v s t i) := by rw [ordl, if_pos hw]
        unfold P_X3_orderFor_115
        rw [hq, nI_1]
        refine c_putInOrder o1 (by omega) (by omega) (by omega) o2 rr (ordl_srt v s t _) (fun nc q1 q2 q3 q4 q5 => ?_)
        rw [← ho] at q1 q2
        exact ih (i + 1) nc (by omega) q1 q2 (fun j a b c => (q3 j a b c).trans (o3 j a b c)) (fun t' a => (q4 t' a).trans (o4 t' a)) (fun x a => (q5 x a).trans (o5 x a))
      have both : ∀ z : Int32, (z = 0 → wnt v s t i ≠ true) → (z ≠ 0 → v 28 t ≠ 2 ∨ v 29 t = i + 1) → P_X3_orderFor_86 ns rs ra (nI t) (nI s) (nI (v 28 t)) post (P_X3_orderFor_21 ns rs ra (nI t) (nI s) post (fun x4_ na => P_X3_orderFor_124 ns rs ra (nI t) (nI s) post x4_ na) (nI (v 28 t)) (k + 1)) (nI i) (nI (trouble v t i)) (nI (gain v i) - nI (trouble v t i)) z nb := by
        intro z z0 z1
        unfold P_X3_orderFor_86
        rw [nI_1]
        refine ⟨fun c => skip ?_, fun c => ⟨fun c2 => skip (z0 c2), fun c2 => ?_⟩⟩
        · have : ¬ trouble v t i < gain v i := by
            intro q
            have := (nS_pos (a := gain v i) (b := trouble v t i) (by omega) (by omega)).mpr q
            exact absurd c (Int32.not_le.mpr this)
          unfold wnt net
          rw [if_pos hib]
          simp
          intro q
          omega
        · have hpos : trouble v t i < gain v i := by
            refine (nS_pos (a := gain v i) (b := trouble v t i) (by omega) (by omega)).mp ?_
            exact Int32.not_le.mp c
          have hw : wnt v s t i = true := by
            unfold wnt net
            rw [if_pos hib]
            simp
            refine ⟨by omega, ?_⟩
            rcases z1 c2 with q | q
            · exact Or.inl q
            · exact Or.inr q
          refine ⟨fun c3 => put hw _ ?_, fun c3 => put hw _ ?_⟩
          · have : v 28 t ≠ 0 := fun q => c3 (by rw [q]; rfl)
            unfold rnk
            rw [if_neg this, if_pos hib]
            rfl
          · have : v 28 t = 0 := (nI_eq (b := 0) (by omega) (by decide)).mp c3
            unfold rnk net
            rw [if_pos this, if_pos hib, z_neg (by omega) (by omega)]
      refine ⟨fun c => both 1 (fun q => absurd q (by decide)) (fun _ => Or.inl fun q => c (by rw [q]; rfl)), fun c => ⟨vp_in_nI (by omega) (by omega), ?_⟩⟩
      have hj : v 28 t = 2 := (nI_eq (b := 2) (by omega) (by decide)).mp c
      rw [nI_clamp (by omega), e13]
      have hjx : nI i = nI (v 29 t) - 1 ↔ v 29 t = i + 1 := by
        rw [← Int32.toInt_inj, show (1 : Int32) = nI 1 from rfl, nS (by omega) (by decide), nI_toInt (by omega)]
        omega
      refine ⟨fun c2 => both 0 (fun _ => ?_) (fun q => absurd rfl q), fun c2 => both 1 (fun q => absurd q (by decide)) (fun _ => Or.inr (hjx.mp c2))⟩
      intro hw
      apply c2
      rw [hjx]
      unfold wnt at hw
      rw [if_pos hib] at hw
      simp [hj] at hw
      exact hw.2
  refine ⟨v 13 0 + 1, L (v 13 0) 0 _ (by omega) ⟨?_, by simp [ordl], fun i hi => by simp [ordl] at hi⟩ (fun j hj => by simp [ordl] at hj) ?_ ?_ ?_⟩
  · rw [up_at, u_at]
    rfl
  · intro j j2 j3 j4
    rw [up_ne j3]
  · intro t' ht'
    rw [up_at, u_ne ht']
  · intro x hx
    rw [up_ne (by decide)]
end
section
/-! the class's Spread: PARTS by states, a hash table -/
def hsh (q : Nat) : Nat := (nI q * (-1640531535)).toBitVec.toNat / 2 ^ 20
theorem hsh_lt (q : Nat) : hsh q < 4096 := by
  unfold hsh
  have := (nI q * (-1640531535)).toBitVec.isLt
  omega
theorem hsh_eq (q : Nat) : ((nI q * (-1640531535)).toUInt32 >>> ((20 : Int32).toUInt32 &&& Int32.toUInt32 31)).toInt32 = nI (hsh q) := by
  apply Int32.toBitVec_inj.1
  apply BitVec.eq_of_toNat_eq
  rw [pk_ushr (nI q * (-1640531535)) 20 20 (by decide), pk_tn (by have := hsh_lt q; omega)]
  rfl
def SP (E : List Nat) (D : Nat → Int64) (sz : Int32) (st : Nat → Int32) (pa : Nat → Int64) (so tb : Nat → Int32) : Prop :=
  sz = nI E.length ∧ E.length ≤ 1536 ∧ E.Nodup ∧ (∀ q, q ∉ E → D q = 0) ∧
  (∀ i, i < E.length → st i = nI (E.getD i 0) ∧ E.getD i 0 < 131072 ∧ pa i = D (E.getD i 0)) ∧
  ∃ sl : Nat → Nat, (∀ i, i < E.length → so i = nI (sl i) ∧ sl i < 4096 ∧ tb (sl i) = nI (i + 1) ∧ ∃ d, d < 4096 ∧ sl i = (hsh (E.getD i 0) + d) % 4096 ∧ ∀ d', d' < d → tb ((hsh (E.getD i 0) + d') % 4096) ≠ 0) ∧ (∀ x, x < 4096 → tb x = 0 ∨ ∃ i, i < E.length ∧ x = sl i)
def addA (D : Nat → Int64) (q : Nat) (m : Int64) : Nat → Int64 := fun x => if x = q then D x + m else D x
def addE (E : List Nat) (q : Nat) (m : Int64) : List Nat := if m = 0 ∨ q ∈ E then E else E ++ [q]
theorem uL_at {f : Nat → Int64} {k : Nat} {x : Int64} : vp_updL f k x k = x := by simp [vp_updL]
theorem uL_ne {f : Nat → Int64} {k j : Nat} {x : Int64} (h : j ≠ k) : vp_updL f k x j = f j := by simp [vp_updL, h]
theorem getD_mem {E : List Nat} {i : Nat} (h : i < E.length) : E.getD i 0 ∈ E := by
  simp [List.getD_eq_getElem?_getD, h]
theorem p_nd {l : List Nat} : l.Nodup ↔ ∀ (i j x : Nat), l[i]? = some x → l[j]? = some x → i = j := by
  unfold List.Nodup
  rw [List.pairwise_iff_getElem]
  constructor
  · intro h i j x hi hj
    obtain ⟨li, ei⟩ := List.getElem?_eq_some_iff.mp hi
    obtain ⟨lj, ej⟩ := List.getElem?_eq_some_iff.mp hj
    rcases Nat.lt_trichotomy i j with q | q | q
    · exact absurd (ei.trans ej.symm) (h i j li lj q)
    · exact q
    · exact absurd (ej.trans ei.symm) (h j i lj li q)
  · intro h i j li lj hij e
    have := h i j l[i] (List.getElem?_eq_getElem li) (by rw [e]; exact List.getElem?_eq_getElem lj)
    omega
theorem getD_inj {E : List Nat} (hn : E.Nodup) {i j : Nat} (hi : i < E.length) (hj : j < E.length) (e : E.getD i 0 = E.getD j 0) : i = j := by
  refine p_nd.mp hn i j (E.getD i 0) ?_ ?_
  · simp [List.getD_eq_getElem?_getD, hi]
  · rw [e]; simp [List.getD_eq_getElem?_getD, hj]
theorem mem_getD {E : List Nat} {q : Nat} (h : q ∈ E) : ∃ i, i < E.length ∧ E.getD i 0 = q := by
  obtain ⟨i, hi⟩ := List.mem_iff_getElem?.mp h
  obtain ⟨hl, e⟩ := List.getElem?_eq_some_iff.mp hi
  exact ⟨i, hl, by simp [List.getD_eq_getElem?_getD, hl, e]⟩
theorem app_lo {E : List Nat} {q i : Nat} (h : i < E.length) : (E ++ [q]).getD i 0 = E.getD i 0 := by
  simp [List.getD_eq_getElem?_getD, List.getElem?_append_left h]
theorem app_hi {E : List Nat} {q : Nat} : (E ++ [q]).getD E.length 0 = q := by
  simp [List.getD_eq_getElem?_getD]
theorem mod_step {h d : Nat} : ((h + d) % 4096 + 1) % 4096 = (h + (d + 1)) % 4096 := by omega
theorem and4095 {n : Nat} (h : n < 2 ^ 31) : nI n &&& 4095 = nI (n % 4096) := by
  have := pk_andN (n := n) (by omega) (m := 4095) 12 (by decide)
  simpa using this
theorem holes : ∀ (m n : Nat) (f : Nat → Nat), (∀ i, i < n → f i < m) → (∀ i j, i < j → j < n → f i ≠ f j) → n ≤ m := by
  intro m
  induction m with
  | zero =>
    intro n f h1 _
    rcases Nat.eq_zero_or_pos n with q | q
    · omega
    · exact absurd (h1 0 q) (by omega)
  | succ m ih =>
    intro n f h1 h2
    by_cases hx : ∃ a, a < n ∧ f a = m
    · obtain ⟨a, ha, hfa⟩ := hx
      have := ih (n - 1) (fun i => if i < a then f i else f (i + 1)) (fun i hi => by
        split
        · rename_i c
          have h3 := h1 i (by omega)
          have h4 : f i ≠ m := fun e => h2 i a c ha (by rw [e, hfa])
          omega
        · rename_i c
          have h3 := h1 (i + 1) (by omega)
          have h4 : f (i + 1) ≠ m := fun e => h2 a (i + 1) (by omega) (by omega) (by rw [e, hfa])
          omega) (fun i j hij hj => by
        split
        · split
          · exact h2 i j hij (by omega)
          · exact h2 i (j + 1) (by omega) (by omega)
        · split
          · omega
          · exact h2 (i + 1) (j + 1) (by omega) (by omega))
      omega
    · have := ih n f (fun i hi => by
        have h3 := h1 i hi
        have h4 : f i ≠ m := fun e => hx ⟨i, hi, e⟩
        omega) h2
      omega
theorem c_put {E : List Nat} {D : Nat → Int64} {sz : Int32} {st : Nat → Int32} {pa : Nat → Int64} {so tb : Nat → Int32} (h : SP E D sz st pa so tb) {q : Nat} (hq : q < 131072) (hr : E.length < 1536) {m : Int64} {post : Int32 → (Nat → Int32) → (Nat → Int64) → (Nat → Int32) → (Nat → Int32) → Prop}
    (hp : ∀ (sz' : Int32) (st' : Nat → Int32) (pa' : Nat → Int64) (so' tb' : Nat → Int32), SP (addE E q m) (addA D q m) sz' st' pa' so' tb' → post sz' st' pa' so' tb') : P_X7_put sz st pa so tb (nI q) m post := by
  have h0 := h
  obtain ⟨h1, h2, h3, h4, h5, sl, h6, h7⟩ := h
  have hh := hsh_lt q
  refine ⟨fun hm => ?_, fun hm => ?_⟩
  rotate_left
  · refine hp sz st pa so tb ?_
    have e1 : addE E q m = E := by unfold addE; rw [if_pos (Or.inl hm)]
    have e2 : addA D q m = D := by
      funext x
      unfold addA
      rw [hm]
      split
      · simp
      · rfl
    rw [e1, e2]
    exact h0
  intro x hx
  rw [hsh_eq] at hx
  subst hx
  -- a new state, at a free slot
  have ins : ∀ d, d < 4096 → (∀ d', d' < d → tb ((hsh q + d') % 4096) ≠ 0) → q ∉ E → tb ((hsh q + d) % 4096) = 0 → P_X7_put_87 (nI q) m post (nI ((hsh q + d) % 4096)) sz st pa so tb := by
    intro d hd hpath hnot hz
    have hs : (hsh q + d) % 4096 < 4096 := Nat.mod_lt _ (by decide)
    unfold P_X7_put_87
    rw [h1]
    refine ⟨fun c => absurd ((nI_leI (a := 1536) (by decide) (by omega)).mp c) (by omega), fun _ => ⟨vp_in_nI hr (by decide), vp_in_nI hr (by decide), vp_in_nI hr (by decide), ?_⟩⟩
    rw [nI_1]
    intro y hy
    subst hy
    refine ⟨vp_in_nI hs (by decide), ?_⟩
    rw [nI_clamp (by omega), nI_clamp (by omega)]
    have eE : addE E q m = E ++ [q] := by unfold addE; rw [if_neg (fun o => o.elim hm hnot)]
    have hne : ∀ i, i < E.length → sl i ≠ (hsh q + d) % 4096 := by
      intro i hi e
      have := (h6 i hi).2.2.1
      rw [e, hz] at this
      exact absurd this.symm (nI_ne0 (by omega) (by omega))
    refine hp _ _ _ _ _ ?_
    rw [eE]
    refine ⟨by simp, by simp; omega, ?_, ?_, ?_, fun i => if i = E.length then (hsh q + d) % 4096 else sl i, ?_, ?_⟩
    · rw [List.nodup_append]
      exact ⟨h3, by simp, fun a ha b hb => by simp at hb; subst hb; exact fun e => hnot (e ▸ ha)⟩
    · intro z hz
      have z1 : z ∉ E := fun q' => hz (List.mem_append_left _ q')
      have z2 : z ≠ q := fun e => hz (by rw [e]; simp)
      unfold addA
      rw [if_neg z2, h4 z z1]
    · intro i hi
      rw [List.length_append, List.length_singleton] at hi
      by_cases c : i = E.length
      · subst c
        rw [app_hi, u_at, uL_at]
        refine ⟨rfl, hq, ?_⟩
        unfold addA
        rw [if_pos rfl, h4 q hnot]
        simp
      · have hi2 : i < E.length := by omega
        rw [app_lo hi2, u_ne c, uL_ne c]
        obtain ⟨a1, a2, a3⟩ := h5 i hi2
        refine ⟨a1, a2, ?_⟩
        unfold addA
        rw [if_neg (show ¬ E.getD i 0 = q from fun e => hnot (e ▸ getD_mem hi2)), a3]
    · intro i hi
      rw [List.length_append, List.length_singleton] at hi
      by_cases c : i = E.length
      · subst c
        simp only [if_true]
        refine ⟨u_at, hs, u_at, d, hd, by rw [app_hi], fun d' hd' => ?_⟩
        rw [app_hi]
        by_cases c2 : (hsh q + d') % 4096 = (hsh q + d) % 4096
        · rw [c2, u_at]
          exact nI_ne0 (by omega) (by omega)
        · rw [u_ne c2]
          exact hpath d' hd'
      · have hi2 : i < E.length := by omega
        simp only [c, if_false]
        obtain ⟨a1, a2, a3, d2, b1, b2, b3⟩ := h6 i hi2
        refine ⟨by rw [u_ne c]; exact a1, a2, by rw [u_ne (hne i hi2)]; exact a3, d2, b1, by rw [app_lo hi2]; exact b2, fun d' hd' => ?_⟩
        rw [app_lo hi2]
        by_cases c2 : (hsh (E.getD i 0) + d') % 4096 = (hsh q + d) % 4096
        · rw [c2, u_at]
          exact nI_ne0 (by omega) (by omega)
        · rw [u_ne c2]
          exact b3 d' hd'
    · intro x hx
      by_cases c : x = (hsh q + d) % 4096
      · exact Or.inr ⟨E.length, by simp, by simp [c]⟩
      · rw [u_ne c]
        rcases h7 x hx with a | ⟨i, hi, a⟩
        · exact Or.inl a
        · exact Or.inr ⟨i, by simp; omega, by simp only; rw [if_neg (by omega)]; exact a⟩
  have L : ∀ k d, d + k = 4096 → (∀ d', d' < d → tb ((hsh q + d') % 4096) ≠ 0) → (∀ d', d' < d → ∀ i, i < E.length → sl i = (hsh q + d') % 4096 → E.getD i 0 ≠ q) → P_X7_put_19 (nI q) m post (fun x4_ a_size a_states a_parts a_slotOf a_table => P_X7_put_87 (nI q) m post x4_ a_size a_states a_parts a_slotOf a_table) sz st pa so tb (k + 1) (nI ((hsh q + d) % 4096)) (nI d) := by
    intro k
    induction k with
    | zero =>
      intro d hd hpath _
      exfalso
      have hc : ∀ d', d' < 4096 → ∃ i, i < E.length ∧ (hsh q + d') % 4096 = sl i := by
        intro d' hd'
        rcases h7 _ (Nat.mod_lt (hsh q + d') (by decide)) with a | a
        · exact absurd a (hpath d' (by omega))
        · exact a
      have := holes E.length 4096 (fun d' => if h : d' < 4096 then (hc d' h).choose else 0) (fun i hi => by
        simp only [hi, dif_pos]
        exact (hc i hi).choose_spec.1) (fun i j hij hj e => by
        simp only [hj, show i < 4096 by omega, dif_pos] at e
        have e1 := (hc i (by omega)).choose_spec.2
        have e2 := (hc j hj).choose_spec.2
        rw [e, ← e2] at e1
        omega)
      omega
    | succ k ih =>
      intro d hd hpath hno
      have hs : (hsh q + d) % 4096 < 4096 := Nat.mod_lt _ (by decide)
      refine ⟨fun c => absurd ((nI_leI (a := 4096) (by decide) (by omega)).mp c) (by omega), fun _ => ⟨vp_in_nI hs (by decide), ?_⟩⟩
      rw [nI_clamp (by omega)]
      refine ⟨fun c => ?_, fun c => ⟨vp_in_nI hs (by decide), ?_⟩⟩
      · refine ins d (by omega) hpath ?_ c
        intro hmem
        obtain ⟨i, hi, he⟩ := mem_getD hmem
        obtain ⟨a1, a2, a3, d2, b1, b2, b3⟩ := h6 i hi
        rw [he] at b2 b3
        rcases Nat.lt_trichotomy d2 d with z | z | z
        · exact hno d2 z i hi b2 he
        · subst z
          rw [b2, c] at a3
          exact absurd a3.symm (nI_ne0 (by omega) (by omega))
        · exact b3 d z c
      · obtain ⟨i, hi, he⟩ : ∃ i, i < E.length ∧ (hsh q + d) % 4096 = sl i := by
          rcases h7 _ hs with a | a
          · exact absurd a c
          · exact a
        obtain ⟨a1, a2, a3, -⟩ := h6 i hi
        obtain ⟨g1, g2, g3⟩ := h5 i hi
        rw [he, a3, nI_pred]
        intro y hy
        subst hy
        refine ⟨vp_in_nI (by omega) (by decide), ?_⟩
        rw [nI_clamp (by omega), g1]
        refine ⟨fun c2 => ?_, fun c2 => ⟨vp_in_nI (by omega) (by decide), vp_in_nI (by omega) (by decide), ?_⟩⟩
        · intro z hz
          rw [← he, nI_1, and4095 (by omega), mod_step] at hz
          subst hz
          rw [nI_1]
          refine ih (d + 1) (by omega) (fun d' hd' => ?_) (fun d' hd' j hj e => ?_)
          · by_cases e : d' = d
            · subst e; exact c
            · exact hpath d' (by omega)
          · by_cases e' : d' = d
            · subst e'
              have : j = i := by
                have q1 := (h6 j hj).2.2.1
                rw [e, he, a3] at q1
                have := (nI_eq (by omega) (by omega)).mp q1
                omega
              subst this
              exact fun e3 => c2 (by rw [e3])
            · exact hno d' (by omega) j hj e
        · have e3 : E.getD i 0 = q := (nI_eq (by omega) (by omega)).mp c2
          have hmem : q ∈ E := e3 ▸ getD_mem hi
          refine hp _ _ _ _ _ ?_
          have eE : addE E q m = E := by unfold addE; rw [if_pos (Or.inr hmem)]
          rw [eE]
          refine ⟨h1, h2, h3, fun z hz => ?_, fun j hj => ?_, sl, h6, h7⟩
          · unfold addA
            rw [if_neg (show ¬ z = q from fun e => hz (e ▸ hmem)), h4 z hz]
          · obtain ⟨f1, f2, f3⟩ := h5 j hj
            refine ⟨f1, f2, ?_⟩
            unfold addA
            by_cases c4 : j = i
            · subst c4
              rw [uL_at, if_pos e3, g3]
            · rw [uL_ne c4, if_neg (show ¬ E.getD j 0 = q from fun e => c4 (getD_inj h3 hj hi (e.trans e3.symm))), f3]
  have := L 4096 0 (by omega) (fun d' hd' => by omega) (fun d' hd' => by omega)
  rw [show (hsh q + 0) % 4096 = hsh q by omega] at this
  exact ⟨4097, this⟩
theorem c_wipe {E : List Nat} {D : Nat → Int64} {sz : Int32} {st : Nat → Int32} {pa : Nat → Int64} {so tb : Nat → Int32} (h : SP E D sz st pa so tb) {post : Int32 → (Nat → Int32) → Prop} (hp : ∀ tb' : Nat → Int32, SP [] (fun _ => 0) 0 st pa so tb' → post 0 tb') : P_X7_wipe sz so tb post := by
  obtain ⟨h1, h2, h3, h4, h5, sl, h6, h7⟩ := h
  have L : ∀ (k i : Nat) (tb' : Nat → Int32), i + k = E.length → (∀ x, x < 4096 → tb' x = 0 ∨ ∃ j, i ≤ j ∧ j < E.length ∧ x = sl j) → P_X7_wipe_2 so post sz (k + 1) (nI i) tb' := by
    intro k
    induction k with
    | zero =>
      intro i tb' hi ht
      refine ⟨fun _ => hp tb' ⟨rfl, by simp, List.nodup_nil, fun _ _ => rfl, fun i hi => by simp at hi, fun _ => 0, fun i hi => by simp at hi, fun x hx => ?_⟩, fun c => absurd ?_ c⟩
      · rcases ht x hx with a | ⟨j, j1, j2, -⟩
        · exact Or.inl a
        · omega
      · rw [h1]
        exact nI_le (by omega) (by omega)
    | succ k ih =>
      intro i tb' hi ht
      obtain ⟨a1, a2, -⟩ := h6 i (by omega)
      refine ⟨fun c => absurd ((cmp_le h1 (by omega) (by omega)).mp c) (by omega), fun _ => ⟨vp_in_nI (by omega) (by omega), ?_⟩⟩
      rw [nI_clamp (by omega), a1]
      refine ⟨vp_in_nI a2 (by decide), ?_⟩
      rw [nI_clamp (by omega), nI_1]
      refine ih (i + 1) _ (by omega) (fun x hx => ?_)
      by_cases e : x = sl i
      · rw [e, u_at]
        exact Or.inl rfl
      · rw [u_ne e]
        rcases ht x hx with a | ⟨j, j1, j2, j3⟩
        · exact Or.inl a
        · refine Or.inr ⟨j, ?_, j2, j3⟩
          have : j ≠ i := fun q => e (by rw [j3, q])
          omega
  exact ⟨E.length + 1, L E.length 0 tb (by omega) (fun x hx => by
    rcases h7 x hx with a | ⟨i, hi, a⟩
    · exact Or.inl a
    · exact Or.inr ⟨i, Nat.zero_le _, hi, a⟩)⟩
end
section
/-! sums of longs (with wrap-around: a commutative ring) -/
def sumL (f : Nat → Int64) : Nat → Int64
  | 0 => 0
  | k + 1 => sumL f k + f k
def sumE (E : List Nat) (f : Nat → Int64) : Int64 := match E with
  | [] => 0
  | q :: E => f q + sumE E f
theorem sumL_cong {f g : Nat → Int64} : ∀ {n : Nat}, (∀ k, k < n → f k = g k) → sumL f n = sumL g n
  | 0, _ => rfl
  | n + 1, h => by rw [sumL, sumL, sumL_cong (fun k hk => h k (Nat.lt_succ_of_lt hk)), h n (Nat.lt_succ_self n)]
theorem sumL_zero {f : Nat → Int64} : ∀ {n : Nat}, (∀ k, k < n → f k = 0) → sumL f n = 0
  | 0, _ => rfl
  | n + 1, h => by rw [sumL, sumL_zero (fun k hk => h k (Nat.lt_succ_of_lt hk)), h n (Nat.lt_succ_self n)]; rfl
theorem sumL_add (f g : Nat → Int64) : ∀ n : Nat, sumL (fun k => f k + g k) n = sumL f n + sumL g n
  | 0 => rfl
  | n + 1 => by rw [sumL, sumL, sumL, sumL_add f g n]; grind
theorem sumL_mul (c : Int64) (f : Nat → Int64) : ∀ n : Nat, sumL (fun k => c * f k) n = c * sumL f n
  | 0 => by simp [sumL]
  | n + 1 => by rw [sumL, sumL, sumL_mul c f n]; grind
theorem sumL_one {f : Nat → Int64} {i : Nat} : ∀ {n : Nat}, i < n → (∀ k, k < n → k ≠ i → f k = 0) → sumL f n = f i
  | 0, h, _ => absurd h (Nat.not_lt_zero i)
  | n + 1, h, hz => by
    rw [sumL]
    by_cases e : i = n
    · subst e
      rw [sumL_zero (fun k hk => hz k (by omega) (by omega))]
      grind
    · rw [sumL_one (n := n) (by omega) (fun k hk hne => hz k (by omega) hne), hz n (by omega) (by omega)]
      grind
theorem sumL_off {f : Nat → Int64} {i n : Nat} (hi : i < n) : sumL f n = f i + sumL (fun k => if k = i then 0 else f k) n := by
  have h1 : sumL f n = sumL (fun k => (if k = i then f i else 0) + (if k = i then 0 else f k)) n := sumL_cong (fun k _ => by
    by_cases e : k = i
    · subst e; simp
    · simp [e])
  rw [h1, sumL_add, sumL_one (i := i) hi (fun k _ hne => by simp [hne])]
  simp
theorem sumE_cong {f g : Nat → Int64} : ∀ {E : List Nat}, (∀ q, q ∈ E → f q = g q) → sumE E f = sumE E g
  | [], _ => rfl
  | a :: E, h => by rw [sumE, sumE, sumE_cong (E := E) (fun q hq => h q (List.mem_cons_of_mem _ hq)), h a List.mem_cons_self]
theorem sumE_add (f g : Nat → Int64) : ∀ E : List Nat, sumE E (fun k => f k + g k) = sumE E f + sumE E g
  | [] => rfl
  | a :: E => by rw [sumE, sumE, sumE, sumE_add f g E]; grind
theorem sumE_app (f : Nat → Int64) : ∀ E F : List Nat, sumE (E ++ F) f = sumE E f + sumE F f
  | [], F => by simp [sumE]
  | a :: E, F => by rw [List.cons_append, sumE, sumE, sumE_app f E F]; grind
theorem sumE_range {n : Nat} : ∀ {E : List Nat} {f : Nat → Int64}, E.Nodup → (∀ q, q ∈ E → q < n) → (∀ q, q < n → q ∉ E → f q = 0) → sumE E f = sumL f n
  | [], f, _, _, h => (sumL_zero (fun k hk => h k hk (by simp))).symm
  | a :: E, f, hn, hl, h => by
    rw [List.nodup_cons] at hn
    rw [sumE, sumL_off (i := a) (hl a List.mem_cons_self)]
    have ih := sumE_range (n := n) (E := E) (f := fun k => if k = a then 0 else f k) hn.2 (fun q hq => hl q (List.mem_cons_of_mem _ hq)) (fun q hq hne => by
      by_cases e : q = a
      · simp [e]
      · simp only [e, if_false]
        exact h q hq (by simp [e, hne]))
    rw [← ih]
    congr 1
    exact sumE_cong (fun q hq => by rw [if_neg (show ¬ q = a from fun e => hn.1 (e ▸ hq))])
end
section
/-! the class's Night: looking at a whole rail -/
theorem ok13 {v : Rl} (hv : okV v) : v 13 0 ≤ 10 := hv.1.2.2.2.2.2.2.2.2.2.2.2.2.2.1
theorem ok14 {v : Rl} (hv : okV v) : v 14 0 ≤ 6 := hv.1.2.2.2.2.2.2.2.2.2.2.2.2.2.2.1
theorem ok12 {v : Rl} (hv : okV v) : v 12 0 ≤ 5 := hv.1.2.2.2.2.2.2.2.2.2.2.2.2.1
theorem ok11 {v : Rl} (hv : okV v) : v 11 0 ≤ 5 := hv.1.2.2.2.2.2.2.2.2.2.2.2.1
theorem ok0 {v : Rl} (hv : okV v) : v 0 0 ≤ 20 := hv.1.1
theorem ok1 {v : Rl} (hv : okV v) : v 1 0 ≤ 60 := hv.1.2.1
theorem ok2 {v : Rl} (hv : okV v) : v 2 0 ≤ 1600 := hv.1.2.2.1
theorem ok4 {v : Rl} (hv : okV v) : v 4 0 ≤ 999 := hv.1.2.2.2.2.1
theorem ok5 {v : Rl} (hv : okV v) : v 5 0 ≤ 100 := hv.1.2.2.2.2.2.1
theorem ok6 {v : Rl} (hv : okV v) : v 6 0 ≤ 1 := hv.1.2.2.2.2.2.2.1
theorem ok7 {v : Rl} (hv : okV v) : v 7 0 ≤ 1 := hv.1.2.2.2.2.2.2.2.1
theorem ok8 {v : Rl} (hv : okV v) : v 8 0 ≤ 999 := hv.1.2.2.2.2.2.2.2.2.1
theorem ok9 {v : Rl} (hv : okV v) : v 9 0 ≤ 99 := hv.1.2.2.2.2.2.2.2.2.2.1
theorem ok10 {v : Rl} (hv : okV v) : v 10 0 ≤ 1 := hv.1.2.2.2.2.2.2.2.2.2.2.1
theorem ok15 {v : Rl} (hv : okV v) : v 15 0 ≤ 1 := hv.1.2.2.2.2.2.2.2.2.2.2.2.2.2.2.2.1
theorem c_lookAtBaited {v : Rl} {rs : Nat → Int32} {ra : Nat → Nat → Int32} (hR : RelC v rs ra) (hv : okV v) {ns : Nat → Int32} {na : Nat → Nat → Int32} {s : Nat} (hs : s ≤ 9999) {post : (Nat → Int32) → (Nat → Nat → Int32) → Prop}
    (h : ∀ nb : Nat → Nat → Int32, NR v s (va_up ns 0 (nI (v 13 0))) nb → (∀ j, 5 ≤ j → nb j = na j) → post (va_up ns 0 (nI (v 13 0))) nb) : P_X3_lookAtBaited ns na rs ra (nI s) post := by
  have h13 := ok13 hv
  have h14 := ok14 hv
  have e13 := rc_s hR 13
  have e14 := rc_s hR 14
  intro x hx
  rw [e13] at hx
  subst hx
  rw [e13]
  refine c_markedOnes h13 (fun b hb => ⟨(hR.2.2.2.2.1 b hb).2.2.2.2, (hv.2.2.2.2.1 b hb).2.2.2.2⟩) ?_
  -- the thieves
  have T : ∀ (k i : Nat) (nb : Nat → Nat → Int32), i + k = v 14 0 → (∀ b, b < v 13 0 → nb 0 b = nI (light v (v 22 b)) ∧ nb 1 b = nI (gain v b)) → (∀ t, t < i → OL nb t (ordl v s t (v 13 0 + 1))) → (∀ j, 5 ≤ j → nb j = na j) → P_X3_lookAtBaited_78 rs ra (nI s) post (va_up ns 0 (nI (v 13 0))) (k + 1) (nI i) nb := by
    intro k
    induction k with
    | zero =>
      intro i nb hi g1 g2 g3
      obtain rfl : i = v 14 0 := by omega
      exact ⟨fun _ => h nb ⟨up_at, g1, g2⟩ g3, fun c => absurd ((cmp_le e14 (by omega) (by omega)).mpr (Nat.le_refl _)) c⟩
    | succ k ih =>
      intro i nb hi g1 g2 g3
      refine ⟨fun c => absurd ((cmp_le e14 (by omega) (by omega)).mp c) (by omega), fun _ => ?_⟩
      refine c_orderFor hR hv hs (by omega) up_at g1 (fun nc q1 q2 q3 q4 => ?_)
      rw [nI_1]
      refine ih (i + 1) nc (by omega) (fun b hb => ?_) (fun t ht => ?_) (fun j hj => by rw [q2 j (by omega) (by omega) (by omega), g3 j hj])
      · rw [q2 0 (by decide) (by decide) (by decide), q2 1 (by decide) (by decide) (by decide)]
        exact g1 b hb
      · by_cases e : t = i
        · subst e; exact q1
        · exact OL_eq (g2 t (by omega)) (q3 t e) (fun x hx => q4 _ (by omega))
  have L : ∀ (k i : Nat) (nb : Nat → Nat → Int32), i + k = v 13 0 → (∀ b, b < i → nb 0 b = nI (light v (v 22 b)) ∧ nb 1 b = nI (gain v b)) → (∀ j, 5 ≤ j → nb j = na j) → P_X3_lookAtBaited_22 rs ra (nI s) post (fun (ns : Nat → Int32) (x4_ : Int32) (na : Nat → Nat → Int32) => (∃ n : Nat, P_X3_lookAtBaited_78 rs ra (nI s) post ns n x4_ na)) (nI (nMarked v)) (va_up ns 0 (nI (v 13 0))) (k + 1) (nI i) nb := by
    intro k
    induction k with
    | zero =>
      intro i nb hi g1 g3
      obtain rfl : i = v 13 0 := by omega
      refine ⟨fun _ => ⟨v 14 0 + 1, T (v 14 0) 0 nb (by omega) g1 (fun t ht => by omega) g3⟩, fun c => absurd ((cmp_le e13 (by omega) (by omega)).mpr (Nat.le_refl _)) c⟩
    | succ k ih =>
      intro i nb hi g1 g3
      have hib : i < v 13 0 := by omega
      refine ⟨fun c => absurd ((cmp_le e13 (by omega) (by omega)).mp c) (by omega), fun _ => ⟨vp_in_nI (by omega) (by omega), ?_⟩⟩
      rw [nI_clamp (by omega), (hR.2.2.2.2.1 i hib).2.2.1]
      refine c_lightOf hR hv (hv.2.2.2.2.1 i hib).2.2.1 ⟨vp_in_nI (by omega) (by omega), ?_⟩
      refine c_gainOf hR hv hib ⟨vp_in_nI (by omega) (by omega), ?_⟩
      rw [nI_1]
      refine ih (i + 1) _ (by omega) (fun b hb => ?_) (fun j hj => ?_)
      · rw [up_ne (by decide), up_at, up_at]
        by_cases e : b = i
        · subst e; rw [u_at, u_at]; exact ⟨rfl, rfl⟩
        · rw [u_ne e, u_ne e]; exact g1 b (by omega)
      · rw [up_ne (by omega), up_ne (by omega)]
        exact g3 j hj
  exact ⟨v 13 0 + 1, L (v 13 0) 0 na (by omega) (fun b hb => by omega) (fun _ _ => rfl)⟩
theorem c_lookAt {v : Rl} {rs : Nat → Int32} {ra : Nat → Nat → Int32} (hR : RelC v rs ra) (hv : okV v) {ns : Nat → Int32} {na : Nat → Nat → Int32} {post : (Nat → Int32) → (Nat → Nat → Int32) → Prop}
    (h : ∀ nb : Nat → Nat → Int32, NR v 0 (va_up ns 0 (nI (v 13 0))) nb → (∀ j, 5 ≤ j → nb j = na j) → post (va_up ns 0 (nI (v 13 0))) nb) : P_X3_lookAt ns na rs ra post := c_lookAtBaited (s := 0) hR hv (by omega) h
theorem c_pickN {v : Rl} {s : Nat} {ns : Nat → Int32} {na : Nat → Nat → Int32} (hN : NR v s ns na) {t g : Nat} (ht : t < v 14 0) (ht6 : v 14 0 ≤ 6) (hg : g < 2 ^ 31) {post : Int32 → Prop} (hp : post (oI (tk v s t g))) : P_X3_pick na (nI t) (nI g) post := c_pick (hN.2.2 t ht) (by omega) hg hp
end
section
/-! a thief's step: PARTS by states (gone: the low 11 bits; caught: above them) -/
def who (v : Rl) (s t q : Nat) : Option Nat := if q.testBit (11 + t) then none else tk v s t (q % 2048)
def cmP (v : Rl) (t : Nat) (p : Int64) : Int64 := p * lN (v 26 t) / 100
def ctP (ct : Nat) (p : Int64) : Int64 := p * lN ct / 100
/-- what a state's PARTS change -/
def chg (v : Rl) (s ct t q : Nat) (p : Int64) : List (Nat × Int64) := match who v s t q with
  | none => []
  | some b => if b = v 13 0 then [(q, -(cmP v t p)), (q ||| 2 ^ b ||| 2 ^ (11 + t), ctP ct (cmP v t p)), (q ||| 2 ^ b, cmP v t p - ctP ct (cmP v t p))] else [(q, -(cmP v t p)), (q ||| 2 ^ b, cmP v t p)]
def evl : List (Nat × Int64) → Nat → Int64
  | [], _ => 0
  | a :: L, x => (if x = a.1 then a.2 else 0) + evl L x
/-- how many states there may be -/
def N17 : Nat := 131072
def stp (v : Rl) (s ct t : Nat) (D : Nat → Int64) : Nat → Int64 := fun x => D x + sumL (fun q => evl (chg v s ct t q (D q)) x) N17
def hst (v : Rl) (s t : Nat) (D : Nat → Int64) (b : Nat) : Int64 := sumL (fun q => if who v s t q = some b then cmP v t (D q) else 0) N17
theorem cmP_0 (v : Rl) (t : Nat) : cmP v t 0 = 0 := by
  unfold cmP
  rw [Int64.zero_mul]
  rfl
theorem ctP_0 (ct : Nat) : ctP ct 0 = 0 := by
  unfold ctP
  rw [Int64.zero_mul]
  rfl
theorem chg_0 (v : Rl) (s ct t q x : Nat) : evl (chg v s ct t q 0) x = 0 := by
  unfold chg
  rw [cmP_0, ctP_0]
  split
  · rfl
  · split <;> simp [evl]
/-- weights: how many states may come of one -/
def wpr (q : Nat) : Nat → Nat
  | 0 => 1
  | m + 1 => (if q.testBit (11 + (5 - m)) then 1 else 2) * wpr q m
def wgt (v : Rl) (t q : Nat) : Nat := (if q.testBit (v 13 0) then 1 else 2) * wpr q (6 - t)
def wsm (v : Rl) (t : Nat) : List Nat → Nat
  | [] => 0
  | q :: E => wgt v t q + wsm v t E
theorem wpr_pos (q : Nat) : ∀ m, 1 ≤ wpr q m
  | 0 => Nat.le_refl 1
  | m + 1 => by
    have := wpr_pos q m
    unfold wpr
    split <;> omega
theorem wgt_pos (v : Rl) (t q : Nat) : 1 ≤ wgt v t q := by
  have := wpr_pos q (6 - t)
  unfold wgt
  split <;> omega
theorem wpr_cong {q r : Nat} : ∀ {m : Nat}, (∀ j, 5 < j + m → j ≤ 5 → q.testBit (11 + j) = r.testBit (11 + j)) → wpr q m = wpr r m
  | 0, _ => rfl
  | m + 1, h => by
    unfold wpr
    rw [wpr_cong (m := m) (fun j h1 h2 => h j (by omega) h2), h (5 - m) (by omega) (by omega)]
theorem wgt_step (v : Rl) {t q : Nat} (ht : t < 6) : wgt v t q = (if q.testBit (v 13 0) then 1 else 2) * ((if q.testBit (11 + t) then 1 else 2) * wpr q (6 - (t + 1))) := by
  unfold wgt
  rw [show 6 - t = (6 - (t + 1)) + 1 by omega, wpr, show 5 - (6 - (t + 1)) = t by omega]
theorem wsm_app (v : Rl) (t : Nat) : ∀ E F : List Nat, wsm v t (E ++ F) = wsm v t E + wsm v t F
  | [], F => by simp [wsm]
  | a :: E, F => by rw [List.cons_append, wsm, wsm, wsm_app v t E F, Nat.add_assoc]
theorem wsm_len (v : Rl) (t : Nat) : ∀ E : List Nat, E.length ≤ wsm v t E
  | [] => Nat.le_refl 0
  | a :: E => by
    have := wsm_len v t E
    have := wgt_pos v t a
    rw [wsm, List.length_cons]
    omega
theorem wsm_add (v : Rl) (t : Nat) (E : List Nat) (q : Nat) (m : Int64) : wsm v t (addE E q m) ≤ wsm v t E + wgt v t q := by
  unfold addE
  split
  · omega
  · rw [wsm_app]; simp [wsm]
theorem wgt_none {v : Rl} {t q : Nat} (ht : t < 6) : wgt v (t + 1) q ≤ wgt v t q := by
  rw [wgt_step v ht]
  unfold wgt
  apply Nat.mul_le_mul_left
  split <;> omega
theorem tb_or {q b j : Nat} : (q ||| 2 ^ b).testBit j = (q.testBit j || decide (b = j)) := by
  rw [Nat.testBit_or, Nat.testBit_two_pow]
theorem wgt_some {v : Rl} {t q b : Nat} (ht : t < 6) (hb : b < 11) (hne : b ≠ v 13 0) (hq : q.testBit (11 + t) = false) : wgt v (t + 1) q + wgt v (t + 1) (q ||| 2 ^ b) = wgt v t q := by
  rw [wgt_step v ht, hq]
  have e : wpr (q ||| 2 ^ b) (6 - (t + 1)) = wpr q (6 - (t + 1)) := wpr_cong (fun j _ _ => by rw [tb_or, show decide (b = 11 + j) = false by simp; omega, Bool.or_false])
  unfold wgt
  rw [e, tb_or, show decide (b = v 13 0) = false by simp [hne], Bool.or_false]
  split <;> simp <;> omega
theorem wgt_bait {v : Rl} {t q : Nat} (ht : t < 6) (h13 : v 13 0 ≤ 10) (hq : q.testBit (11 + t) = false) (hb : q.testBit (v 13 0) = false) : wgt v (t + 1) q + wgt v (t + 1) (q ||| 2 ^ v 13 0 ||| 2 ^ (11 + t)) + wgt v (t + 1) (q ||| 2 ^ v 13 0) = wgt v t q := by
  rw [wgt_step v ht, hq, hb]
  have e1 : wpr (q ||| 2 ^ v 13 0) (6 - (t + 1)) = wpr q (6 - (t + 1)) := wpr_cong (fun j _ _ => by rw [tb_or, show decide (v 13 0 = 11 + j) = false by simp; omega, Bool.or_false])
  have e2 : wpr (q ||| 2 ^ v 13 0 ||| 2 ^ (11 + t)) (6 - (t + 1)) = wpr q (6 - (t + 1)) := by
    rw [← e1]
    exact wpr_cong (fun j h1 _ => by rw [tb_or, show decide (11 + t = 11 + j) = false by simp; omega, Bool.or_false])
  unfold wgt
  rw [e1, e2, hb]
  have e3 : (q ||| 2 ^ v 13 0).testBit (v 13 0) = true := by rw [tb_or]; simp
  have e4 : (q ||| 2 ^ v 13 0 ||| 2 ^ (11 + t)).testBit (v 13 0) = true := by rw [tb_or, e3]; simp
  rw [e3, e4]
  simp
  omega
end
section
/-! the class's Night: a thief's step over its hash table -/
theorem nI_nm1 {n : Nat} (h : n < 2 ^ 31) : ¬ nI n = -1 := by
  rw [← Int32.toInt_inj, nI_toInt h, show (-1 : Int32).toInt = -1 from rfl]
  omega
theorem sh1 {n : Nat} (h : n < 31) : ((1 : Int32) <<< (nI n &&& 31)) = nI (2 ^ n) := by
  have := pk_shlN (n := 1) (nI n &&& 31) n (sh_c n (by omega)) (by
    have : 2 ^ n ≤ 2 ^ 30 := Nat.pow_le_pow_right (by decide) (by omega)
    omega)
  rw [Nat.one_mul] at this
  exact this
theorem and2047 {q : Nat} (h : q < 2 ^ 31) : nI q &&& 2047 = nI (q % 2048) := by
  have := pk_andN (n := q) (by omega) (m := 2047) 11 (by decide)
  simpa using this
theorem or_lt17 {q b : Nat} (hq : q < 131072) (hb : b < 17) : q ||| 2 ^ b < 131072 := by
  have : 2 ^ b < 2 ^ 17 := Nat.pow_lt_pow_right (by decide) hb
  exact Nat.or_lt_two_pow (n := 17) hq this
theorem tb_mod {q b : Nat} (hb : b < 11) : (q % 2048).testBit b = q.testBit b := by
  rw [show (2048 : Nat) = 2 ^ 11 from rfl, Nat.testBit_mod_two_pow]
  simp [hb]
theorem who_some {v : Rl} {s t q b : Nat} (h : who v s t q = some b) : q.testBit (11 + t) = false ∧ b ≤ v 13 0 ∧ wnt v s t b = true ∧ (q % 2048).testBit b = false := by
  unfold who at h
  split at h
  · exact absurd h (by simp)
  · rename_i c
    exact ⟨by simpa using c, tk_some h⟩
theorem wnt_bait {v : Rl} {s t : Nat} (h : wnt v s t (v 13 0) = true) : 0 < s := by
  unfold wnt at h
  simp at h
  omega
theorem addA_eq (D : Nat → Int64) (q : Nat) (m : Int64) (x : Nat) : addA D q m x = D x + if x = q then m else 0 := by
  unfold addA
  split
  · rfl
  · simp
theorem sumE_take {E : List Nat} {f : Nat → Int64} {i : Nat} (h : i < E.length) : sumE (E.take (i + 1)) f = sumE (E.take i) f + f (E.getD i 0) := by
  rw [List.take_add_one, sumE_app]
  simp [List.getElem?_eq_getElem h, sumE]
theorem wsm_take {v : Rl} {t : Nat} {E : List Nat} {i : Nat} (h : i < E.length) : wsm v t (E.take (i + 1)) = wsm v t (E.take i) + wgt v t (E.getD i 0) := by
  rw [List.take_add_one, wsm_app]
  simp [List.getElem?_eq_getElem h, wsm]
theorem wsm_take_le {v : Rl} {t : Nat} (E : List Nat) (i : Nat) : wsm v t (E.take i) ≤ wsm v t E := by
  have : wsm v t E = wsm v t (E.take i ++ E.drop i) := by rw [List.take_append_drop]
  rw [this, wsm_app]
  omega
theorem sumE_one {D : Nat → Int64} {x : Nat} : ∀ {E : List Nat}, E.Nodup → sumE E (fun q => if x = q then D q else 0) = if x ∈ E then D x else 0
  | [], _ => rfl
  | a :: E, h => by
    rw [List.nodup_cons] at h
    rw [sumE, sumE_one h.2]
    by_cases e : x = a
    · subst e
      simp [h.1]
    · simp [e]
/-- the frame of a step: what of the Night stays -/
def NF (ns : Nat → Int32) (na : Nat → Nat → Int32) (ns' : Nat → Int32) (na' : Nat → Nat → Int32) : Prop := (∀ j, j < 2 → ns' j = ns j) ∧ ∀ j, j < 5 → na' j = na j
theorem NR.frame {v : Rl} {s : Nat} {ns : Nat → Int32} {na : Nat → Nat → Int32} {ns' : Nat → Int32} {na' : Nat → Nat → Int32} (h : NR v s ns na) (hF : NF ns na ns' na') : NR v s ns' na' := by
  obtain ⟨h1, h2, h3⟩ := h
  refine ⟨by rw [hF.1 0 (by decide)]; exact h1, fun b hb => ?_, fun t ht => ?_⟩
  · rw [hF.2 0 (by decide), hF.2 1 (by decide)]; exact h2 b hb
  · exact OL_eq (h3 t ht) (by rw [hF.2 3 (by decide)]) (fun i _ => by rw [hF.2 2 (by decide)])
/-- a Spread that is not looked at now -/
def SPx (sz : Int32) (st : Nat → Int32) (pa : Nat → Int64) (so tb : Nat → Int32) : Prop := ∃ (E : List Nat) (D : Nat → Int64), SP E D sz st pa so tb
def hadI (v : Rl) (s t : Nat) (D : Nat → Int64) (h0 h1 : Nat → Int64) : Prop := (∀ b, b < v 13 0 → h1 (t * 10 + b) = h0 (t * 10 + b) + hst v s t D b) ∧ ∀ x, (x < t * 10 ∨ t * 10 + v 13 0 ≤ x) → h1 x = h0 x
theorem c_letCome {v : Rl} (hv : okV v) {s ct t : Nat} (ht : t < v 14 0) {ns : Nat → Int32} {na : Nat → Nat → Int32} {nl : Nat → Nat → Int64} (hN : NR v s ns na) (hct : 0 < s → ns 1 = nI ct ∧ ct ≤ 100) {E : List Nat} {D : Nat → Int64} (hS : SP E D (ns 2) (na 5) (nl 1) (na 6) (na 7)) (hS2 : SPx (ns 3) (na 8) (nl 2) (na 9) (na 10)) (hw : wsm v t E ≤ 1458) {post : (Nat → Int32) → (Nat → Nat → Int32) → (Nat → Nat → Int64) → Prop}
    (h : ∀ (ns' : Nat → Int32) (na' : Nat → Nat → Int32) (nl' : Nat → Nat → Int64) (E1 : List Nat), SP E1 (stp v s ct t D) (ns' 2) (na' 5) (nl' 1) (na' 6) (na' 7) → SPx (ns' 3) (na' 8) (nl' 2) (na' 9) (na' 10) → wsm v (t + 1) E1 ≤ 1458 → NF ns na ns' na' → hadI v s t D (nl 0) (nl' 0) → post ns' na' nl') : P_X3_letCome ns na nl (nI t) (nI (v 26 t)) post := by
  have h13 := ok13 hv
  have h14 := ok14 hv
  have hcm : v 26 t ≤ 100 := (hv.2.2.2.2.2.1 t ht).2.1
  obtain ⟨E2, D2, hS2⟩ := hS2
  have hSk := hS
  obtain ⟨s1, s2, s3, s4, s5, -⟩ := hS
  refine c_wipe hS2 (fun tb' hT => ?_)
  -- one state
  have one : ∀ (i q : Nat) (R9 : (Int32) → (Nat → Int32) → (Nat → Nat → Int32) → (Nat → Nat → Int64) → Prop) (nx : Nat → Int32) (ax : Nat → Nat → Int32) (lx : Nat → Nat → Int64) (E1 : List Nat) (D1 : Nat → Int64), q < 131072 → SP E1 D1 (nx 3) (ax 8) (lx 2) (ax 9) (ax 10) → wsm v (t + 1) E1 + wgt v t q ≤ 1458 → nx 0 = ns 0 → nx 1 = ns 1 →
      (∀ (ny : Nat → Int32) (ay : Nat → Nat → Int32) (ly : Nat → Nat → Int64) (E2 : List Nat), SP E2 (fun x => D1 x + ((if x = q then D q else 0) + evl (chg v s ct t q (D q)) x)) (ny 3) (ay 8) (ly 2) (ay 9) (ay 10) → wsm v (t + 1) E2 ≤ wsm v (t + 1) E1 + wgt v t q → (∀ j, j ≠ 3 → ny j = nx j) → (∀ j, j < 8 → ay j = ax j) → (∀ j, j ≠ 0 → j ≠ 2 → ly j = lx j) → (∀ b, b < v 13 0 → ly 0 (t * 10 + b) = lx 0 (t * 10 + b) + if who v s t q = some b then cmP v t (D q) else 0) → (∀ x, (x < t * 10 ∨ t * 10 + v 13 0 ≤ x) → ly 0 x = lx 0 x) → R9 (nI (i + 1)) ny ay ly) →
      P_X3_letCome_66 (nI t) (nI (v 26 t)) post R9 (nI i) (nI q) (D q) (oI (who v s t q)) nx ax lx := by
    intro i q R9 nx ax lx E1 D1 hq hP hw1 n0 n1 kk
    have hlen := wsm_len v (t + 1) E1
    cases hwho : who v s t q with
    | none =>
      have hwn := wgt_none (v := v) (q := q) (t := t) (by omega)
      have hp1 := wgt_pos v t q
      refine ⟨fun c => absurd rfl c, fun _ => ?_⟩
      refine c_put hP hq (by omega) (fun sz st pa so tb hP2 => ?_)
      rw [nI_1]
      refine kk _ _ _ (addE E1 q (D q)) ?_ ?_ (fun j hj => up_ne hj) (fun j hj => by rw [up_ne (by omega), up_ne (by omega), up_ne (by omega)]) (fun j h0 h2 => up_ne h2) (fun b hb => ?_) (fun x hx => by rw [up_ne (by decide)])
      · rw [up_at, up_at, up_at, up_ne (by decide), up_ne (by decide), up_at, up_ne (by decide), up_at]
        have : (fun x => D1 x + ((if x = q then D q else 0) + evl (chg v s ct t q (D q)) x)) = addA D1 q (D q) := by
          funext x
          rw [addA_eq]
          unfold chg
          rw [hwho]
          simp [evl]
        rw [this]
        exact hP2
      · have := wsm_add v (t + 1) E1 q (D q)
        omega
      · rw [up_ne (by decide), hwho]
        simp
    | some b =>
      obtain ⟨w1, w2, w3, w4⟩ := who_some hwho
      rw [tb_mod (by omega)] at w4
      have hcome : (D q * (nI (v 26 t)).toInt64) / 100 = cmP v t (D q) := by rw [nI_l (by omega)]; rfl
      have hp1 := wgt_pos v (t + 1) q
      have hp2 := wgt_pos v (t + 1) (q ||| 2 ^ b)
      have hp3 := wgt_pos v (t + 1) (q ||| 2 ^ b ||| 2 ^ (11 + t))
      have hor := or_lt17 (b := b) hq (by omega)
      have ealt : nI q ||| ((1 : Int32) <<< (nI b &&& 31)) = nI (q ||| 2 ^ b) := by rw [sh1 (by omega), fa_or]
      refine ⟨fun _ => ?_, fun c => absurd c (nI_nm1 (by omega))⟩
      rw [hcome]
      intro x2 hx2
      subst hx2
      by_cases hb : b = v 13 0
      · have hg := wgt_bait (v := v) (t := t) (q := q) (by omega) h13 w1 (hb ▸ w4)
        rw [← hb] at hg
        obtain ⟨c1, c2⟩ := hct (wnt_bait (hb ▸ w3))
        refine c_put hP hq (by omega) (fun sz st pa so tb hP2 => ?_)
        have hl2 := wsm_add v (t + 1) E1 q (D q - cmP v t (D q))
        have hlen2 := wsm_len v (t + 1) (addE E1 q (D q - cmP v t (D q)))
        intro x1 hx1
        have hx1' : x1 = nI (q ||| 2 ^ b) := hx1.trans ealt
        subst hx1'
        have e0 : (va_up nx 3 sz) 0 = nI (v 13 0) := by rw [up_ne (by decide), n0]; exact hN.1
        rw [e0]
        refine ⟨fun c => absurd (by show nI b = _; rw [hb]) c, fun _ => ?_⟩
        rw [show (va_up nx 3 sz) 1 = nI ct by rw [up_ne (by decide), n1]; exact c1]
        intro x8 hx8
        have hx8' : x8 = ctP ct (cmP v t (D q)) := by rw [hx8, nI_l (by omega)]; rfl
        subst hx8'
        show P_X7_put _ _ _ _ _ (nI (q ||| 2 ^ b) ||| ((1 : Int32) <<< ((11 + nI t) &&& 31))) _ _
        rw [show (11 : Int32) + nI t = nI (11 + t) from nI_add 11 t, sh1 (by omega), fa_or]
        rw [up_at, up_at, up_at, up_ne (by decide), up_ne (by decide), up_at, up_ne (by decide), up_at]
        have hl3 := wsm_add v (t + 1) (addE E1 q (D q - cmP v t (D q))) (q ||| 2 ^ b ||| 2 ^ (11 + t)) (ctP ct (cmP v t (D q)))
        have hlen3 := wsm_len v (t + 1) (addE (addE E1 q (D q - cmP v t (D q))) (q ||| 2 ^ b ||| 2 ^ (11 + t)) (ctP ct (cmP v t (D q))))
        refine c_put hP2 (or_lt17 hor (by omega)) (by omega) (fun sz3 st3 pa3 so3 tb3 hP3 => ?_)
        refine c_put hP3 hor (by omega) (fun sz4 st4 pa4 so4 tb4 hP4 => ?_)
        rw [nI_1]
        refine kk _ _ _ (addE (addE (addE E1 q (D q - cmP v t (D q))) (q ||| 2 ^ b ||| 2 ^ (11 + t)) (ctP ct (cmP v t (D q)))) (q ||| 2 ^ b) (cmP v t (D q) - ctP ct (cmP v t (D q)))) ?_ ?_ (fun j hj => by rw [up_ne hj, up_ne hj]) (fun j hj => by rw [up_ne (by omega), up_ne (by omega), up_ne (by omega), up_ne (by omega), up_ne (by omega), up_ne (by omega)]) (fun j h0 h2 => by rw [up_ne h2, up_ne h2]) (fun b' hb' => ?_) (fun x hx => by rw [up_ne (by decide), up_ne (by decide)])
        · rw [up_at, up_at, up_at, up_ne (by decide), up_ne (by decide), up_at, up_ne (by decide), up_at]
          have : (fun x => D1 x + ((if x = q then D q else 0) + evl (chg v s ct t q (D q)) x)) = addA (addA (addA D1 q (D q - cmP v t (D q))) (q ||| 2 ^ b ||| 2 ^ (11 + t)) (ctP ct (cmP v t (D q)))) (q ||| 2 ^ b) (cmP v t (D q) - ctP ct (cmP v t (D q))) := by
            funext x
            rw [addA_eq, addA_eq, addA_eq]
            unfold chg
            rw [hwho]
            simp only [hb, if_true, evl]
            generalize (if x = q ||| 2 ^ v 13 0 ||| 2 ^ (11 + t) then ctP ct (cmP v t (D q)) else 0) = a1
            generalize (if x = q ||| 2 ^ v 13 0 then cmP v t (D q) - ctP ct (cmP v t (D q)) else 0) = a2
            split <;> grind
          rw [this]
          exact hP4
        · have := wsm_add v (t + 1) (addE (addE E1 q (D q - cmP v t (D q))) (q ||| 2 ^ b ||| 2 ^ (11 + t)) (ctP ct (cmP v t (D q)))) (q ||| 2 ^ b) (cmP v t (D q) - ctP ct (cmP v t (D q)))
          omega
        · rw [up_ne (by decide), up_ne (by decide), hwho, if_neg (by simp; omega)]
          simp
      · have hg := wgt_some (v := v) (t := t) (q := q) (b := b) (by omega) (by omega) hb w1
        refine c_put hP hq (by omega) (fun sz st pa so tb hP2 => ?_)
        have hl2 := wsm_add v (t + 1) E1 q (D q - cmP v t (D q))
        have hlen2 := wsm_len v (t + 1) (addE E1 q (D q - cmP v t (D q)))
        intro x1 hx1
        have hx1' : x1 = nI (q ||| 2 ^ b) := hx1.trans ealt
        subst hx1'
        have e0 : (va_up nx 3 sz) 0 = nI (v 13 0) := by rw [up_ne (by decide), n0]; exact hN.1
        rw [e0]
        have hix : (nI t * 10) + nI b = nI (t * 10 + b) := by rw [show (10 : Int32) = nI 10 from rfl, pk_mul, nI_add]
        refine ⟨fun _ => ?_, fun c => absurd ((nI_eq (by omega) (by omega)).mp c) hb⟩
        show vp_in ((nI t * 10) + nI b) 60 ∧ (vp_in ((nI t * 10) + nI b) 60 ∧ _)
        rw [show oI (some b) = nI b from rfl, hix]
        refine ⟨vp_in_nI (by omega) (by decide), vp_in_nI (by omega) (by decide), ?_⟩
        rw [up_at, up_at, up_at, up_ne (by decide), up_ne (by decide), up_at, up_ne (by decide), up_at]
        refine c_put hP2 hor (by omega) (fun sz4 st4 pa4 so4 tb4 hP4 => ?_)
        rw [nI_1, nI_clamp (by omega)]
        refine kk _ _ _ (addE (addE E1 q (D q - cmP v t (D q))) (q ||| 2 ^ b) (cmP v t (D q))) ?_ ?_ (fun j hj => by rw [up_ne hj, up_ne hj]) (fun j hj => by rw [up_ne (by omega), up_ne (by omega), up_ne (by omega), up_ne (by omega), up_ne (by omega), up_ne (by omega)]) (fun j h0 h2 => by rw [up_ne h2, up_ne h0, up_ne h2]) (fun b' hb' => ?_) (fun x hx => ?_)
        · rw [up_at, up_at, up_at, up_ne (by decide), up_ne (by decide), up_at, up_ne (by decide), up_at]
          have : (fun x => D1 x + ((if x = q then D q else 0) + evl (chg v s ct t q (D q)) x)) = addA (addA D1 q (D q - cmP v t (D q))) (q ||| 2 ^ b) (cmP v t (D q)) := by
            funext x
            rw [addA_eq, addA_eq]
            unfold chg
            rw [hwho]
            simp only [hb, if_false, evl]
            generalize (if x = q ||| 2 ^ b then cmP v t (D q) else 0) = a2
            split <;> grind
          rw [this]
          exact hP4
        · have := wsm_add v (t + 1) (addE E1 q (D q - cmP v t (D q))) (q ||| 2 ^ b) (cmP v t (D q))
          omega
        · rw [up_ne (by decide), up_at, up_ne (by decide), hwho]
          by_cases e : b' = b
          · subst e
            rw [uL_at, if_pos rfl]
          · rw [uL_ne (by omega), if_neg (by simp; omega)]
            simp
        · rw [up_ne (by decide), up_at, up_ne (by decide), uL_ne (by omega)]
  have L : ∀ (k i : Nat) (nx : Nat → Int32) (ax : Nat → Nat → Int32) (lx : Nat → Nat → Int64) (E1 : List Nat), i + k = E.length → SP E1 (fun x => sumE (E.take i) (fun q => (if x = q then D q else 0) + evl (chg v s ct t q (D q)) x)) (nx 3) (ax 8) (lx 2) (ax 9) (ax 10) → wsm v (t + 1) E1 ≤ wsm v t (E.take i) → (∀ j, j ≠ 3 → nx j = ns j) → (∀ j, j < 8 → ax j = na j) → (∀ j, j ≠ 0 → j ≠ 2 → lx j = nl j) → (∀ b, b < v 13 0 → lx 0 (t * 10 + b) = nl 0 (t * 10 + b) + sumE (E.take i) (fun q => if who v s t q = some b then cmP v t (D q) else 0)) → (∀ x, (x < t * 10 ∨ t * 10 + v 13 0 ≤ x) → lx 0 x = nl 0 x) →
      P_X3_letCome_9 (nI t) (nI (v 26 t)) post (fun ns na nl => P_X3_letCome_130 (nI t) (nI (v 26 t)) post ns na nl) (k + 1) (nI i) nx ax lx := by
    intro k
    induction k with
    | zero =>
      intro i nx ax lx E1 hi g1 g2 g3 g4 g5 g6 g7
      obtain rfl : i = E.length := by omega
      rw [List.take_length] at g1 g2 g6
      refine ⟨fun _ => ?_, fun c => absurd ((cmp_le ((g3 2 (by decide)).trans s1) (by omega) (by omega)).mpr (Nat.le_refl _)) c⟩
      refine h _ _ _ E1 ?_ ⟨E, D, ?_⟩ (Nat.le_trans g2 hw) ⟨fun j hj => ?_, fun j hj => ?_⟩ ⟨fun b hb => ?_, fun x hx => ?_⟩
      · have : stp v s ct t D = fun x => sumE E (fun q => (if x = q then D q else 0) + evl (chg v s ct t q (D q)) x) := by
          funext x
          unfold stp
          rw [sumE_add, sumE_one s3, sumE_range (n := N17) s3 (fun q hq => ?_) (fun q _ hq => by rw [s4 q hq, chg_0])]
          · congr 1
            split
            · rfl
            · rename_i c; exact s4 x c
          · obtain ⟨i, hi, e⟩ := mem_getD hq
            rw [← e]
            exact (s5 i hi).2.1
        rw [this]
        simp only [va_up]
        exact g1
      · simp only [va_up]
        simp only [g3 2 (by decide), g4 5 (by decide), g4 6 (by decide), g4 7 (by decide), g5 1 (by decide) (by decide)]
        exact hSk
      · rw [up_ne (by omega), up_ne (by omega), g3 j (by omega)]
      · rw [up_ne (by omega), up_ne (by omega), up_ne (by omega), up_ne (by omega), up_ne (by omega), up_ne (by omega), g4 j (by omega)]
      · rw [up_ne (by decide), up_ne (by decide), g6 b hb]
        congr 1
        unfold hst
        refine sumE_range (n := N17) s3 (fun q hq => ?_) (fun q _ hq => by rw [s4 q hq, cmP_0]; simp)
        obtain ⟨i, hi, e⟩ := mem_getD hq
        rw [← e]
        exact (s5 i hi).2.1
      · rw [up_ne (by decide), up_ne (by decide), g7 x hx]
    | succ k ih =>
      intro i nx ax lx E1 hi g1 g2 g3 g4 g5 g6 g7
      have hil : i < E.length := by omega
      obtain ⟨a1, a2, a3⟩ := s5 i hil
      have hwt := wsm_take_le (v := v) (t := t) E (i + 1)
      rw [wsm_take hil] at hwt
      refine ⟨fun c => absurd ((cmp_le ((g3 2 (by decide)).trans s1) (by omega) (by omega)).mp c) (by omega), fun _ => ⟨vp_in_nI (by omega) (by omega), ?_⟩⟩
      rw [nI_clamp (by omega), g4 5 (by decide), a1, g5 1 (by decide) (by decide), a3]
      intro x21 h21
      subst h21
      refine ⟨vp_in_nI (by omega) (by omega), ?_⟩
      intro x22 h22
      subst h22
      have cont := one i (E.getD i 0) (P_X3_letCome_9 (nI t) (nI (v 26 t)) post (fun ns na nl => P_X3_letCome_130 (nI t) (nI (v 26 t)) post ns na nl) (k + 1)) nx ax lx E1 _ a2 g1 (by omega) (g3 0 (by decide)) (g3 1 (by decide)) (fun ny ay ly E3 q1 q2 q3 q4 q5 q6 q7 => by
        refine ih (i + 1) ny ay ly E3 (by omega) ?_ (by rw [wsm_take hil]; omega) (fun j hj => (q3 j hj).trans (g3 j hj)) (fun j hj => (q4 j hj).trans (g4 j hj)) (fun j h0 h2 => (q5 j h0 h2).trans (g5 j h0 h2)) (fun b hb => ?_) (fun x hx => (q7 x hx).trans (g7 x hx))
        · simp only [sumE_take hil]
          exact q1
        · rw [q6 b hb, g6 b hb, sumE_take hil, Int64.add_assoc])
      show (((nI (E.getD i 0) &&& ((1 : Int32) <<< ((11 + nI t) &&& 31))) = 0) → _) ∧ ((¬ (nI (E.getD i 0) &&& ((1 : Int32) <<< ((11 + nI t) &&& 31))) = 0) → _)
      rw [show (11 : Int32) + nI t = nI (11 + t) from nI_add 11 t, sh1 (by omega), fa_bit (by omega)]
      refine ⟨fun c => ⟨fun _ => ?_, fun z => absurd rfl z⟩, fun c => ⟨fun z => absurd z (by decide), fun _ => ?_⟩⟩
      · rw [and2047 (by omega)]
        refine c_pickN (hN.frame ⟨fun j hj => g3 j (by omega), fun j hj => g4 j (by omega)⟩) ht h14 (by omega) ?_
        have : who v s t (E.getD i 0) = tk v s t (E.getD i 0 % 2048) := by unfold who; rw [c]; simp
        rw [← this]
        exact cont
      · have : who v s t (E.getD i 0) = none := by unfold who; rw [if_pos (by simpa using c)]
        rw [this] at cont
        exact cont
  refine ⟨E.length + 1, L E.length 0 _ _ _ [] (by omega) ?_ (Nat.zero_le _) (fun j hj => up_ne hj) (fun j hj => up_ne (by omega)) (fun _ _ _ => rfl) (fun b hb => ?_) (fun _ _ => rfl)⟩
  · rw [up_at, up_at, up_ne (by decide), up_ne (by decide)]
    exact hT
  · simp [sumE]
end
section
/-! the class's Night: a night played, and what is asked of it -/
def D1 : Nat → Int64 := fun x => if x = 0 then 1000000000000 else 0
def nD (v : Rl) (s ct : Nat) (D : Nat → Int64) : Nat → Nat → Int64
  | 0 => D
  | t + 1 => stp v s ct t (nD v s ct D t)
def hadN (v : Rl) (t b : Nat) : Int64 := if t < v 14 0 ∧ b < v 13 0 then hst v 0 t (nD v 0 0 D1 t) b else 0
def risk (v : Rl) (b : Nat) : Int64 := sumL (fun t => hadN v t b) 6
def NOK (ns : Nat → Int32) (na : Nat → Nat → Int32) (nl : Nat → Nat → Int64) : Prop := SPx (ns 2) (na 5) (nl 1) (na 6) (na 7) ∧ SPx (ns 3) (na 8) (nl 2) (na 9) (na 10)
def HadR (v : Rl) (nl : Nat → Nat → Int64) : Prop := ∀ t b, t < 6 → b < 10 → nl 0 (t * 10 + b) = hadN v t b
def Played (v : Rl) (ns : Nat → Int32) (na : Nat → Nat → Int32) (nl : Nat → Nat → Int64) : Prop := (∃ E, SP E (nD v 0 0 D1 (v 14 0)) (ns 2) (na 5) (nl 1) (na 6) (na 7)) ∧ NOK ns na nl ∧ NR v 0 ns na ∧ HadR v nl
theorem c_begin {ns : Nat → Int32} {na : Nat → Nat → Int32} {nl : Nat → Nat → Int64} (hK : NOK ns na nl) {post : (Nat → Int32) → (Nat → Nat → Int32) → (Nat → Nat → Int64) → Prop}
    (h : ∀ (ns' : Nat → Int32) (na' : Nat → Nat → Int32) (nl' : Nat → Nat → Int64), SP [0] D1 (ns' 2) (na' 5) (nl' 1) (na' 6) (na' 7) → SPx (ns' 3) (na' 8) (nl' 2) (na' 9) (na' 10) → NF ns na ns' na' → (∀ x, x < 60 → nl' 0 x = 0) → post ns' na' nl') : P_X3_begin ns na nl post := by
  obtain ⟨⟨E, D, hS⟩, hS2⟩ := hK
  have L : ∀ (k i : Nat) (lx : Nat → Nat → Int64), i + k = 60 → (∀ j, j ≠ 0 → lx j = nl j) → (∀ x, x < i → lx 0 x = 0) → P_X3_begin_2 post (fun (ns : Nat → Int32) (na : Nat → Nat → Int32) (nl : Nat → Nat → Int64) => P_X3_begin_24 post ns na nl) ns na (k + 1) (nI i) lx := by
    intro k
    induction k with
    | zero =>
      intro i lx hi g1 g2
      obtain rfl : i = 60 := by omega
      refine ⟨fun _ => ?_, fun c => absurd (by decide) c⟩
      refine c_wipe (E := E) (D := D) (st := na 5) (pa := nl 1) hS (fun tb' hT => ?_)
      rw [g1 1 (by decide)]
      refine c_put (q := 0) hT (by decide) (by simp) (fun sz st pa so tb hP => ?_)
      refine h _ _ _ ?_ ?_ ⟨fun j hj => up_ne (by omega), fun j hj => by rw [up_ne (by omega), up_ne (by omega), up_ne (by omega)]⟩ (fun x hx => by rw [up_ne (by decide)]; exact g2 x hx)
      · simp only [va_up]
        simp only [show ((5 : Nat) = 7) = False by simp, show ((5 : Nat) = 6) = False by simp, show ((6 : Nat) = 7) = False by simp, if_false, if_true]
        have e1 : addE [] 0 1000000000000 = [0] := by unfold addE; rw [if_neg (by simp)]; rfl
        have e2 : addA (fun _ => 0) 0 1000000000000 = D1 := by
          funext x
          rw [addA_eq]
          unfold D1
          simp
        rw [e1, e2] at hP
        exact hP
      · simp only [va_up]
        simp only [show ((8 : Nat) = 7) = False by simp, show ((8 : Nat) = 6) = False by simp, show ((8 : Nat) = 5) = False by simp, show ((9 : Nat) = 7) = False by simp, show ((9 : Nat) = 6) = False by simp, show ((9 : Nat) = 5) = False by simp, show ((10 : Nat) = 7) = False by simp, show ((10 : Nat) = 6) = False by simp, show ((10 : Nat) = 5) = False by simp, show ((3 : Nat) = 2) = False by simp, show ((2 : Nat) = 1) = False by simp, if_false, g1 2 (by decide)]
        exact hS2
    | succ k ih =>
      intro i lx hi g1 g2
      refine ⟨fun c => absurd ((nI_leI (a := 60) (by omega) (by omega)).mp c) (by omega), fun _ => ⟨vp_in_nI (by omega) (by omega), ?_⟩⟩
      rw [nI_1, nI_clamp (by omega)]
      refine ih (i + 1) _ (by omega) (fun j hj => by rw [up_ne hj, g1 j hj]) (fun x hx => ?_)
      rw [up_at]
      by_cases e : x = i
      · rw [e, uL_at]
      · rw [uL_ne e, g2 x (by omega)]
  exact ⟨61, L 60 0 nl (by omega) (fun _ _ => rfl) (fun x hx => by omega)⟩
theorem wgt_0 (v : Rl) : wsm v 0 [0] ≤ 1458 := by
  simp [wsm, wgt, wpr]
theorem c_play {v : Rl} {rs : Nat → Int32} {ra : Nat → Nat → Int32} (hR : RelC v rs ra) (hv : okV v) {ns : Nat → Int32} {na : Nat → Nat → Int32} {nl : Nat → Nat → Int64} (hK : NOK ns na nl) {post : (Nat → Int32) → (Nat → Nat → Int32) → (Nat → Nat → Int64) → Prop}
    (h : ∀ (ns' : Nat → Int32) (na' : Nat → Nat → Int32) (nl' : Nat → Nat → Int64), Played v ns' na' nl' → post ns' na' nl') : P_X3_play ns na nl rs ra post := by
  have h13 := ok13 hv
  have h14 := ok14 hv
  have e14 := rc_s hR 14
  refine c_lookAtBaited (s := 0) hR hv (by omega) (fun nb hN hb => ?_)
  refine c_begin (by
    unfold NOK at hK ⊢
    rw [up_ne (by decide), up_ne (by decide), hb 5 (by omega), hb 6 (by omega), hb 7 (by omega), hb 8 (by omega), hb 9 (by omega), hb 10 (by omega)]
    exact hK) (fun ns1 na1 nl1 g1 g2 g3 g4 => ?_)
  have L : ∀ (k i : Nat) (nx : Nat → Int32) (ax : Nat → Nat → Int32) (lx : Nat → Nat → Int64) (E : List Nat), i + k = v 14 0 → SP E (nD v 0 0 D1 i) (nx 2) (ax 5) (lx 1) (ax 6) (ax 7) → SPx (nx 3) (ax 8) (lx 2) (ax 9) (ax 10) → wsm v i E ≤ 1458 → NR v 0 nx ax → (∀ t b, t < 6 → b < 10 → lx 0 (t * 10 + b) = if t < i then hadN v t b else 0) → P_X3_play_12 rs ra post (k + 1) (nI i) nx ax lx := by
    intro k
    induction k with
    | zero =>
      intro i nx ax lx E hi q1 q2 q3 q4 q5
      obtain rfl : i = v 14 0 := by omega
      refine ⟨fun _ => h nx ax lx ⟨⟨E, q1⟩, ⟨⟨E, _, q1⟩, q2⟩, q4, fun t b ht hb => ?_⟩, fun c => absurd ((cmp_le e14 (by omega) (by omega)).mpr (Nat.le_refl _)) c⟩
      rw [q5 t b ht hb]
      split
      · rfl
      · rename_i c
        unfold hadN
        rw [if_neg (fun z => c z.1)]
    | succ k ih =>
      intro i nx ax lx E hi q1 q2 q3 q4 q5
      have hit : i < v 14 0 := by omega
      refine ⟨fun c => absurd ((cmp_le e14 (by omega) (by omega)).mp c) (by omega), fun _ => ⟨vp_in_nI (by omega) (by omega), ?_⟩⟩
      rw [nI_clamp (by omega), (hR.2.2.2.2.2.1 i hit).2.1]
      refine c_letCome (ct := 0) hv hit q4 (fun z => absurd z (Nat.lt_irrefl 0)) q1 q2 q3 (fun ny ay ly E1 r1 r2 r3 r4 r5 => ?_)
      rw [nI_1]
      refine ih (i + 1) ny ay ly E1 (by omega) r1 r2 r3 (q4.frame r4) (fun t b ht hb => ?_)
      by_cases e : t = i
      · subst e
        by_cases hbb : b < v 13 0
        · rw [r5.1 b hbb, q5 t b ht hb, if_neg (Nat.lt_irrefl t), if_pos (Nat.lt_succ_self t)]
          unfold hadN
          rw [if_pos ⟨hit, hbb⟩]
          simp
        · rw [r5.2 _ (by omega), q5 t b ht hb, if_neg (Nat.lt_irrefl t), if_pos (Nat.lt_succ_self t)]
          unfold hadN
          rw [if_neg (fun z => hbb z.2)]
      · rw [r5.2 _ (by omega), q5 t b ht hb]
        by_cases c : t < i
        · rw [if_pos c, if_pos (by omega)]
        · rw [if_neg c, if_neg (by omega)]
  exact ⟨v 14 0 + 1, L (v 14 0) 0 ns1 na1 nl1 [0] (by omega) g1 g2 (wgt_0 v) (hN.frame g3) (fun t b ht hb => by rw [g4 _ (by omega)]; simp)⟩
theorem c_partsOf {ns : Nat → Int32} {na : Nat → Nat → Int32} {nl : Nat → Nat → Int64} {E : List Nat} {D : Nat → Int64} (hS : SP E D (ns 2) (na 5) (nl 1) (na 6) (na 7)) {x : Nat} (hx : x < 131072) {post : Int64 → Prop} (h : post (D x)) : P_X3_partsOf ns na nl (nI x) post := by
  obtain ⟨s1, s2, s3, s4, s5, -⟩ := hS
  have L : ∀ (k i : Nat), i + k = E.length → P_X3_partsOf_5 ns na nl (nI x) post (k + 1) (sumE (E.take i) (fun q => if x = q then D q else 0)) (nI i) := by
    intro k
    induction k with
    | zero =>
      intro i hi
      obtain rfl : i = E.length := by omega
      rw [List.take_length, sumE_one s3]
      refine ⟨fun _ => ?_, fun c => absurd ((cmp_le s1 (by omega) (by omega)).mpr (Nat.le_refl _)) c⟩
      split
      · exact h
      · rename_i c
        rw [s4 x c] at h
        exact h
    | succ k ih =>
      intro i hi
      have hil : i < E.length := by omega
      obtain ⟨a1, a2, a3⟩ := s5 i hil
      refine ⟨fun c => absurd ((cmp_le s1 (by omega) (by omega)).mp c) (by omega), fun _ => ⟨vp_in_nI (by omega) (by omega), ?_⟩⟩
      rw [nI_clamp (by omega), a1, nI_eq (by omega) (by omega), a3, nI_1]
      have := ih (i + 1) (by omega)
      rw [sumE_take hil] at this
      refine ⟨fun c => ?_, fun c => ⟨vp_in_nI (by omega) (by omega), fun y hy => ?_⟩⟩
      · rw [if_neg (fun e => c e.symm)] at this
        simpa using this
      · rw [if_pos c.symm] at this
        rw [hy]
        exact this
  exact ⟨E.length + 1, L E.length 0 (by omega)⟩
theorem c_hadBy {v : Rl} {nl : Nat → Nat → Int64} (hH : HadR v nl) {t b : Nat} (ht : t < 6) (hb : b < 10) {post : Int64 → Prop} (h : post (hadN v t b)) : P_X3_hadBy nl (nI t) (nI b) post := by
  unfold P_X3_hadBy
  rw [show (nI t * 10) + nI b = nI (t * 10 + b) by rw [show (10 : Int32) = nI 10 from rfl, pk_mul, nI_add], nI_clamp (by omega), hH t b ht hb]
  exact ⟨vp_in_nI (by omega) (by omega), h⟩
theorem c_riskOf {v : Rl} {nl : Nat → Nat → Int64} (hH : HadR v nl) {b : Nat} (hb : b < 10) {post : Int64 → Prop} (h : post (risk v b)) : P_X3_riskOf nl (nI b) post := by
  have L : ∀ (k i : Nat), i + k = 6 → P_X3_riskOf_5 nl (nI b) post (k + 1) (sumL (fun t => hadN v t b) i) (nI i) := by
    intro k
    induction k with
    | zero =>
      intro i hi
      obtain rfl : i = 6 := by omega
      exact ⟨fun _ => h, fun c => absurd (by decide) c⟩
    | succ k ih =>
      intro i hi
      refine ⟨fun c => absurd ((nI_leI (a := 6) (by omega) (by omega)).mp c) (by omega), fun _ => ?_⟩
      refine c_hadBy hH (by omega) hb (fun x hx => ?_)
      rw [hx, nI_1]
      exact ih (i + 1) (by omega)
  exact ⟨7, L 6 0 (by omega)⟩
/-! PAID, LOSS, COST -/
def paidZ (v : Rl) (b : Nat) : Nat := 1000 * ((if v 23 b = 0 then 0 else v 18 (v 23 b - 1)) + if v 24 b = 1 then v 4 0 else 0)
def lossL (v : Rl) (b : Nat) : Int64 := lN (v 1 0 * v 20 b) * risk v b / 1000000000
def wagesZ (v : Rl) : Nat := 1000 * v 8 0 * v 1 0
def wshZ (v : Rl) : Nat := if v 10 0 = 1 ∧ 0 < v 13 0 then wagesZ v / v 13 0 else 0
def costL (v : Rl) (b : Nat) : Int64 := lN (paidZ v b) + lossL v b + lN (wshZ v)
def whatL (v : Rl) (b w : Nat) : Int64 := if w = 0 then lN (paidZ v b) else if w = 1 then lossL v b else costL v b
def allL (v : Rl) (w : Nat) : Int64 := sumL (fun b => whatL v b w) (v 13 0)
theorem c_paidFor {v : Rl} {rs : Nat → Int32} {ra : Nat → Nat → Int32} (hR : RelC v rs ra) (hv : okV v) {b : Nat} (hb : b < v 13 0) {post : Int64 → Prop} (h : post (lN (paidZ v b))) : P_X4_paidFor rs ra (nI b) post := by
  have h13 := ok13 hv
  have h12 := ok12 hv
  have h4 := ok4 hv
  obtain ⟨-, -, -, e7, e8⟩ := hR.2.2.2.2.1 b hb
  obtain ⟨-, -, -, b23, b24⟩ := hv.2.2.2.2.1 b hb
  have fin : ∀ pr : Nat, pr ≤ 999 → pr = (if v 23 b = 0 then 0 else v 18 (v 23 b - 1)) → P_X4_paidFor_28 rs ra (nI b) post (nI pr) := by
    intro pr hpr he
    refine ⟨vp_in_nI (by omega) (by omega), ?_⟩
    rw [nI_clamp (by omega), e8, rc_s hR 4]
    unfold paidZ at h
    rw [← he] at h
    refine ⟨fun c => ?_, fun c => ?_⟩
    · have z : v 24 b = 0 := (nI_eq (b := 0) (by omega) (by decide)).mp c
      rw [if_neg (by omega)] at h
      rw [show nI pr + 0 = nI (pr + 0) from nI_add pr 0, nI_l (by omega), show (1000 : Int64) = lN 1000 from rfl, lN_mul]
      exact h
    · have z : v 24 b = 1 := by
        have : v 24 b ≠ 0 := fun q => c (by rw [q]; rfl)
        omega
      rw [if_pos z] at h
      rw [nI_add, nI_l (by omega), show (1000 : Int64) = lN 1000 from rfl, lN_mul]
      exact h
  refine ⟨vp_in_nI (by omega) (by omega), ?_⟩
  intro x hx
  rw [nI_clamp (by omega), e7] at hx
  subst hx
  refine ⟨fun c => ?_, fun c => ?_⟩
  · have hp : 0 < v 23 b := Nat.pos_of_ne_zero fun q => c ((nI_m1 (by omega)).mpr q)
    rw [nI_pre hp, nI_clamp (by omega), hR.2.2.1 _ (by omega)]
    exact ⟨vp_in_nI (by omega) (by omega), fin _ (hv.2.2.1 _ (by omega)) (by rw [if_neg (by omega)])⟩
  · have hz : v 23 b = 0 := (nI_m1 (by omega)).mp c
    exact fin 0 (by omega) (by rw [if_pos hz])
theorem wages_le {v : Rl} (hv : okV v) : wagesZ v ≤ 59940000 := by
  have a : 1000 * v 8 0 ≤ 1000 * 999 := Nat.mul_le_mul_left _ (ok8 hv)
  have b : 1000 * v 8 0 * v 1 0 ≤ 1000 * 999 * 60 := Nat.mul_le_mul a (ok1 hv)
  unfold wagesZ
  omega
theorem c_wages {v : Rl} {rs : Nat → Int32} {ra : Nat → Nat → Int32} (hR : RelC v rs ra) (hv : okV v) {post : Int64 → Prop} (h : post (lN (wagesZ v))) : P_X4_wages rs post := by
  have h8 := ok8 hv
  have h1 := ok1 hv
  unfold P_X4_wages
  rw [rc_s hR 8, rc_s hR 1, nI_l (by omega), nI_l (by omega), show (1000 : Int64) = lN 1000 from rfl, lN_mul, lN_mul]
  exact h
theorem c_wageShare {v : Rl} {rs : Nat → Int32} {ra : Nat → Nat → Int32} (hR : RelC v rs ra) (hv : okV v) {post : Int64 → Prop} (h : post (lN (wshZ v))) : P_X4_wageShare rs post := by
  have h10 := ok10 hv
  have h13 := ok13 hv
  have hw := wages_le hv
  unfold wshZ at h
  refine ⟨fun c => ?_, fun c => ⟨fun c2 => ?_, fun c2 => ?_⟩⟩
  · have z : v 10 0 = 0 := (cmp_eq (i := 0) (rc_s hR 10) (by omega) (by decide)).mp c
    rw [if_neg (by omega)] at h
    exact h
  · have z : v 13 0 ≤ 0 := (cmp_le (i := 0) (rc_s hR 13) (by omega) (by decide)).mp c2
    rw [if_neg (by omega)] at h
    exact h
  · have z : 0 < v 13 0 := Nat.pos_of_ne_zero fun q => c2 (by rw [rc_s hR 13, q]; decide)
    have z1 : v 10 0 = 1 := by
      have : v 10 0 ≠ 0 := fun q => c (by rw [rc_s hR 10, q]; rfl)
      omega
    rw [if_pos ⟨z1, z⟩] at h
    refine c_wages hR hv ?_
    rw [rc_s hR 13, nI_l (by omega), show (0 : Int64) = lN 0 from rfl, lN_eq (by omega) (by decide), pk_lDiv (by omega) z (by omega)]
    exact ⟨by omega, h⟩
theorem c_costOf {v : Rl} {rs : Nat → Int32} {ra : Nat → Nat → Int32} (hR : RelC v rs ra) (hv : okV v) {nl : Nat → Nat → Int64} (hH : HadR v nl) {b w : Nat} (hb : b < v 13 0) (hw : w < 3) {post : Int64 → Prop} (h : post (whatL v b w)) : P_X3_costOf nl rs ra (nI b) (nI w) post := by
  have h13 := ok13 hv
  have h1 := ok1 hv
  obtain ⟨e4, -⟩ := hR.2.2.2.2.1 b hb
  obtain ⟨b20, -⟩ := hv.2.2.2.2.1 b hb
  refine c_paidFor hR hv hb ⟨vp_in_nI (by omega) (by omega), ?_⟩
  refine c_riskOf hH (by omega) (fun x hx => ?_)
  rw [nI_clamp (by omega), e4, rc_s hR 1, nI_l (by omega), nI_l (by omega), lN_mul] at hx
  have hx' : x = lossL v b := hx
  subst hx'
  unfold whatL at h
  refine ⟨fun c => ?_, fun c => ?_, fun c c2 => ?_⟩
  · have z : w = 0 := (nI_eq (b := 0) (by omega) (by decide)).mp c
    rw [if_pos z] at h
    exact h
  · have z : w = 1 := (nI_eq (b := 1) (by omega) (by decide)).mp c
    rw [if_neg (by omega), if_pos z] at h
    exact h
  · rw [if_neg (fun q => c (by rw [q]; rfl)), if_neg (fun q => c2 (by rw [q]; rfl))] at h
    refine c_wageShare hR hv ?_
    exact h
theorem c_costOfAll {v : Rl} {rs : Nat → Int32} {ra : Nat → Nat → Int32} (hR : RelC v rs ra) (hv : okV v) {nl : Nat → Nat → Int64} (hH : HadR v nl) {w : Nat} (hw : w < 3) {post : Int64 → Prop} (h : post (allL v w)) : P_X3_costOfAll nl rs ra (nI w) post := by
  have h13 := ok13 hv
  have e13 := rc_s hR 13
  have L : ∀ (k i : Nat), i + k = v 13 0 → P_X3_costOfAll_5 nl rs ra (nI w) post (k + 1) (sumL (fun b => whatL v b w) i) (nI i) := by
    intro k
    induction k with
    | zero =>
      intro i hi
      obtain rfl : i = v 13 0 := by omega
      exact ⟨fun _ => h, fun c => absurd ((cmp_le e13 (by omega) (by omega)).mpr (Nat.le_refl _)) c⟩
    | succ k ih =>
      intro i hi
      refine ⟨fun c => absurd ((cmp_le e13 (by omega) (by omega)).mp c) (by omega), fun _ => ?_⟩
      refine c_costOf hR hv hH (by omega) hw (fun x hx => ?_)
      rw [hx, nI_1]
      exact ih (i + 1) (by omega)
  exact ⟨v 13 0 + 1, L (v 13 0) 0 (by omega)⟩
end
