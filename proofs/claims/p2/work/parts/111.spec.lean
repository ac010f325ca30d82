/-! THE MATHEMATICAL VALUE. A rail is a table of numbers: v field index. Fields: 0 places 1 nights 2 lines 3 markTold 4 markPrice 5 known 6 hidden 7 watchTold 8 wage 9 adds 10 watched 11 lamps 12 locks 13 bikes 14 thieves 15 yearThere; 16 lamp's place 17 its brightness 18 lock's price 19 cuts (3 lock + tool) 20 worth 21 seems 22 place 23 lock and 1 24 marked 25 tool 26 comes 27 fears 28 kind 29 just and 1 30 taken 31 took. -/
abbrev Rl : Type := Nat → Nat → Nat
def sumN (f : Nat → Nat) : Nat → Nat
  | 0 => 0
  | k + 1 => sumN f k + f k
theorem sumN_cong {f g : Nat → Nat} : ∀ {n : Nat}, (∀ k, k < n → f k = g k) → sumN f n = sumN g n
  | 0, _ => rfl
  | n + 1, h => by rw [sumN, sumN, sumN_cong (fun k hk => h k (Nat.lt_succ_of_lt hk)), h n (Nat.lt_succ_self n)]
theorem sumN_le {f : Nat → Nat} {c : Nat} : ∀ {n : Nat}, (∀ k, k < n → f k ≤ c) → sumN f n ≤ n * c
  | 0, _ => by simp [sumN]
  | n + 1, h => by
    have h1 := sumN_le (n := n) (fun k hk => h k (Nat.lt_succ_of_lt hk))
    have h2 := h n (Nat.lt_succ_self n)
    rw [sumN, Nat.succ_mul]
    omega
def dist (a b : Nat) : Nat := (a - b) + (b - a)
def light (v : Rl) (p : Nat) : Nat := (if v 10 0 = 1 then v 9 0 else 0) + sumN (fun k => v 17 k - dist p (v 16 k)) (v 11 0)
def trouble (v : Rl) (t b : Nat) : Nat := if v 23 b = 0 then 0 else v 19 (3 * (v 23 b - 1) + v 25 t) * v 27 t * (1 + light v (v 22 b)) / 100
def nMarked (v : Rl) : Nat := sumN (fun b => v 24 b) (v 13 0)
def gain (v : Rl) (b : Nat) : Nat := if v 6 0 = 1 then v 21 b * (100 * v 13 0 - v 5 0 * nMarked v) / (100 * v 13 0) else if v 24 b = 1 then v 21 b * (100 - v 5 0) / 100 else v 21 b
/-- what a rail keeps to -/
def okV (v : Rl) : Prop :=
  (v 0 0 ≤ 20 ∧ v 1 0 ≤ 60 ∧ v 2 0 ≤ 1600 ∧ v 3 0 ≤ 1 ∧ v 4 0 ≤ 999 ∧ v 5 0 ≤ 100 ∧ v 6 0 ≤ 1 ∧ v 7 0 ≤ 1 ∧ v 8 0 ≤ 999 ∧ v 9 0 ≤ 99 ∧ v 10 0 ≤ 1 ∧ v 11 0 ≤ 5 ∧ v 12 0 ≤ 5 ∧ v 13 0 ≤ 10 ∧ v 14 0 ≤ 6 ∧ v 15 0 ≤ 1 ∧ (v 2 0 = 0 ↔ v 0 0 = 0)) ∧
  (∀ k, k < v 11 0 → v 16 k < 20 ∧ v 17 k ≤ 99) ∧ (∀ k, k < v 12 0 → v 18 k ≤ 999) ∧ (∀ k, k < 3 * v 12 0 → v 19 k ≤ 999) ∧
  (∀ b, b < v 13 0 → v 20 b ≤ 9999 ∧ v 21 b ≤ 9999 ∧ v 22 b < 20 ∧ v 23 b ≤ v 12 0 ∧ v 24 b ≤ 1) ∧
  (∀ t, t < v 14 0 → v 25 t ≤ 2 ∧ v 26 t ≤ 100 ∧ v 27 t ≤ 99 ∧ v 28 t ≤ 2 ∧ v 29 t ≤ 10) ∧ True
/-- the class's rail holds v -/
def RelC (v : Rl) (rs : Nat → Int32) (ra : Nat → Nat → Int32) : Prop :=
  (∀ j, j < 16 → rs j = nI (v j 0)) ∧ (∀ k, k < v 11 0 → ra 0 k = nI (v 16 k) ∧ ra 1 k = nI (v 17 k)) ∧ (∀ k, k < v 12 0 → ra 2 k = nI (v 18 k)) ∧ (∀ k, k < 3 * v 12 0 → ra 3 k = nI (v 19 k)) ∧
  (∀ b, b < v 13 0 → ra 4 b = nI (v 20 b) ∧ ra 5 b = nI (v 21 b) ∧ ra 6 b = nI (v 22 b) ∧ ra 7 b = nI (v 23 b) - 1 ∧ ra 8 b = nI (v 24 b)) ∧
  (∀ t, t < v 14 0 → ra 9 t = nI (v 25 t) ∧ ra 10 t = nI (v 26 t) ∧ ra 11 t = nI (v 27 t) ∧ ra 12 t = nI (v 28 t) ∧ ra 13 t = nI (v 29 t) - 1) ∧
  (v 15 0 = 1 → (∀ b, b < 10 → ra 14 b = nI (v 30 b)) ∧ (∀ t, t < 6 → ra 15 t = nI (v 31 t))) ∧ (∀ b, b < 10 → ra 8 b = 0 ∨ ra 8 b = 1)
theorem dist_lt {a b : Nat} (ha : a < 20) (hb : b < 20) : dist a b < 20 := by unfold dist; omega
theorem light_le {v : Rl} (hv : okV v) (p : Nat) : light v p ≤ 594 := by
  have h1 : sumN (fun k => v 17 k - dist p (v 16 k)) (v 11 0) ≤ v 11 0 * 99 := sumN_le (fun k hk => by have := (hv.2.1 k hk).2; omega)
  have h2 : v 11 0 ≤ 5 := hv.1.2.2.2.2.2.2.2.2.2.2.2.1
  have h3 : v 9 0 ≤ 99 := hv.1.2.2.2.2.2.2.2.2.2.1
  have h4 : v 11 0 * 99 ≤ 5 * 99 := Nat.mul_le_mul_right _ h2
  unfold light
  split <;> omega
/-! small rows on Int32 -/
theorem nS {a b : Nat} (ha : a < 2 ^ 30) (hb : b < 2 ^ 30) : (nI a - nI b).toInt = (a : Int) - b := pk_sub_toInt ha hb
theorem nS_pos {a b : Nat} (ha : a < 2 ^ 30) (hb : b < 2 ^ 30) : (0 : Int32) < nI a - nI b ↔ b < a := by
  rw [Int32.lt_iff_toInt_lt, nS ha hb, show (0 : Int32).toInt = 0 from rfl]
  omega
theorem nS_nonneg {a b : Nat} (ha : a < 2 ^ 30) (hb : b < 2 ^ 30) : (0 : Int32) ≤ nI a - nI b ↔ b ≤ a := by
  rw [Int32.le_iff_toInt_le, nS ha hb, show (0 : Int32).toInt = 0 from rfl]
  omega
theorem nS_neg (x y : Int32) : 0 - (x - y) = y - x := by grind
theorem n_abs {p q : Nat} (hp : p < 2 ^ 30) (hq : q < 2 ^ 30) : (if (0 : Int32) ≤ nI p - nI q then nI p - nI q else 0 - (nI p - nI q)) = nI (dist p q) := by
  split
  · rename_i h
    rw [nS_nonneg hp hq] at h
    rw [pk_sub h]
    congr 1
    unfold dist
    omega
  · rename_i h
    rw [nS_nonneg hp hq] at h
    rw [nS_neg, pk_sub (by omega)]
    congr 1
    unfold dist
    omega
theorem n_max0 {a b : Nat} (ha : a < 2 ^ 30) (hb : b < 2 ^ 30) : (if (0 : Int32) < nI a - nI b then nI a - nI b else 0) = nI (a - b) := by
  split
  · rename_i h
    rw [nS_pos ha hb] at h
    rw [pk_sub (by omega)]
  · rename_i h
    rw [nS_pos ha hb] at h
    rw [show a - b = 0 by omega]
    rfl
