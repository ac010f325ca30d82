/-! a thief's step: PARTS by states (gone: the low 11 bits; caught: above them) -/
def who (v : Rl) (s t q : Nat) : Option Nat := if q.testBit (11 + t) then none else tk v s t (q % 2048)
def cmP (v : Rl) (t : Nat) (p : Int64) : Int64 := p * lN (v 26 t) / 100
def ctP (ct : Nat) (p : Int64) : Int64 := p * lN ct / 100
/-- what a state's PARTS change -/
def chg (v : Rl) (s ct t q : Nat) (p : Int64) : List (Nat × Int64) := match who v s t q with
  | none => []
  | some b => if b = v 13 0 then [(q, -(cmP v t p)), (q ||| 2 ^ b ||| 2 ^ (11 + t), ctP ct (cmP v t p)), (q ||| 2 ^ b, cmP v t p - ctP ct (cmP v t p))] else [(q, -(cmP v t p)), (q ||| 2 ^ b, cmP v t p)]
def evl : List (Nat × Int64) → Nat → Int64
  | [], _ => 0
  | a :: L, x => (if x = a.1 then a.2 else 0) + evl L x
/-- how many states there may be -/
def N17 : Nat := 131072
def stp (v : Rl) (s ct t : Nat) (D : Nat → Int64) : Nat → Int64 := fun x => D x + sumL (fun q => evl (chg v s ct t q (D q)) x) N17
def hst (v : Rl) (s t : Nat) (D : Nat → Int64) (b : Nat) : Int64 := sumL (fun q => if who v s t q = some b then cmP v t (D q) else 0) N17
theorem cmP_0 (v : Rl) (t : Nat) : cmP v t 0 = 0 := by
  unfold cmP
  rw [Int64.zero_mul]
  rfl
theorem ctP_0 (ct : Nat) : ctP ct 0 = 0 := by
  unfold ctP
  rw [Int64.zero_mul]
  rfl
theorem chg_0 (v : Rl) (s ct t q x : Nat) : evl (chg v s ct t q 0) x = 0 := by
  unfold chg
  rw [cmP_0, ctP_0]
  split
  · rfl
  · split <;> simp [evl]
/-- weights: how many states may come of one -/
def wpr (q : Nat) : Nat → Nat
  | 0 => 1
  | m + 1 => (if q.testBit (11 + (5 - m)) then 1 else 2) * wpr q m
def wgt (v : Rl) (t q : Nat) : Nat := (if q.testBit (v 13 0) then 1 else 2) * wpr q (6 - t)
def wsm (v : Rl) (t : Nat) : List Nat → Nat
  | [] => 0
  | q :: E => wgt v t q + wsm v t E
theorem wpr_pos (q : Nat) : ∀ m, 1 ≤ wpr q m
  | 0 => Nat.le_refl 1
  | m + 1 => by
    have := wpr_pos q m
    unfold wpr
    split <;> omega
theorem wgt_pos (v : Rl) (t q : Nat) : 1 ≤ wgt v t q := by
  have := wpr_pos q (6 - t)
  unfold wgt
  split <;> omega
theorem wpr_cong {q r : Nat} : ∀ {m : Nat}, (∀ j, 5 < j + m → j ≤ 5 → q.testBit (11 + j) = r.testBit (11 + j)) → wpr q m = wpr r m
  | 0, _ => rfl
  | m + 1, h => by
    unfold wpr
    rw [wpr_cong (m := m) (fun j h1 h2 => h j (by omega) h2), h (5 - m) (by omega) (by omega)]
theorem wgt_step (v : Rl) {t q : Nat} (ht : t < 6) : wgt v t q = (if q.testBit (v 13 0) then 1 else 2) * ((if q.testBit (11 + t) then 1 else 2) * wpr q (6 - (t + 1))) := by
  unfold wgt
  rw [show 6 - t = (6 - (t + 1)) + 1 by omega, wpr, show 5 - (6 - (t + 1)) = t by omega]
theorem wsm_app (v : Rl) (t : Nat) : ∀ E F : List Nat, wsm v t (E ++ F) = wsm v t E + wsm v t F
  | [], F => by simp [wsm]
  | a :: E, F => by rw [List.cons_append, wsm, wsm, wsm_app v t E F, Nat.add_assoc]
theorem wsm_len (v : Rl) (t : Nat) : ∀ E : List Nat, E.length ≤ wsm v t E
  | [] => Nat.le_refl 0
  | a :: E => by
    have := wsm_len v t E
    have := wgt_pos v t a
    rw [wsm, List.length_cons]
    omega
theorem wsm_add (v : Rl) (t : Nat) (E : List Nat) (q : Nat) (m : Int64) : wsm v t (addE E q m) ≤ wsm v t E + wgt v t q := by
  unfold addE
  split
  · omega
  · rw [wsm_app]; simp [wsm]
theorem wgt_none {v : Rl} {t q : Nat} (ht : t < 6) : wgt v (t + 1) q ≤ wgt v t q := by
  rw [wgt_step v ht]
  unfold wgt
  apply Nat.mul_le_mul_left
  split <;> omega
theorem tb_or {q b j : Nat} : (q ||| 2 ^ b).testBit j = (q.testBit j || decide (b = j)) := by
  rw [Nat.testBit_or, Nat.testBit_two_pow]
theorem wgt_some {v : Rl} {t q b : Nat} (ht : t < 6) (hb : b < 11) (hne : b ≠ v 13 0) (hq : q.testBit (11 + t) = false) : wgt v (t + 1) q + wgt v (t + 1) (q ||| 2 ^ b) = wgt v t q := by
  rw [wgt_step v ht, hq]
  have e : wpr (q ||| 2 ^ b) (6 - (t + 1)) = wpr q (6 - (t + 1)) := wpr_cong (fun j _ _ => by rw [tb_or, show decide (b = 11 + j) = false by simp; omega, Bool.or_false])
  unfold wgt
  rw [e, tb_or, show decide (b = v 13 0) = false by simp [hne], Bool.or_false]
  split <;> simp <;> omega
theorem wgt_bait {v : Rl} {t q : Nat} (ht : t < 6) (h13 : v 13 0 ≤ 10) (hq : q.testBit (11 + t) = false) (hb : q.testBit (v 13 0) = false) : wgt v (t + 1) q + wgt v (t + 1) (q ||| 2 ^ v 13 0 ||| 2 ^ (11 + t)) + wgt v (t + 1) (q ||| 2 ^ v 13 0) = wgt v t q := by
  rw [wgt_step v ht, hq, hb]
  have e1 : wpr (q ||| 2 ^ v 13 0) (6 - (t + 1)) = wpr q (6 - (t + 1)) := wpr_cong (fun j _ _ => by rw [tb_or, show decide (v 13 0 = 11 + j) = false by simp; omega, Bool.or_false])
  have e2 : wpr (q ||| 2 ^ v 13 0 ||| 2 ^ (11 + t)) (6 - (t + 1)) = wpr q (6 - (t + 1)) := by
    rw [← e1]
    exact wpr_cong (fun j h1 _ => by rw [tb_or, show decide (11 + t = 11 + j) = false by simp; omega, Bool.or_false])
  unfold wgt
  rw [e1, e2, hb]
  have e3 : (q ||| 2 ^ v 13 0).testBit (v 13 0) = true := by rw [tb_or]; simp
  have e4 : (q ||| 2 ^ v 13 0 ||| 2 ^ (11 + t)).testBit (v 13 0) = true := by rw [tb_or, e3]; simp
  rw [e3, e4]
  simp
  omega
