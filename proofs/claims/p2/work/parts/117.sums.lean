/-! sums of longs (with wrap-around: a commutative ring) -/
def sumL (f : Nat → Int64) : Nat → Int64
  | 0 => 0
  | k + 1 => sumL f k + f k
def sumE (E : List Nat) (f : Nat → Int64) : Int64 := match E with
  | [] => 0
  | q :: E => f q + sumE E f
theorem sumL_cong {f g : Nat → Int64} : ∀ {n : Nat}, (∀ k, k < n → f k = g k) → sumL f n = sumL g n
  | 0, _ => rfl
  | n + 1, h => by rw [sumL, sumL, sumL_cong (fun k hk => h k (Nat.lt_succ_of_lt hk)), h n (Nat.lt_succ_self n)]
theorem sumL_zero {f : Nat → Int64} : ∀ {n : Nat}, (∀ k, k < n → f k = 0) → sumL f n = 0
  | 0, _ => rfl
  | n + 1, h => by rw [sumL, sumL_zero (fun k hk => h k (Nat.lt_succ_of_lt hk)), h n (Nat.lt_succ_self n)]; rfl
theorem sumL_add (f g : Nat → Int64) : ∀ n : Nat, sumL (fun k => f k + g k) n = sumL f n + sumL g n
  | 0 => rfl
  | n + 1 => by rw [sumL, sumL, sumL, sumL_add f g n]; grind
theorem sumL_mul (c : Int64) (f : Nat → Int64) : ∀ n : Nat, sumL (fun k => c * f k) n = c * sumL f n
  | 0 => by simp [sumL]
  | n + 1 => by rw [sumL, sumL, sumL_mul c f n]; grind
theorem sumL_one {f : Nat → Int64} {i : Nat} : ∀ {n : Nat}, i < n → (∀ k, k < n → k ≠ i → f k = 0) → sumL f n = f i
  | 0, h, _ => absurd h (Nat.not_lt_zero i)
  | n + 1, h, hz => by
    rw [sumL]
    by_cases e : i = n
    · subst e
      rw [sumL_zero (fun k hk => hz k (by omega) (by omega))]
      grind
    · rw [sumL_one (n := n) (by omega) (fun k hk hne => hz k (by omega) hne), hz n (by omega) (by omega)]
      grind
theorem sumL_off {f : Nat → Int64} {i n : Nat} (hi : i < n) : sumL f n = f i + sumL (fun k => if k = i then 0 else f k) n := by
  have h1 : sumL f n = sumL (fun k => (if k = i then f i else 0) + (if k = i then 0 else f k)) n := sumL_cong (fun k _ => by
    by_cases e : k = i
    · subst e; simp
    · simp [e])
  rw [h1, sumL_add, sumL_one (i := i) hi (fun k _ hne => by simp [hne])]
  simp
theorem sumE_cong {f g : Nat → Int64} : ∀ {E : List Nat}, (∀ q, q ∈ E → f q = g q) → sumE E f = sumE E g
  | [], _ => rfl
  | a :: E, h => by rw [sumE, sumE, sumE_cong (E := E) (fun q hq => h q (List.mem_cons_of_mem _ hq)), h a List.mem_cons_self]
theorem sumE_add (f g : Nat → Int64) : ∀ E : List Nat, sumE E (fun k => f k + g k) = sumE E f + sumE E g
  | [] => rfl
  | a :: E => by rw [sumE, sumE, sumE, sumE_add f g E]; grind
theorem sumE_app (f : Nat → Int64) : ∀ E F : List Nat, sumE (E ++ F) f = sumE E f + sumE F f
  | [], F => by simp [sumE]
  | a :: E, F => by rw [List.cons_append, sumE, sumE, sumE_app f E F]; grind
theorem sumE_range {n : Nat} : ∀ {E : List Nat} {f : Nat → Int64}, E.Nodup → (∀ q, q ∈ E → q < n) → (∀ q, q < n → q ∉ E → f q = 0) → sumE E f = sumL f n
  | [], f, _, _, h => (sumL_zero (fun k hk => h k hk (by simp))).symm
  | a :: E, f, hn, hl, h => by
    rw [List.nodup_cons] at hn
    rw [sumE, sumL_off (i := a) (hl a List.mem_cons_self)]
    have ih := sumE_range (n := n) (E := E) (f := fun k => if k = a then 0 else f k) hn.2 (fun q hq => hl q (List.mem_cons_of_mem _ hq)) (fun q hq hne => by
      by_cases e : q = a
      · simp [e]
      · simp only [e, if_false]
        exact h q hq (by simp [e, hne]))
    rw [← ih]
    congr 1
    exact sumE_cong (fun q hq => by rw [if_neg (show ¬ q = a from fun e => hn.1 (e ▸ hq))])
