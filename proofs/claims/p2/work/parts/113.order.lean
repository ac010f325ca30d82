/-! whom a thief takes: an order of the choices by rank, the first of them that is there -/
def net (v : Rl) (t b : Nat) : Int := (gain v b : Int) - (trouble v t b : Int)
def rnk (v : Rl) (s t b : Nat) : Int := if v 28 t = 0 then (if b < v 13 0 then -(net v t b) else -(s : Int)) else (if b < v 13 0 then (trouble v t b : Int) else 0)
def wnt (v : Rl) (s t b : Nat) : Bool := if b < v 13 0 then decide (0 < net v t b) && (v 28 t != 2 || v 29 t == b + 1) else b == v 13 0 && decide (0 < s) && v 28 t != 2
def insr (r : Nat → Int) (c : Nat) : List Nat → List Nat
  | [] => [c]
  | a :: l => if r a ≤ r c then a :: insr r c l else c :: a :: l
def pickL (l : List Nat) (g : Nat) : Option Nat := l.find? (fun c => !g.testBit c)
def ordl (v : Rl) (s t : Nat) : Nat → List Nat
  | 0 => []
  | k + 1 => if wnt v s t k then insr (rnk v s t) k (ordl v s t k) else ordl v s t k
/-- whom thief t takes, those of g being gone; a bait seems s -/
def tk (v : Rl) (s t g : Nat) : Option Nat := pickL (ordl v s t (v 13 0 + 1)) g
def srt (r : Nat → Int) (l : List Nat) : Prop := l.Pairwise (fun a b => r a ≤ r b)
theorem insr_mem {r : Nat → Int} {c x : Nat} : ∀ {l : List Nat}, x ∈ insr r c l ↔ x = c ∨ x ∈ l
  | [] => by simp [insr]
  | a :: l => by
    unfold insr
    split
    · simp only [List.mem_cons, insr_mem (l := l)]; constructor <;> rintro (h | h | h) <;> simp [h]
    · simp only [List.mem_cons]
theorem insr_len {r : Nat → Int} {c : Nat} : ∀ {l : List Nat}, (insr r c l).length = l.length + 1
  | [] => rfl
  | a :: l => by
    unfold insr
    split
    · simp [insr_len (l := l)]
    · simp
theorem insr_srt {r : Nat → Int} {c : Nat} : ∀ {l : List Nat}, srt r l → srt r (insr r c l)
  | [], _ => by simp [insr, srt]
  | a :: l, h => by
    unfold srt at h ⊢
    rw [List.pairwise_cons] at h
    unfold insr
    split
    · rename_i hc
      rw [List.pairwise_cons]
      refine ⟨fun b hb => ?_, insr_srt (l := l) h.2⟩
      rcases insr_mem.mp hb with rfl | hb
      · exact hc
      · exact h.1 b hb
    · rename_i hc
      rw [List.pairwise_cons]
      refine ⟨fun b hb => ?_, by rw [List.pairwise_cons]; exact h⟩
      rcases List.mem_cons.mp hb with rfl | hb
      · omega
      · have := h.1 b hb
        omega
theorem ordl_srt (v : Rl) (s t : Nat) : ∀ k, srt (rnk v s t) (ordl v s t k)
  | 0 => by simp [ordl, srt]
  | k + 1 => by
    unfold ordl
    split
    · exact insr_srt (ordl_srt v s t k)
    · exact ordl_srt v s t k
theorem ordl_mem {v : Rl} {s t x : Nat} : ∀ {k : Nat}, x ∈ ordl v s t k ↔ x < k ∧ wnt v s t x = true
  | 0 => by simp [ordl]
  | k + 1 => by
    unfold ordl
    split
    · rename_i h
      rw [insr_mem, ordl_mem (k := k)]
      constructor
      · rintro (rfl | ⟨h1, h2⟩)
        · exact ⟨by omega, h⟩
        · exact ⟨by omega, h2⟩
      · rintro ⟨h1, h2⟩
        by_cases e : x = k
        · exact Or.inl e
        · exact Or.inr ⟨by omega, h2⟩
    · rename_i h
      rw [ordl_mem (k := k)]
      constructor
      · rintro ⟨h1, h2⟩; exact ⟨by omega, h2⟩
      · rintro ⟨h1, h2⟩
        by_cases e : x = k
        · subst e; exact absurd h2 h
        · exact ⟨by omega, h2⟩
theorem ordl_len (v : Rl) (s t : Nat) : ∀ k, (ordl v s t k).length ≤ k
  | 0 => by simp [ordl]
  | k + 1 => by
    have := ordl_len v s t k
    unfold ordl
    split
    · rw [insr_len]; omega
    · omega
/-- the same by going through the choices one by one (the first of several stays) -/
def scn (v : Rl) (s t g : Nat) : Nat → Option Nat
  | 0 => none
  | k + 1 => if wnt v s t k && !g.testBit k then (match scn v s t g k with
    | none => some k
    | some b => if rnk v s t k < rnk v s t b then some k else some b) else scn v s t g k
theorem pick_ins {r : Nat → Int} {c g : Nat} : ∀ {l : List Nat}, srt r l → pickL (insr r c l) g = if !g.testBit c then (match pickL l g with
    | none => some c
    | some b => if r c < r b then some c else some b) else pickL l g
  | [], _ => by
    unfold insr pickL
    by_cases h : g.testBit c <;> simp [h]
  | a :: l, hs => by
    have hs2 := List.pairwise_cons.mp hs
    have ih := pick_ins (r := r) (c := c) (g := g) (l := l) hs2.2
    unfold insr
    by_cases ha : g.testBit a = true
    · have e1 : pickL (a :: l) g = pickL l g := by simp [pickL, ha]
      rw [e1]
      split
      · rename_i hc
        have e2 : pickL (a :: insr r c l) g = pickL (insr r c l) g := by simp [pickL, ha]
        rw [e2, ih]
      · rename_i hc
        by_cases hcg : g.testBit c = true
        · simp [pickL, hcg, ha]
        · have e3 : pickL (c :: a :: l) g = some c := by simp [pickL, hcg]
          rw [e3]
          simp only [hcg, Bool.not_false, if_true]
          cases hp : pickL l g with
          | none => rfl
          | some b =>
            have hb : b ∈ l := List.mem_of_find?_eq_some hp
            have := hs2.1 b hb
            simp only
            rw [if_pos (by omega)]
    · have e1 : pickL (a :: l) g = some a := by simp [pickL, ha]
      rw [e1]
      split
      · rename_i hc
        have e2 : pickL (a :: insr r c l) g = some a := by simp [pickL, ha]
        rw [e2]
        by_cases hcg : g.testBit c = true
        · simp [hcg]
        · simp only [hcg, Bool.not_false, if_true]
          rw [if_neg (by omega)]
      · rename_i hc
        by_cases hcg : g.testBit c = true
        · simp [pickL, hcg, ha]
        · have e3 : pickL (c :: a :: l) g = some c := by simp [pickL, hcg]
          rw [e3]
          simp only [hcg, Bool.not_false, if_true]
          rw [if_pos (by omega)]
theorem pick_scn (v : Rl) (s t g : Nat) : ∀ k, pickL (ordl v s t k) g = scn v s t g k
  | 0 => rfl
  | k + 1 => by
    unfold ordl scn
    by_cases h : wnt v s t k = true
    · rw [if_pos h, pick_ins (ordl_srt v s t k), pick_scn v s t g k]
      simp only [h, Bool.true_and]
    · simp only [h, Bool.false_and, if_false, Bool.false_eq_true]
      exact pick_scn v s t g k
theorem tk_scn (v : Rl) (s t g : Nat) : tk v s t g = scn v s t g (v 13 0 + 1) := pick_scn v s t g _
theorem tk_some {v : Rl} {s t g b : Nat} (h : tk v s t g = some b) : b ≤ v 13 0 ∧ wnt v s t b = true ∧ g.testBit b = false := by
  have hm : b ∈ ordl v s t (v 13 0 + 1) := List.mem_of_find?_eq_some h
  have hp := List.find?_some h
  rw [ordl_mem] at hm
  exact ⟨by omega, hm.2, by simpa using hp⟩
