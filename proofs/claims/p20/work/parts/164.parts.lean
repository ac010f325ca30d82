section
/-! what stands on the tape, token by token -/
def isLt (x : Int32) : Bool := decide (97 ≤ x.toInt ∧ x.toInt ≤ 122)
def isDg (x : Int32) : Bool := decide (48 ≤ x.toInt ∧ x.toInt ≤ 57)
def isBk (x : Int32) : Bool := decide (x.toInt = 32 ∨ x.toInt = 10)
def kd (f : Nat → Int32) (n i : Nat) : Nat := if n ≤ i then 0 else if isLt (f i) = true then 1 else if isDg (f i) = true then 2 else if isBk (f i) = true then 4 else if (f i).toInt = 59 then 3 else 5
theorem kd_le (f : Nat → Int32) (n i : Nat) : kd f n i ≤ 5 := by
  unfold kd
  repeat' split
  all_goals omega
theorem kd_lt {f : Nat → Int32} {n i : Nat} (h : kd f n i ≠ 0) : i < n := by
  unfold kd at h
  split at h
  · exact absurd rfl h
  · omega
theorem kd_end {f : Nat → Int32} {n i : Nat} (h : n ≤ i) : kd f n i = 0 := by
  unfold kd
  rw [if_pos h]
/-- where the next token begins, how long it is, its number, its word's number -/
def sk (f : Nat → Int32) (n b : Nat) : Nat := b + fa_first (fun j => kd f n (b + j) != 4) (n - b)
def tl (f : Nat → Int32) (n s : Nat) : Nat := if kd f n s = 0 then 0 else if kd f n s = 1 ∨ kd f n s = 2 then fa_first (fun j => kd f n (s + j) != kd f n s) (n - s) else 1
def dg (x : Int32) (c : Nat) : Nat := x.toInt.toNat - c
def vlC (f : Nat → Int32) (s : Nat) : Nat → Nat
  | 0 => 0
  | j + 1 => min 1000000 (10 * vlC f s j + dg (f (s + j)) 48)
def vlM (f : Nat → Int32) (s : Nat) : Nat → Nat
  | 0 => 0
  | j + 1 => if vlM f s j ≤ 100000 then 10 * vlM f s j + dg (f (s + j)) 48 else 1000000
def wc (f : Nat → Int32) (s : Nat) : Nat → Nat
  | 0 => 0
  | j + 1 => 27 * wc f s j + dg (f (s + j)) 96
theorem vlC_le (f : Nat → Int32) (s : Nat) : ∀ j, vlC f s j ≤ 1000000
  | 0 => Nat.zero_le _
  | j + 1 => Nat.min_le_left _ _
theorem tl_pos {f : Nat → Int32} {n s : Nat} (h : kd f n s ≠ 0) : 0 < tl f n s := by
  have hlt := kd_lt h
  unfold tl
  rw [if_neg h]
  split
  · rcases Nat.eq_zero_or_pos (fa_first (fun j => kd f n (s + j) != kd f n s) (n - s)) with z | z
    · have := fa_first_yes (fun j => kd f n (s + j) != kd f n s) (n - s) (by omega)
      rw [z] at this
      simp at this
    · exact z
  · omega
theorem tl_le {f : Nat → Int32} {n s : Nat} (hs : s ≤ n) : s + tl f n s ≤ n := by
  unfold tl
  split
  · omega
  · rename_i h
    have hlt := kd_lt h
    split
    · have := fa_first_le (fun j => kd f n (s + j) != kd f n s) (n - s)
      omega
    · omega
theorem tl_in {f : Nat → Int32} {n s j : Nat} (h : j < tl f n s) (hk : kd f n s = 1 ∨ kd f n s = 2) : kd f n (s + j) = kd f n s := by
  unfold tl at h
  rw [if_neg (by omega), if_pos hk] at h
  have := fa_first_no _ _ j h
  simpa using this
theorem tl_out {f : Nat → Int32} {n s : Nat} (hs : s ≤ n) (hk : kd f n s = 1 ∨ kd f n s = 2) : kd f n (s + tl f n s) ≠ kd f n s := by
  have e : tl f n s = fa_first (fun j => kd f n (s + j) != kd f n s) (n - s) := by
    unfold tl
    rw [if_neg (by omega), if_pos hk]
  have hle := fa_first_le (fun j => kd f n (s + j) != kd f n s) (n - s)
  rcases Nat.lt_or_ge (tl f n s) (n - s) with q | q
  · rw [e] at q ⊢
    have := fa_first_yes _ _ q
    simpa using this
  · have : kd f n (s + tl f n s) = 0 := kd_end (by omega)
    omega
theorem sk_le {f : Nat → Int32} {n b : Nat} (hb : b ≤ n) : b ≤ sk f n b ∧ sk f n b ≤ n := by
  have := fa_first_le (fun j => kd f n (b + j) != 4) (n - b)
  unfold sk
  omega
theorem sk_no {f : Nat → Int32} {n b : Nat} (hb : b ≤ n) : kd f n (sk f n b) ≠ 4 := by
  have hle := fa_first_le (fun j => kd f n (b + j) != 4) (n - b)
  unfold sk
  rcases Nat.lt_or_ge (fa_first (fun j => kd f n (b + j) != 4) (n - b)) (n - b) with q | q
  · have := fa_first_yes _ _ q
    simpa using this
  · have : kd f n (b + fa_first (fun j => kd f n (b + j) != 4) (n - b)) = 0 := kd_end (by omega)
    omega
theorem sk_in {f : Nat → Int32} {n b i : Nat} (h1 : b ≤ i) (h2 : i < sk f n b) : kd f n i = 4 := by
  unfold sk at h2
  have := fa_first_no (fun j => kd f n (b + j) != 4) (n - b) (i - b) (by omega)
  rw [show b + (i - b) = i by omega] at this
  simpa using this
theorem lt_lit {x : Int32} {c : Nat} (hc : c < 2 ^ 31) : x < nI c ↔ x.toInt < c := by rw [Int32.lt_iff_toInt_lt, nI_toInt hc]
theorem lit_lt {x : Int32} {c : Nat} (hc : c < 2 ^ 31) : nI c < x ↔ (c : Int) < x.toInt := by rw [Int32.lt_iff_toInt_lt, nI_toInt hc]
theorem eq_lit {x : Int32} {c : Nat} (hc : c < 2 ^ 31) : x = nI c ↔ x.toInt = c := by rw [← Int32.toInt_inj, nI_toInt hc]
theorem c_kindAt {f a : Nat → Int32} {n i : Nat} (hn : n ≤ 1600) (hi : i < 2 ^ 31) (ha : ∀ i, i < n → a i = f i) {post : Int32 → Prop} (h : post (nI (kd f n i))) : P_X8_kindAt a (nI n) (nI i) post := by
  refine ⟨fun c => absurd c (nI_pos (by omega)), fun _ => ⟨fun c => ?_, fun c => ?_⟩⟩
  · have hlt := (nI_ltI (by omega) (by omega)).mp c
    refine ⟨vp_in_nI (by omega) (by decide), fun x hx => ?_⟩
    rw [nI_clamp (by omega), ha i hlt] at hx
    subst hx
    unfold kd isLt isDg isBk at h
    rw [if_neg (by omega)] at h
    have K49 : ¬ (97 ≤ (f i).toInt ∧ (f i).toInt ≤ 122) → ¬ (48 ≤ (f i).toInt ∧ (f i).toInt ≤ 57) → P_X8_kindAt_49 a (nI n) (nI i) post (f i) := by
      intro h1 h2
      rw [if_neg (by simpa using h1), if_neg (by simpa using h2)] at h
      refine ⟨fun c => ?_, fun c => ⟨fun c2 => ⟨fun c3 => ?_, fun c3 => ?_⟩, fun c2 => ?_⟩⟩
      · have := (eq_lit (c := 32) (by decide)).mp c
        rw [if_pos (by simp; omega)] at h
        exact h
      · have e1 : (f i).toInt ≠ 32 := fun q => c ((eq_lit (c := 32) (by decide)).mpr q)
        have e2 : (f i).toInt ≠ 10 := fun q => c2 ((eq_lit (c := 10) (by decide)).mpr q)
        have e3 : (f i).toInt ≠ 59 := fun q => c3 ((eq_lit (c := 59) (by decide)).mpr q)
        rw [if_neg (by simp; omega), if_neg e3] at h
        exact h
      · have e1 : (f i).toInt ≠ 32 := fun q => c ((eq_lit (c := 32) (by decide)).mpr q)
        have e2 : (f i).toInt ≠ 10 := fun q => c2 ((eq_lit (c := 10) (by decide)).mpr q)
        have e3 : (f i).toInt = 59 := (eq_lit (c := 59) (by decide)).mp c3
        rw [if_neg (by simp; omega), if_pos e3] at h
        exact h
      · have := (eq_lit (c := 10) (by decide)).mp c2
        rw [if_pos (by simp; omega)] at h
        exact h
    have K35 : ¬ (97 ≤ (f i).toInt ∧ (f i).toInt ≤ 122) → P_X8_kindAt_35 a (nI n) (nI i) post (f i) := by
      intro h1
      refine ⟨fun c => K49 h1 ?_, fun c => ⟨fun c2 => K49 h1 ?_, fun c2 => ?_⟩⟩
      · have := (lt_lit (c := 48) (by decide)).mp c
        omega
      · have := (lit_lt (c := 57) (by decide)).mp c2
        omega
      · have e1 : ¬ (f i).toInt < 48 := fun q => c ((lt_lit (c := 48) (by decide)).mpr q)
        have e2 : ¬ (57 : Int) < (f i).toInt := fun q => c2 ((lit_lt (c := 57) (by decide)).mpr q)
        rw [if_neg (by simpa using h1), if_pos (by simp; omega)] at h
        exact h
    refine ⟨fun c => K35 ?_, fun c => ⟨fun c2 => K35 ?_, fun c2 => ?_⟩⟩
    · have := (lt_lit (c := 97) (by decide)).mp c
      omega
    · have := (lit_lt (c := 122) (by decide)).mp c2
      omega
    · have e1 : ¬ (f i).toInt < 97 := fun q => c ((lt_lit (c := 97) (by decide)).mpr q)
      have e2 : ¬ (122 : Int) < (f i).toInt := fun q => c2 ((lit_lt (c := 122) (by decide)).mpr q)
      rw [if_pos (by simp; omega)] at h
      exact h
  · have hge : n ≤ i := by
      rcases Nat.lt_or_ge i n with q | q
      · exact absurd (nI_lt q (by omega)) c
      · exact q
    unfold kd at h
    rw [if_pos hge] at h
    exact h
theorem kd_dig {f : Nat → Int32} {n i : Nat} (h : kd f n i = 2) : 48 ≤ (f i).toInt ∧ (f i).toInt ≤ 57 := by
  unfold kd at h
  split at h
  · omega
  · split at h
    · omega
    · split at h
      · rename_i q
        unfold isDg at q
        simpa using q
      · split at h
        · omega
        · split at h <;> omega
theorem kd_let {f : Nat → Int32} {n i : Nat} (h : kd f n i = 1) : 97 ≤ (f i).toInt ∧ (f i).toInt ≤ 122 := by
  unfold kd at h
  split at h
  · omega
  · split at h
    · rename_i q
      unfold isLt at q
      simpa using q
    · split at h
      · omega
      · split at h
        · omega
        · split at h <;> omega
theorem c_step {f a : Nat → Int32} {n b : Nat} (hn : n ≤ 1600) (hb : b ≤ n) (ha : ∀ i, i < n → a i = f i) (x y z : Int32) {post : Int32 → Int32 → Int32 → Int32 → Prop} (h : post (nI (sk f n b)) (nI (sk f n b + tl f n (sk f n b))) (nI (kd f n (sk f n b))) (nI (if kd f n (sk f n b) = 2 then vlC f (sk f n b) (tl f n (sk f n b)) else 0))) : P_X8_step a (nI n) x (nI b) y z post := by
  obtain ⟨s1, s2⟩ := sk_le (f := f) hb
  have hk5 := kd_le f n (sk f n b)
  have hno := sk_no (f := f) hb
  -- the token
  have T : P_X8_step_44 a (nI n) post (nI (sk f n b)) (nI b) y z := by
    refine c_kindAt hn (by omega) ha ?_
    generalize hs : sk f n b = s at *
    generalize hk : kd f n s = k at *
    have htl := tl_le (f := f) (show s ≤ n by omega)
    refine ⟨fun c => ?_, fun c => ?_⟩
    · have k0 : k = 0 := (nI_eq (b := 0) (by omega) (by decide)).mp c
      have e : tl f n s = 0 := by unfold tl; rw [if_pos (by omega)]
      rw [e, if_neg (by omega), Nat.add_zero] at h
      exact ⟨1, fun _ => h, fun q => absurd rfl q⟩
    · have k0 : k ≠ 0 := fun q => c (by rw [q]; rfl)
      have hlt : s < n := kd_lt (f := f) (by omega)
      have hp := tl_pos (f := f) (n := n) (s := s) (by omega)
      have L : ∀ (d j : Nat), j + d = tl f n s → P_X8_step_82 a (nI n) post (nI s) (nI k) (d + 1) (if j < tl f n s then 1 else 0) (nI (s + j)) (nI (if k = 2 then vlC f s j else 0)) := by
        intro d
        induction d with
        | zero =>
          intro j hj
          obtain rfl : j = tl f n s := by omega
          rw [if_neg (Nat.lt_irrefl _)]
          exact ⟨fun _ => h, fun q => absurd rfl q⟩
        | succ d ih =>
          intro j hj
          have hj2 : j < tl f n s := by omega
          rw [if_pos hj2]
          have go := ih (j + 1) (by omega)
          refine ⟨fun q => absurd q (by decide), fun _ => ⟨fun q => absurd ((nI_leI (by omega) (by omega)).mp q) (by omega), fun _ => ?_⟩⟩
          have N : ∀ w : Int32, w = nI (if k = 2 then vlC f s (j + 1) else 0) → P_X8_step_134 a (nI n) (nI s) (nI k) post (P_X8_step_82 a (nI n) post (nI s) (nI k) (d + 1)) (nI (s + j)) w := by
            intro w hw x3 hx3
            rw [nI_1] at hx3
            subst hx3
            subst hw
            have K160 : k = 1 ∨ k = 2 → P_X8_step_160 a (nI n) (nI s) (nI k) post (P_X8_step_82 a (nI n) post (nI s) (nI k) (d + 1)) (nI (s + j + 1)) (nI (if k = 2 then vlC f s (j + 1) else 0)) := by
              intro hk12
              refine c_kindAt hn (by omega) ha ?_
              have hk5' := kd_le f n (s + j + 1)
              rw [nI_eq (by omega) (by omega)]
              by_cases q : j + 1 < tl f n s
              · rw [if_pos q] at go
                have := tl_in q (by omega)
                rw [hk] at this
                exact ⟨fun w => absurd this w, fun _ => go⟩
              · rw [if_neg q] at go
                have hh := tl_out (f := f) (show s ≤ n by omega) (by omega)
                rw [show tl f n s = j + 1 by omega, hk] at hh
                exact ⟨fun _ => go, fun w => absurd w hh⟩
            refine ⟨fun q => K160 (Or.inl ((nI_eq (b := 1) (by omega) (by decide)).mp q)), fun q1 => ⟨fun q2 => ?_, fun q2 => K160 (Or.inr ((nI_eq (b := 2) (by omega) (by decide)).mp q2))⟩⟩
            have n1 : k ≠ 1 := fun e => q1 (by rw [e]; rfl)
            have n2 : k ≠ 2 := fun e => q2 (by rw [e]; rfl)
            have e : tl f n s = 1 := by unfold tl; rw [if_neg (by omega), if_neg (by omega)]
            rw [if_neg (by omega)] at go
            exact go
          refine ⟨fun q => N _ ?_, fun q => ⟨vp_in_nI (by omega) (by decide), fun w hw => N _ ?_⟩⟩
          · have n2 : k ≠ 2 := fun e => q (by rw [e]; rfl)
            rw [if_neg n2, if_neg n2]
          · have k2 : k = 2 := (nI_eq (b := 2) (by omega) (by decide)).mp q
            have hd := kd_dig (f := f) (n := n) (i := s + j) (by rw [tl_in hj2 (by omega)]; omega)
            have hv := vlC_le f s j
            rw [if_pos k2]
            rw [if_pos k2, nI_clamp (by omega), ha _ (by omega)] at hw
            have e : (10 * nI (vlC f s j) + f (s + j)) - 48 = nI (10 * vlC f s j + dg (f (s + j)) 48) := by
              have ef : f (s + j) = nI (f (s + j)).toInt.toNat := by
                apply Int32.toInt_inj.mp
                rw [nI_toInt (by omega)]
                omega
              conv => lhs; rw [ef]
              rw [show (10 : Int32) = nI 10 from rfl, pk_mul, nI_add, show (48 : Int32) = nI 48 from rfl, pk_sub (by omega)]
              congr 1
              unfold dg
              omega
            rw [e] at hw
            rw [hw, vlC]
            have hdg : dg (f (s + j)) 48 ≤ 9 := by unfold dg; omega
            by_cases q : 10 * vlC f s j + dg (f (s + j)) 48 < 1000000
            · have c' : nI (10 * vlC f s j + dg (f (s + j)) 48) < 1000000 := nI_lt (b := 1000000) q (by decide)
              rw [if_pos c', Nat.min_eq_right (by omega)]
            · have c' : ¬ nI (10 * vlC f s j + dg (f (s + j)) 48) < 1000000 := nI_nlt (b := 1000000) (by omega) (by omega)
              rw [if_neg c', Nat.min_eq_left (by omega)]
              rfl
      have := L (tl f n s) 0 (by omega)
      rw [if_pos hp] at this
      have e0 : (if k = 2 then vlC f s 0 else 0) = 0 := by split <;> rfl
      rw [e0] at this
      exact ⟨tl f n s + 1, this⟩
  have L : ∀ (d i : Nat), i + d = sk f n b → b ≤ i → P_X8_step_8 a (nI n) post (fun (a_spot : Int32) (a_behind : Int32) (a_kind : Int32) (a_number : Int32) => P_X8_step_44 a (nI n) post a_spot a_behind a_kind a_number) (nI b) y z (d + 1) (nI i) := by
    intro d
    induction d with
    | zero =>
      intro i hi hbi
      obtain rfl : i = sk f n b := by omega
      refine ⟨fun _ => T, fun _ => c_kindAt hn (by omega) ha ⟨fun _ => T, fun c => absurd ((nI_eq (b := 4) (by omega) (by decide)).mp c) hno⟩⟩
    | succ d ih =>
      intro i hi hbi
      have h4 := sk_in hbi (show i < sk f n b by omega)
      have hin := kd_lt (f := f) (n := n) (i := i) (by omega)
      refine ⟨fun c => absurd ((nI_leI (by omega) (by omega)).mp c) (by omega), fun _ => c_kindAt hn (by omega) ha ?_⟩
      rw [h4]
      refine ⟨fun c => absurd rfl c, fun _ x hx => ?_⟩
      rw [nI_1] at hx
      rw [hx]
      exact ih (i + 1) (by omega) (by omega)
  exact ⟨sk f n b - b + 1, L (sk f n b - b) b (by omega) (Nat.le_refl _)⟩
end
section
/-! the reference's tokens -/
theorem kd_cases {f : Nat → Int32} {n i : Nat} (h : i < n) : (kd f n i = 1 ∧ 97 ≤ (f i).toInt ∧ (f i).toInt ≤ 122) ∨ (kd f n i = 2 ∧ 48 ≤ (f i).toInt ∧ (f i).toInt ≤ 57) ∨ (kd f n i = 4 ∧ ((f i).toInt = 32 ∨ (f i).toInt = 10)) ∨ (kd f n i = 3 ∧ (f i).toInt = 59) ∨ (kd f n i = 5 ∧ ¬ (97 ≤ (f i).toInt ∧ (f i).toInt ≤ 122) ∧ ¬ (48 ≤ (f i).toInt ∧ (f i).toInt ≤ 57) ∧ (f i).toInt ≠ 32 ∧ (f i).toInt ≠ 10 ∧ (f i).toInt ≠ 59) := by
  unfold kd isLt isDg isBk
  rw [if_neg (by omega)]
  by_cases c1 : 97 ≤ (f i).toInt ∧ (f i).toInt ≤ 122
  · rw [if_pos (by simpa using c1)]
    exact Or.inl ⟨rfl, c1⟩
  · rw [if_neg (by simpa using c1)]
    by_cases c2 : 48 ≤ (f i).toInt ∧ (f i).toInt ≤ 57
    · rw [if_pos (by simpa using c2)]
      exact Or.inr (Or.inl ⟨rfl, c2⟩)
    · rw [if_neg (by simpa using c2)]
      by_cases c3 : (f i).toInt = 32 ∨ (f i).toInt = 10
      · rw [if_pos (by simpa using c3)]
        exact Or.inr (Or.inr (Or.inl ⟨rfl, c3⟩))
      · rw [if_neg (by simpa using c3)]
        by_cases c4 : (f i).toInt = 59
        · rw [if_pos c4]
          exact Or.inr (Or.inr (Or.inr (Or.inl ⟨rfl, c4⟩)))
        · rw [if_neg c4]
          exact Or.inr (Or.inr (Or.inr (Or.inr ⟨rfl, c1, c2, fun e => c3 (Or.inl e), fun e => c3 (Or.inr e), c4⟩)))
def kM (k : Nat) : Nat := if k = 5 then 4 else k
def cdW (f : Nat → Int32) (s j : Nat) : Int64 := if j ≤ 12 then lN (wc f s j) else -1
theorem vlM_le (f : Nat → Int32) (s : Nat) (n : Nat) : ∀ j, (∀ i, i < j → kd f n (s + i) = 2) → vlM f s j ≤ 1000009
  | 0, _ => Nat.zero_le _
  | j + 1, h => by
    have ih := vlM_le f s n j (fun i hi => h i (by omega))
    have hd := kd_dig (h j (by omega))
    rw [vlM]
    unfold dg
    split <;> omega
theorem vl_both (f : Nat → Int32) (s : Nat) (n : Nat) : ∀ j, (∀ i, i < j → kd f n (s + i) = 2) → vlC f s j = min 1000000 (vlM f s j)
  | 0, _ => rfl
  | j + 1, h => by
    have ih := vl_both f s n j (fun i hi => h i (by omega))
    have hd := kd_dig (h j (by omega))
    rw [vlC, vlM, ih]
    unfold dg
    split <;> omega
section NX
variable {ms : A1} {ma : A2}
theorem m_isByte {mt : A1} {f : Nat → Int32} {n i lo hi : Nat} (hn : n ≤ 1600) (hi' : i ≤ 1600) (h1 : mt 1 = nI n) (ha : ∀ i, i < n → ma 2 i = f i) (hlo : lo < 200) (hhi : hi < 200) {post : Int32 → Prop} (hy : i < n → (lo : Int) ≤ (f i).toInt → (f i).toInt ≤ hi → post 1) (hno : ¬ (i < n ∧ (lo : Int) ≤ (f i).toInt ∧ (f i).toInt ≤ hi) → post 0) : P_X12_isByte mt ma (nI i) (nI lo) (nI hi) post := by
  unfold P_X12_isByte
  rw [h1, nI_leI (by omega) (by omega), nI_clamp (by omega)]
  refine ⟨fun c => hno (by omega), fun c => ⟨vp_in_nI (by omega) (by decide), ?_⟩⟩
  rw [ha i (by omega), lt_lit (by omega), lit_lt (by omega)]
  exact ⟨fun c2 => hno (by omega), fun c2 => ⟨vp_in_nI (by omega) (by decide), fun c3 => hno (by omega), fun c3 => hy (by omega) (by omega) (by omega)⟩⟩
theorem m_next {f : Nat → Int32} {n b : Nat} (hn : n ≤ 1600) (hb : b ≤ n) (h1 : ms 1 = nI n) (h2 : ms 2 = nI b) (ha : ∀ i, i < n → ma 2 i = f i) (mw : Nat → Int64) {post : A1 → (Nat → Int64) → Prop} (h : ∀ mt mw', (∀ j, j < 2 ∨ 5 < j → mt j = ms j) → mt 2 = nI (sk f n b + tl f n (sk f n b)) → mt 3 = nI (kM (kd f n (sk f n b))) → mt 4 = nI (sk f n b) → mt 5 = nI (if kd f n (sk f n b) = 2 then vlM f (sk f n b) (tl f n (sk f n b)) else 0) → (∀ j, j ≠ 0 → mw' j = mw j) → mw' 0 = (if kd f n (sk f n b) = 1 then cdW f (sk f n b) (tl f n (sk f n b)) else 0) → post mt mw') : P_X12_next ms mw ma post := by
  obtain ⟨s1, s2⟩ := sk_le (f := f) hb
  have hno := sk_no (f := f) hb
  -- the token
  have T : ∀ mt : A1, (∀ j, j ≠ 2 → mt j = ms j) → mt 2 = nI (sk f n b) → P_X12_next_43 ma post mt mw := by
    intro mt q1 q2
    have e1 : mt 1 = nI n := (q1 1 (by decide)).trans h1
    generalize hs : sk f n b = s at *
    have htl := tl_le (f := f) (show s ≤ n by omega)
    intro x hx
    rw [q2] at hx
    subst hx
    rw [q2, e1, nI_eq (by omega) (by omega)]
    refine ⟨fun c => ?_, fun c => ?_⟩
    · have hlt : s < n := by omega
      have hkc := kd_cases (f := f) hlt
      refine m_isByte (lo := 97) (hi := 122) hn (by omega) (by rw [up_ne (by decide), up_ne (by decide)]; exact e1) ha (by decide) (by decide) (fun _ l1 l2 => b1f ?_) (fun l => b0f ?_)
      · -- a word
        have k1 : kd f n s = 1 := by omega
        rw [k1] at h
        have L : ∀ (d j : Nat) (m : A1) (w : Nat → Int64), j + d = tl f n s → (∀ y, y < 2 ∨ 5 < y → m y = ms y) → m 2 = nI (s + j) → m 3 = 1 → m 4 = nI s → m 5 = 0 → (∀ y, y ≠ 0 → w y = mw y) → w 0 = cdW f s j → P_X12_next_102 ma post (d + 1) (nI j) m w := by
          intro d
          induction d with
          | zero =>
            intro j m w hj r1 r2 r3 r4 r5 r6 r7
            obtain rfl : j = tl f n s := by omega
            unfold P_X12_next_102 P_X12_next_102_b
            rw [r2]
            have ho := tl_out (f := f) (n := n) (s := s) (by omega) (Or.inl k1)
            refine m_isByte (lo := 97) (hi := 122) hn (by omega) ((r1 1 (by decide)).trans h1) ha (by decide) (by decide) (fun z1 z2 z3 => ?_) (fun _ => b0f (h m w r1 r2 r3 r4 r5 r6 r7))
            exfalso
            have := kd_cases (f := f) z1
            omega
          | succ d ih =>
            intro j m w hj r1 r2 r3 r4 r5 r6 r7
            unfold P_X12_next_102 P_X12_next_102_b
            rw [r2]
            have hin := tl_in (f := f) (n := n) (s := s) (j := j) (by omega) (Or.inl k1)
            have hl := kd_let (hin.trans k1)
            refine m_isByte (lo := 97) (hi := 122) hn (by omega) ((r1 1 (by decide)).trans h1) ha (by decide) (by decide) (fun _ _ _ => b1f ?_) (fun z => absurd ⟨by omega, hl.1, hl.2⟩ z)
            have G : ∀ w' : Nat → Int64, (∀ y, y ≠ 0 → w' y = mw y) → w' 0 = cdW f s (j + 1) → P_X12_next_102 ma post (d + 1) (nI (j + 1)) (va_up m 2 (nI (s + (j + 1)))) w' := fun w' u1 u2 => ih (j + 1) _ w' (by omega) (fun y hy => by rw [up_ne (by omega)]; exact r1 y hy) up_at (by rw [up_ne (by decide)]; exact r3) (by rw [up_ne (by decide)]; exact r4) (by rw [up_ne (by decide)]; exact r5) u1 u2
            rw [show (nI j ≤ (11 : Int32)) = (nI j ≤ nI 11) from rfl, nI_leI (show j < 2 ^ 31 by omega) (by decide), nI_clamp (by omega), ha _ (by omega)]
            refine ⟨fun z => ⟨vp_in_nI (by omega) (by decide), ?_⟩, fun z => ?_⟩
            · unfold P_X12_next_153
              rw [show (nI j ≤ (11 : Int32)) = (nI j ≤ nI 11) from rfl, nI_leI (show j < 2 ^ 31 by omega) (by decide), r2, nI_1, nI_1]
              refine ⟨fun _ x hx => ?_, fun q => absurd z q⟩
              rw [hx]
              refine G _ (fun y hy => by rw [up_ne hy]; exact r6 y hy) ?_
              rw [up_at, r7]
              unfold cdW
              rw [if_pos (by omega), if_pos (by omega), wc]
              have ef : f (s + j) = nI (f (s + j)).toInt.toNat := by
                apply Int32.toInt_inj.mp
                rw [nI_toInt (by omega)]
                omega
              have e2 : (f (s + j)).toInt64 = lN (f (s + j)).toInt.toNat := by
                conv => lhs; rw [ef]
                rw [nI_l (by omega)]
              rw [e2, show (27 : Int64) = lN 27 from rfl, lN_mul, lN_add, show (96 : Int64) = lN 96 from rfl, lN_sub (by omega)]
              congr 1
              unfold dg
              omega
            · unfold P_X12_next_153
              rw [show (nI j ≤ (11 : Int32)) = (nI j ≤ nI 11) from rfl, nI_leI (show j < 2 ^ 31 by omega) (by decide), r2, nI_1, nI_1]
              refine ⟨fun q => absurd q z, fun _ x hx => ?_⟩
              rw [hx]
              refine G _ (fun y hy => by rw [up_ne hy]; exact r6 y hy) ?_
              rw [up_at]
              unfold cdW
              rw [if_neg (by omega)]
        refine ⟨tl f n s + 1, L (tl f n s) 0 _ _ (by omega) (fun y hy => by rw [up_ne (by omega), up_ne (by omega), up_ne (by omega)]; exact q1 y (by omega)) (by rw [up_ne (by decide), up_ne (by decide), up_ne (by decide)]; exact q2) (by rw [up_ne (by decide), up_ne (by decide), up_at]) (by rw [up_ne (by decide), up_at]) up_at (fun y hy => up_ne hy) (by rw [up_at]; rfl)⟩
      · refine m_isByte (lo := 48) (hi := 57) hn (by omega) (by rw [up_ne (by decide), up_ne (by decide)]; exact e1) ha (by decide) (by decide) (fun _ l1 l2 => b1f ?_) (fun l' => b0f ?_)
        · -- a number
          have k2 : kd f n s = 2 := by omega
          rw [k2] at h
          have L : ∀ (d j : Nat) (m : A1), j + d = tl f n s → (∀ y, y < 2 ∨ 5 < y → m y = ms y) → m 2 = nI (s + j) → m 3 = 2 → m 4 = nI s → m 5 = nI (vlM f s j) → P_X12_next_208 ma post (va_up mw 0 0) (d + 1) m := by
            intro d
            induction d with
            | zero =>
              intro j m hj r1 r2 r3 r4 r5
              obtain rfl : j = tl f n s := by omega
              unfold P_X12_next_208 P_X12_next_208_b
              rw [r2]
              have ho := tl_out (f := f) (n := n) (s := s) (by omega) (Or.inr k2)
              refine m_isByte (lo := 48) (hi := 57) hn (by omega) ((r1 1 (by decide)).trans h1) ha (by decide) (by decide) (fun z1 z2 z3 => ?_) (fun _ => b0f (h m _ r1 r2 r3 r4 r5 (fun y hy => up_ne hy) up_at))
              exfalso
              have := kd_cases (f := f) z1
              omega
            | succ d ih =>
              intro j m hj r1 r2 r3 r4 r5
              unfold P_X12_next_208 P_X12_next_208_b
              rw [r2, r5]
              have hin : ∀ i, i < tl f n s → kd f n (s + i) = 2 := fun i hi => (tl_in hi (Or.inr k2)).trans k2
              have hl := kd_dig (hin j (by omega))
              have hle := vlM_le f s n j (fun i hi => hin i (by omega))
              refine m_isByte (lo := 48) (hi := 57) hn (by omega) ((r1 1 (by decide)).trans h1) ha (by decide) (by decide) (fun _ _ _ => b1f ?_) (fun z => absurd ⟨by omega, hl.1, hl.2⟩ z)
              have G : ∀ x7 : Int32, x7 = nI (vlM f s (j + 1)) → P_X12_next_208 ma post (va_up mw 0 0) (d + 1) (va_up (va_up m 2 (nI (s + (j + 1)))) 5 x7) := fun x7 hx7 => ih (j + 1) _ (by omega) (fun y hy => by rw [up_ne (by omega), up_ne (by omega)]; exact r1 y hy) (by rw [up_ne (by decide), up_at]) (by rw [up_ne (by decide), up_ne (by decide)]; exact r3) (by rw [up_ne (by decide), up_ne (by decide)]; exact r4) (by rw [up_at]; exact hx7)
              rw [show (nI (vlM f s j) ≤ (100000 : Int32)) = (nI (vlM f s j) ≤ nI 100000) from rfl, nI_leI (show vlM f s j < 2 ^ 31 by omega) (by decide), nI_clamp (by omega), ha _ (by omega), nI_1]
              refine ⟨fun z => ⟨vp_in_nI (by omega) (by decide), fun x7 hx7 x8 hx8 => ?_⟩, fun z x9 hx9 => ?_⟩
              · rw [hx8]
                refine G x7 ?_
                have ef : f (s + j) = nI (f (s + j)).toInt.toNat := by
                  apply Int32.toInt_inj.mp
                  rw [nI_toInt (by omega)]
                  omega
                rw [hx7, vlM, if_pos z]
                conv => lhs; rw [ef]
                rw [show (10 : Int32) = nI 10 from rfl, pk_mul, nI_add, show (48 : Int32) = nI 48 from rfl, pk_sub (by omega)]
                congr 1
                unfold dg
                omega
              · rw [hx9]
                refine G _ ?_
                rw [vlM, if_neg z]
                rfl
          refine ⟨tl f n s + 1, L (tl f n s) 0 _ (by omega) (fun y hy => by rw [up_ne (by omega), up_ne (by omega), up_ne (by omega)]; exact q1 y (by omega)) (by rw [up_ne (by decide), up_ne (by decide), up_ne (by decide)]; exact q2) (by rw [up_ne (by decide), up_ne (by decide), up_at]) (by rw [up_ne (by decide), up_at]) up_at⟩
        · -- one sign
          have k35 : kd f n s = 3 ∨ kd f n s = 5 := by omega
          have e : tl f n s = 1 := by unfold tl; rw [if_neg (by omega), if_neg (by omega)]
          rw [nI_clamp (by omega), ha s hlt]
          refine ⟨vp_in_nI (by omega) (by decide), fun z x hx => ?_, fun z x hx => ?_⟩
          · have z' : (f s).toInt ≠ 59 := fun q => z ((eq_lit (c := 59) (by decide)).mpr q)
            have k5 : kd f n s = 5 := by omega
            rw [k5, e] at h
            rw [nI_1] at hx
            subst hx
            exact h _ _ (fun y hy => by rw [up_ne (by omega), up_ne (by omega), up_ne (by omega), up_ne (by omega)]; exact q1 y (by omega)) (by rw [up_ne (by decide), up_ne (by decide), up_ne (by decide), up_at]) (by rw [up_ne (by decide), up_ne (by decide), up_at]; rfl) (by rw [up_ne (by decide), up_at]) (by rw [up_at]; rfl) (fun y hy => up_ne hy) (by rw [up_at]; rfl)
          · have z' : (f s).toInt = 59 := (eq_lit (c := 59) (by decide)).mp z
            have k3 : kd f n s = 3 := by omega
            rw [k3, e] at h
            rw [nI_1] at hx
            subst hx
            exact h _ _ (fun y hy => by rw [up_ne (by omega), up_ne (by omega), up_ne (by omega), up_ne (by omega)]; exact q1 y (by omega)) (by rw [up_ne (by decide), up_ne (by decide), up_ne (by decide), up_at]) (by rw [up_ne (by decide), up_ne (by decide), up_at]; rfl) (by rw [up_ne (by decide), up_at]) (by rw [up_at]; rfl) (fun y hy => up_ne hy) (by rw [up_at]; rfl)
    · have k0 : kd f n s = 0 := kd_end (by omega)
      have e : tl f n s = 0 := by unfold tl; rw [if_pos k0]
      rw [k0, e] at h
      exact h _ _ (fun y hy => by rw [up_ne (by omega), up_ne (by omega), up_ne (by omega)]; exact q1 y (by omega)) (by rw [up_ne (by decide), up_ne (by decide), up_ne (by decide)]; exact q2) (by rw [up_ne (by decide), up_ne (by decide), up_at]; rfl) (by rw [up_ne (by decide), up_at]) (by rw [up_at]; rfl) (fun y hy => up_ne hy) (by rw [up_at]; rfl)
  have L : ∀ (d i : Nat) (mt : A1), i + d = sk f n b → b ≤ i → (∀ j, j ≠ 2 → mt j = ms j) → mt 2 = nI i → P_X12_next_0 ma post (fun (ms : Nat → Int32) (mw : Nat → Int64) => P_X12_next_43 ma post ms mw) mw (d + 1) mt := by
    intro d
    induction d with
    | zero =>
      intro i mt hi hbi q1 q2
      obtain rfl : i = sk f n b := by omega
      have e1 : mt 1 = nI n := (q1 1 (by decide)).trans h1
      unfold P_X12_next_0 P_X12_next_0_b
      rw [q2]
      have hx : ∀ c, (c = 32 ∨ c = 10) → ¬ (sk f n b < n ∧ ((c : Nat) : Int) ≤ (f (sk f n b)).toInt ∧ (f (sk f n b)).toInt ≤ (c : Nat)) := by
        intro c hc q
        have := kd_cases (f := f) q.1
        omega
      refine m_isByte (lo := 32) (hi := 32) hn (by omega) e1 ha (by decide) (by decide) (fun z1 z2 z3 => absurd ⟨z1, z2, z3⟩ (hx 32 (Or.inl rfl))) (fun _ => b0t ?_)
      exact m_isByte (lo := 10) (hi := 10) hn (by omega) e1 ha (by decide) (by decide) (fun z1 z2 z3 => absurd ⟨z1, z2, z3⟩ (hx 10 (Or.inr rfl))) (fun _ => b0f (T mt q1 q2))
    | succ d ih =>
      intro i mt hi hbi q1 q2
      have e1 : mt 1 = nI n := (q1 1 (by decide)).trans h1
      have h4 := sk_in hbi (show i < sk f n b by omega)
      have hin := kd_lt (f := f) (n := n) (i := i) (by omega)
      have hkc := kd_cases (f := f) hin
      have go : P_X12_next_0 ma post (fun (ms : Nat → Int32) (mw : Nat → Int64) => P_X12_next_43 ma post ms mw) mw (d + 1) (va_up mt 2 (nI (i + 1))) := ih (i + 1) _ (by omega) (by omega) (fun j hj => by rw [up_ne hj]; exact q1 j hj) up_at
      unfold P_X12_next_0 P_X12_next_0_b
      rw [q2]
      refine m_isByte (lo := 32) (hi := 32) hn (by omega) e1 ha (by decide) (by decide) (fun _ _ _ => b1t (fun x hx => ?_)) (fun z => b0t ?_)
      · rw [hx, nI_1]
        exact go
      · refine m_isByte (lo := 10) (hi := 10) hn (by omega) e1 ha (by decide) (by decide) (fun _ _ _ => b1f (fun x hx => ?_)) (fun z2 => ?_)
        · rw [hx, nI_1]
          exact go
        · exfalso
          omega
  exact ⟨sk f n b - b + 1, L (sk f n b - b) b ms (by omega) (Nat.le_refl _) (fun _ _ => rfl) h2⟩
end NX
end
section
def P_X8_isWord_28_b (a_bytes : Nat → Int32) (a_spot : Int32) (a_behind : Int32) (a_kind : Int32) (p1 : List Int32)  (post : Int32 → Prop)   (R28 : (Int32) → Prop) (x2_ : Int32) : Prop := (((Int32.ofNat p1.length) ≤ x2_) → post 1 ) ∧ ((¬ (Int32.ofNat p1.length) ≤ x2_) → vp_in (a_spot + x2_) 1600 ∧ (vp_in x2_ p1.length ∧ ((((a_bytes ((a_spot + x2_).toNatClampNeg)) = (p1.getD x2_.toNatClampNeg 0)) → R28 (x2_ + 1)) ∧ ((¬ (a_bytes ((a_spot + x2_).toNatClampNeg)) = (p1.getD x2_.toNatClampNeg 0)) → post 0 ))))
def P_X8_isWord_28 (a_bytes : Nat → Int32) (a_spot : Int32) (a_behind : Int32) (a_kind : Int32) (p1 : List Int32)  (post : Int32 → Prop)   : Nat → (Int32) → Prop
  | 0 => fun _ => False
  | n + 1 => fun x2_ => P_X8_isWord_28_b a_bytes a_spot a_behind a_kind p1 post   (P_X8_isWord_28 a_bytes a_spot a_behind a_kind p1 post   n) x2_
def P_X8_isWord (a_bytes : Nat → Int32) (a_spot : Int32) (a_behind : Int32) (a_kind : Int32) (p1 : List Int32) (post : Int32 → Prop) : Prop := ((¬ a_kind = 1) → post 0 ) ∧ ((a_kind = 1) → (((a_behind - a_spot) = (Int32.ofNat p1.length)) → (∃ n : Nat, P_X8_isWord_28 a_bytes a_spot a_behind a_kind p1 post   n 0)) ∧ ((¬ (a_behind - a_spot) = (Int32.ofNat p1.length)) → post 0 ))
def P_X5_readWord_28 (ua : Nat → Nat → Int32) (p1 : List Int32)  (post : (Nat → Int32) → Prop)  (us : Nat → Int32) : Prop := P_X5_fail  us 1 (fun (us_1 : Nat → Int32) => (post us_1))
def P_X5_readWord (us : Nat → Int32) (ua : Nat → Nat → Int32) (p1 : List Int32) (post : (Nat → Int32) → Prop) : Prop := ((¬ (us 0) = 0) → P_X5_readWord_28 ua p1 post  us) ∧ (((us 0) = 0) → P_X8_isWord  (ua 0) (us 3) (us 4) (us 5) p1 (fun (r3 : Int32) => (((r3 = 0) → P_X5_readWord_28 ua p1 post  us) ∧ ((¬ r3 = 0) → P_X8_step  (ua 0) (us 2) (us 3) (us 4) (us 5) (us 6)  (fun (spo_5 : Int32) (beh_6 : Int32) (kin_7 : Int32) (num_8 : Int32) => (post (va_up (va_up (va_up (va_up us 3 spo_5) 4 beh_6) 5 kin_7) 6 num_8)))))))
def P_X5_readRail (us : Nat → Int32) (ua : Nat → Nat → Int32) (rs : Nat → Int32) (post : (Nat → Int32) → (Nat → Int32) → Prop) : Prop := P_X5_readWord  us ua ([114, 97, 105, 108]) (fun (us_1 : Nat → Int32) => (P_X5_readWord  us_1 ua ([112, 108, 97, 99, 101, 115]) (fun (us_2 : Nat → Int32) => (P_X5_readNumber  us_2 ua 1 20 (fun (r4 : Int32) (us_3 : Nat → Int32) => (P_X5_readWord  us_3 ua ([110, 105, 103, 104, 116, 115]) (fun (us_5 : Nat → Int32) => (P_X5_readNumber  us_5 ua 1 60 (fun (r7 : Int32) (us_6 : Nat → Int32) => (post us_6 (va_up (va_up rs 0 r4) 1 r7)))))))))))
def P_X5_readLamp (us : Nat → Int32) (ua : Nat → Nat → Int32) (rs : Nat → Int32) (ra : Nat → Nat → Int32) (post : (Nat → Int32) → (Nat → Int32) → (Nat → Nat → Int32) → Prop) : Prop := P_X5_readWord  us ua ([97, 116]) (fun (us_1 : Nat → Int32) => (P_X5_readNumber  us_1 ua 0 ((rs 0) - 1) (fun (r3 : Int32) (us_2 : Nat → Int32) => (P_X5_readWord  us_2 ua ([98, 114, 105, 103, 104, 116]) (fun (us_4 : Nat → Int32) => (P_X5_readNumber  us_4 ua 0 99 (fun (r6 : Int32) (us_5 : Nat → Int32) => (((¬ (us_5 0) = 0) → post us_5 rs ra) ∧ (((us_5 0) = 0) → P_X1_add  (rs 11) (ra 0) (ra 1) r3 r6 (fun (cou_8 : Int32) (pla_9 : Nat → Int32) (bri_10 : Nat → Int32) => (post us_5 (va_up rs 11 cou_8) (va_up (va_up ra 0 pla_9) 1 bri_10))))))))))))
def P_X5_readLock (us : Nat → Int32) (ua : Nat → Nat → Int32) (rs : Nat → Int32) (ra : Nat → Nat → Int32) (post : (Nat → Int32) → (Nat → Int32) → (Nat → Nat → Int32) → Prop) : Prop := P_X5_readWord  us ua ([112, 114, 105, 99, 101]) (fun (us_1 : Nat → Int32) => (P_X5_readNumber  us_1 ua 0 999 (fun (r3 : Int32) (us_2 : Nat → Int32) => (P_X5_readWord  us_2 ua ([99, 117, 116, 115]) (fun (us_4 : Nat → Int32) => (P_X5_readNumber  us_4 ua 1 999 (fun (r6 : Int32) (us_5 : Nat → Int32) => (P_X5_readNumber  us_5 ua 1 999 (fun (r8 : Int32) (us_7 : Nat → Int32) => (P_X5_readNumber  us_7 ua 1 999 (fun (r10 : Int32) (us_9 : Nat → Int32) => (((¬ (us_9 0) = 0) → post us_9 rs ra) ∧ (((us_9 0) = 0) → P_X2_add  (rs 12) (ra 2) (ra 3) r3 r6 r8 r10 (fun (cou_12 : Int32) (pri_13 : Nat → Int32) (cut_14 : Nat → Int32) => (post us_9 (va_up rs 12 cou_12) (va_up (va_up ra 2 pri_13) 3 cut_14))))))))))))))))
def P_X5_readIf_23 (ua : Nat → Nat → Int32) (p1 : List Int32)  (post : Int32 → (Nat → Int32) → Prop)  (k0_ : Int32) (us : Nat → Int32) : Prop := ((k0_ = 0) → (k0_ = 0 ∨ k0_ = 1) ∧ (post k0_ us)) ∧ ((¬ k0_ = 0) → P_X8_step  (ua 0) (us 2) (us 3) (us 4) (us 5) (us 6)  (fun (spo_2 : Int32) (beh_3 : Int32) (kin_4 : Int32) (num_5 : Int32) => ((k0_ = 0 ∨ k0_ = 1) ∧ (post k0_ (va_up (va_up (va_up (va_up us 3 spo_2) 4 beh_3) 5 kin_4) 6 num_5)))))
def P_X5_readIf (us : Nat → Int32) (ua : Nat → Nat → Int32) (p1 : List Int32) (post : Int32 → (Nat → Int32) → Prop) : Prop := ((¬ (us 0) = 0) → P_X5_readIf_23 ua p1 post  0 us) ∧ (((us 0) = 0) → P_X8_isWord  (ua 0) (us 3) (us 4) (us 5) p1 (fun (r7 : Int32) => (((r7 = 0) → P_X5_readIf_23 ua p1 post  0 us) ∧ ((¬ r7 = 0) → P_X5_readIf_23 ua p1 post  1 us))))
def P_X5_readBike_111 (ua : Nat → Nat → Int32)  (post : (Nat → Int32) → (Nat → Int32) → (Nat → Nat → Int32) → Prop)  (x2_ : Int32) (x3_ : Int32) (x4_ : Int32) (x5_ : Int32) (us : Nat → Int32) (rs : Nat → Int32) (ra : Nat → Nat → Int32) : Prop := P_X5_readIf  us ua ([109, 97, 114, 107, 101, 100]) (fun (r2 : Int32) (us_1 : Nat → Int32) => (((¬ (us_1 0) = 0) → post us_1 rs ra) ∧ (((us_1 0) = 0) → P_X0_add  (rs 13) (ra 4) (ra 5) (ra 6) (ra 7) (ra 8) x2_ x3_ x4_ x5_ r2 (fun (cou_4 : Int32) (wor_5 : Nat → Int32) (see_6 : Nat → Int32) (pla_7 : Nat → Int32) (loc_8 : Nat → Int32) (mar_9 : Nat → Int32) => (post us_1 (va_up rs 13 cou_4) (va_up (va_up (va_up (va_up (va_up ra 4 wor_5) 5 see_6) 6 pla_7) 7 loc_8) 8 mar_9))))))
def P_X5_readBike_70 (ua : Nat → Nat → Int32)  (post : (Nat → Int32) → (Nat → Int32) → (Nat → Nat → Int32) → Prop)  (x2_ : Int32) (x3_ : Int32) (us : Nat → Int32) (rs : Nat → Int32) (ra : Nat → Nat → Int32) : Prop := P_X5_readNumber  us ua 0 ((rs 0) - 1) (fun (r11 : Int32) (us_10 : Nat → Int32) => (P_X5_readIf  us_10 ua ([108, 111, 99, 107]) (fun (r13 : Int32) (us_12 : Nat → Int32) => (((r13 = 0) → P_X5_readBike_111 ua post  x2_ x3_ r11 (-1) us_12 rs ra) ∧ ((¬ r13 = 0) → P_X5_readNumber  us_12 ua 0 ((rs 12) - 1) (fun (r16 : Int32) (us_15 : Nat → Int32) => (P_X5_readBike_111 ua post  x2_ x3_ r11 r16 us_15 rs ra)))))))
def P_X5_readBike (us : Nat → Int32) (ua : Nat → Nat → Int32) (rs : Nat → Int32) (ra : Nat → Nat → Int32) (post : (Nat → Int32) → (Nat → Int32) → (Nat → Nat → Int32) → Prop) : Prop := P_X5_readWord  us ua ([119, 111, 114, 116, 104]) (fun (us_17 : Nat → Int32) => (P_X5_readNumber  us_17 ua 0 9999 (fun (r19 : Int32) (us_18 : Nat → Int32) => (P_X5_readWord  us_18 ua ([115, 101, 101, 109, 115]) (fun (us_20 : Nat → Int32) => (P_X5_readNumber  us_20 ua 0 9999 (fun (r22 : Int32) (us_21 : Nat → Int32) => (P_X5_readWord  us_21 ua ([97, 116]) (fun (us_23 : Nat → Int32) => (((¬ (us_23 5) = 2) → P_X5_readBike_70 ua post  r19 r22 us_23 rs ra) ∧ (((us_23 5) = 2) → P_X0_standingAt  (rs 13) (ra 6) (us_23 6) (fun (r25 : Int32) => (((r25 = (-1)) → P_X5_readBike_70 ua post  r19 r22 us_23 rs ra) ∧ ((¬ r25 = (-1)) → P_X5_fail  us_23 2 (fun (us_27 : Nat → Int32) => (P_X5_readBike_70 ua post  r19 r22 us_27 rs ra))))))))))))))))
def P_X5_readThief_100 (ua : Nat → Nat → Int32)  (post : (Nat → Int32) → (Nat → Int32) → (Nat → Nat → Int32) → Prop)  (x2_ : Int32) (x3_ : Int32) (x4_ : Int32) (x5_ : Int32) (x6_ : Int32) (us : Nat → Int32) (rs : Nat → Int32) (ra : Nat → Nat → Int32) : Prop := ((¬ (us 0) = 0) → post us rs ra) ∧ (((us 0) = 0) → P_X9_add  (rs 14) (ra 9) (ra 10) (ra 11) (ra 12) (ra 13) x2_ x3_ x4_ x5_ x6_ (fun (cou_2 : Int32) (too_3 : Nat → Int32) (com_4 : Nat → Int32) (fea_5 : Nat → Int32) (kin_6 : Nat → Int32) (jus_7 : Nat → Int32) => (post us (va_up rs 14 cou_2) (va_up (va_up (va_up (va_up (va_up ra 9 too_3) 10 com_4) 11 fea_5) 12 kin_6) 13 jus_7))))
def P_X5_readThief (us : Nat → Int32) (ua : Nat → Nat → Int32) (rs : Nat → Int32) (ra : Nat → Nat → Int32) (post : (Nat → Int32) → (Nat → Int32) → (Nat → Nat → Int32) → Prop) : Prop := P_X5_readWord  us ua ([116, 111, 111, 108]) (fun (us_8 : Nat → Int32) => (P_X5_readNumber  us_8 ua 0 2 (fun (r10 : Int32) (us_9 : Nat → Int32) => (P_X5_readWord  us_9 ua ([99, 111, 109, 101, 115]) (fun (us_11 : Nat → Int32) => (P_X5_readNumber  us_11 ua 0 100 (fun (r13 : Int32) (us_12 : Nat → Int32) => (P_X5_readWord  us_12 ua ([102, 101, 97, 114, 115]) (fun (us_14 : Nat → Int32) => (P_X5_readNumber  us_14 ua 0 99 (fun (r16 : Int32) (us_15 : Nat → Int32) => (P_X5_readIf  us_15 ua ([98, 101, 115, 116]) (fun (r18 : Int32) (us_17 : Nat → Int32) => (((r18 = 0) → P_X5_readIf  us_17 ua ([97, 110, 121]) (fun (r21 : Int32) (us_20 : Nat → Int32) => (((r21 = 0) → P_X5_readWord  us_20 ua ([106, 117, 115, 116]) (fun (us_23 : Nat → Int32) => (P_X5_readNumber  us_23 ua 0 ((rs 13) - 1) (fun (r25 : Int32) (us_24 : Nat → Int32) => (P_X5_readThief_100 ua post  r10 r13 r16 2 r25 us_24 rs ra))))) ∧ ((¬ r21 = 0) → P_X5_readThief_100 ua post  r10 r13 r16 1 (-1) us_20 rs ra)))) ∧ ((¬ r18 = 0) → P_X5_readThief_100 ua post  r10 r13 r16 0 (-1) us_17 rs ra)))))))))))))))
def P_X5_readMark (us : Nat → Int32) (ua : Nat → Nat → Int32) (rs : Nat → Int32) (post : (Nat → Int32) → (Nat → Int32) → Prop) : Prop := P_X5_readWord  us ua ([112, 114, 105, 99, 101]) (fun (us_1 : Nat → Int32) => (P_X5_readNumber  us_1 ua 0 999 (fun (r3 : Int32) (us_2 : Nat → Int32) => (P_X5_readWord  us_2 ua ([107, 110, 111, 119, 110]) (fun (us_4 : Nat → Int32) => (P_X5_readNumber  us_4 ua 0 100 (fun (r6 : Int32) (us_5 : Nat → Int32) => (P_X5_readIf  us_5 ua ([104, 105, 100, 100, 101, 110]) (fun (r8 : Int32) (us_7 : Nat → Int32) => ((r8 = 0 ∨ r8 = 1) ∧ (post us_7 (va_up (va_up (va_up (va_up rs 3 1) 4 r3) 5 r6) 6 r8))))))))))))
def P_X5_readWatch (us : Nat → Int32) (ua : Nat → Nat → Int32) (rs : Nat → Int32) (post : (Nat → Int32) → (Nat → Int32) → Prop) : Prop := P_X5_readWord  us ua ([119, 97, 103, 101]) (fun (us_1 : Nat → Int32) => (P_X5_readNumber  us_1 ua 0 999 (fun (r3 : Int32) (us_2 : Nat → Int32) => (P_X5_readWord  us_2 ua ([97, 100, 100, 115]) (fun (us_4 : Nat → Int32) => (P_X5_readNumber  us_4 ua 0 99 (fun (r6 : Int32) (us_5 : Nat → Int32) => (post us_5 (va_up (va_up (va_up rs 7 1) 8 r3) 9 r6)))))))))
def P_X5_readLine_260 (ua : Nat → Nat → Int32)  (post : (Nat → Int32) → (Nat → Int32) → (Nat → Nat → Int32) → Prop)  (us : Nat → Int32) (rs : Nat → Int32) (ra : Nat → Nat → Int32) : Prop := P_X5_readSign  us ua  (fun (us_1 : Nat → Int32) => (∀ x2 : Int32, x2 = ((rs 2) + 1) → (post us_1 (va_up rs 2 x2) ra)))
def P_X5_readLine_243 (ua : Nat → Nat → Int32)  (post : (Nat → Int32) → (Nat → Int32) → (Nat → Nat → Int32) → Prop)  (k0_ : Int32) (us : Nat → Int32) (rs : Nat → Int32) (ra : Nat → Nat → Int32) : Prop := P_X5_readHead  us ua k0_ 2 (fun (us_3 : Nat → Int32) => (P_X5_readWatch  us_3 ua rs  (fun (us_4 : Nat → Int32) (rs_5 : Nat → Int32) => (P_X5_readLine_260 ua post  us_4 rs_5 ra))))
def P_X5_readLine_206 (ua : Nat → Nat → Int32)  (post : (Nat → Int32) → (Nat → Int32) → (Nat → Nat → Int32) → Prop)  (k0_ : Int32) (us : Nat → Int32) (rs : Nat → Int32) (ra : Nat → Nat → Int32) : Prop := P_X5_readHead  us ua k0_ 2 (fun (us_6 : Nat → Int32) => (P_X5_readMark  us_6 ua rs  (fun (us_7 : Nat → Int32) (rs_8 : Nat → Int32) => (P_X5_readLine_260 ua post  us_7 rs_8 ra))))
def P_X5_readLine_169 (ua : Nat → Nat → Int32)  (post : (Nat → Int32) → (Nat → Int32) → (Nat → Nat → Int32) → Prop)  (k0_ : Int32) (us : Nat → Int32) (rs : Nat → Int32) (ra : Nat → Nat → Int32) : Prop := P_X5_readHead  us ua k0_ 3 (fun (us_9 : Nat → Int32) => (P_X5_readThief  us_9 ua rs ra  (fun (us_10 : Nat → Int32) (rs_11 : Nat → Int32) (ra_12 : Nat → Nat → Int32) => (P_X5_readLine_260 ua post  us_10 rs_11 ra_12))))
def P_X5_readLine_127 (ua : Nat → Nat → Int32)  (post : (Nat → Int32) → (Nat → Int32) → (Nat → Nat → Int32) → Prop)  (k0_ : Int32) (us : Nat → Int32) (rs : Nat → Int32) (ra : Nat → Nat → Int32) : Prop := P_X5_readHead  us ua k0_ 3 (fun (us_13 : Nat → Int32) => (P_X5_readBike  us_13 ua rs ra  (fun (us_14 : Nat → Int32) (rs_15 : Nat → Int32) (ra_16 : Nat → Nat → Int32) => (P_X5_readLine_260 ua post  us_14 rs_15 ra_16))))
def P_X5_readLine_85 (ua : Nat → Nat → Int32)  (post : (Nat → Int32) → (Nat → Int32) → (Nat → Nat → Int32) → Prop)  (k0_ : Int32) (us : Nat → Int32) (rs : Nat → Int32) (ra : Nat → Nat → Int32) : Prop := P_X5_readHead  us ua k0_ 3 (fun (us_17 : Nat → Int32) => (P_X5_readLock  us_17 ua rs ra  (fun (us_18 : Nat → Int32) (rs_19 : Nat → Int32) (ra_20 : Nat → Nat → Int32) => (P_X5_readLine_260 ua post  us_18 rs_19 ra_20))))
def P_X5_readLine_44 (ua : Nat → Nat → Int32)  (post : (Nat → Int32) → (Nat → Int32) → (Nat → Nat → Int32) → Prop)  (k0_ : Int32) (us : Nat → Int32) (rs : Nat → Int32) (ra : Nat → Nat → Int32) : Prop := P_X5_readHead  us ua k0_ 3 (fun (us_21 : Nat → Int32) => (P_X5_readLamp  us_21 ua rs ra  (fun (us_22 : Nat → Int32) (rs_23 : Nat → Int32) (ra_24 : Nat → Nat → Int32) => (P_X5_readLine_260 ua post  us_22 rs_23 ra_24))))
def P_X5_readLine (us : Nat → Int32) (ua : Nat → Nat → Int32) (rs : Nat → Int32) (ra : Nat → Nat → Int32) (post : (Nat → Int32) → (Nat → Int32) → (Nat → Nat → Int32) → Prop) : Prop := ((¬ (rs 2) = 0) → P_X8_isWord  (ua 0) (us 3) (us 4) (us 5) ([108, 97, 109, 112]) (fun (r26 : Int32) => (((r26 = 0) → P_X8_isWord  (ua 0) (us 3) (us 4) (us 5) ([108, 111, 99, 107]) (fun (r28 : Int32) => (((r28 = 0) → P_X8_isWord  (ua 0) (us 3) (us 4) (us 5) ([98, 105, 107, 101]) (fun (r30 : Int32) => (((r30 = 0) → P_X8_isWord  (ua 0) (us 3) (us 4) (us 5) ([116, 104, 105, 101, 102]) (fun (r32 : Int32) => (((r32 = 0) → P_X8_isWord  (ua 0) (us 3) (us 4) (us 5) ([109, 97, 114, 107]) (fun (r34 : Int32) => (((r34 = 0) → P_X8_isWord  (ua 0) (us 3) (us 4) (us 5) ([119, 97, 116, 99, 104]) (fun (r36 : Int32) => (((r36 = 0) → P_X5_fail  us 1 (fun (us_38 : Nat → Int32) => (P_X5_readLine_260 ua post  us_38 rs ra))) ∧ ((¬ r36 = 0) → ((¬ (rs 7) = 0) → P_X5_readLine_243 ua post  0 us rs ra) ∧ (((rs 7) = 0) → P_X5_readLine_243 ua post  1 us rs ra))))) ∧ ((¬ r34 = 0) → ((¬ (rs 3) = 0) → P_X5_readLine_206 ua post  0 us rs ra) ∧ (((rs 3) = 0) → P_X5_readLine_206 ua post  1 us rs ra))))) ∧ ((¬ r32 = 0) → ((6 ≤ (rs 14)) → P_X5_readLine_169 ua post  0 us rs ra) ∧ ((¬ 6 ≤ (rs 14)) → P_X5_readLine_169 ua post  1 us rs ra))))) ∧ ((¬ r30 = 0) → ((10 ≤ (rs 13)) → P_X5_readLine_127 ua post  0 us rs ra) ∧ ((¬ 10 ≤ (rs 13)) → P_X5_readLine_127 ua post  1 us rs ra))))) ∧ ((¬ r28 = 0) → ((5 ≤ (rs 12)) → P_X5_readLine_85 ua post  0 us rs ra) ∧ ((¬ 5 ≤ (rs 12)) → P_X5_readLine_85 ua post  1 us rs ra))))) ∧ ((¬ r26 = 0) → ((4 ≤ (rs 11)) → P_X5_readLine_44 ua post  0 us rs ra) ∧ ((¬ 4 ≤ (rs 11)) → P_X5_readLine_44 ua post  1 us rs ra))))) ∧ (((rs 2) = 0) → P_X5_readRail  us ua rs  (fun (us_45 : Nat → Int32) (rs_46 : Nat → Int32) => (P_X5_readLine_260 ua post  us_45 rs_46 ra)))
def P_X5_readInto_58 (ua : Nat → Nat → Int32)  (post : Int32 → (Nat → Int32) → (Nat → Int32) → (Nat → Nat → Int32) → Prop)  (us : Nat → Int32) (rs : Nat → Int32) (ra : Nat → Nat → Int32) : Prop := ((¬ (us 0) = 0) → post 0 us rs ra) ∧ (((us 0) = 0) → post 1 us rs ra)
def P_X5_readInto_23_b (ua : Nat → Nat → Int32)  (post : Int32 → (Nat → Int32) → (Nat → Int32) → (Nat → Nat → Int32) → Prop) (K58 : (Nat → Int32) → (Nat → Int32) → (Nat → Nat → Int32) → Prop)  (R23 : (Int32) → (Nat → Int32) → (Nat → Int32) → (Nat → Nat → Int32) → Prop) (x2_ : Int32) (us : Nat → Int32) (rs : Nat → Int32) (ra : Nat → Nat → Int32) : Prop := ((1600 ≤ x2_) → K58 us rs ra) ∧ ((¬ 1600 ≤ x2_) → ((¬ (us 0) = 0) → K58 us rs ra) ∧ (((us 0) = 0) → (((us 5) = 0) → K58 us rs ra) ∧ ((¬ (us 5) = 0) → P_X5_readLine  us ua rs ra  (fun (us_5 : Nat → Int32) (rs_6 : Nat → Int32) (ra_7 : Nat → Nat → Int32) => (R23 (x2_ + 1) us_5 rs_6 ra_7)))))
def P_X5_readInto_23 (ua : Nat → Nat → Int32)  (post : Int32 → (Nat → Int32) → (Nat → Int32) → (Nat → Nat → Int32) → Prop) (K58 : (Nat → Int32) → (Nat → Int32) → (Nat → Nat → Int32) → Prop)  : Nat → (Int32) → (Nat → Int32) → (Nat → Int32) → (Nat → Nat → Int32) → Prop
  | 0 => fun _ _ _ _ => False
  | n + 1 => fun x2_ us rs ra => P_X5_readInto_23_b ua post K58  (P_X5_readInto_23 ua post K58  n) x2_ us rs ra
def P_X5_readInto (us : Nat → Int32) (ua : Nat → Nat → Int32) (rs : Nat → Int32) (ra : Nat → Nat → Int32) (post : Int32 → (Nat → Int32) → (Nat → Int32) → (Nat → Nat → Int32) → Prop) : Prop := P_X4_wipe  rs  (fun (rs_8 : Nat → Int32) => (P_X8_rewind  (ua 0) (us 2) (us 3) (us 4) (us 5) (us 6)  (fun (spo_9 : Int32) (beh_10 : Int32) (kin_11 : Int32) (num_12 : Int32) => ((∃ n : Nat, P_X5_readInto_23 ua post (fun (us : Nat → Int32) (rs : Nat → Int32) (ra : Nat → Nat → Int32) => P_X5_readInto_58 ua post  us rs ra)  n 0 (va_up (va_up (va_up (va_up (va_up (va_up us 0 0) 1 (-1)) 3 spo_9) 4 beh_10) 5 kin_11) 6 num_12) rs_8 ra)))))
def P_X11_rail (us : Nat → Int32) (ua : Nat → Nat → Int32) (rs : Nat → Int32) (ra : Nat → Nat → Int32) (rs2 : Nat → Int32) (ra2 : Nat → Nat → Int32) (post : Int32 → (Nat → Int32) → (Nat → Int32) → (Nat → Nat → Int32) → (Nat → Int32) → (Nat → Nat → Int32) → Prop) : Prop := P_X5_readInto  us ua rs2 ra2  (fun (r4 : Int32) (us_1 : Nat → Int32) (rs_2 : Nat → Int32) (ra_3 : Nat → Nat → Int32) => (((¬ r4 = 0) → P_X4_copyFrom  rs ra rs_2 ra_3  (fun (rs_6 : Nat → Int32) (ra_7 : Nat → Nat → Int32) => (post (rs_6 2) (va_up us_1 2 0) rs_6 ra_7 rs_2 ra_3))) ∧ ((r4 = 0) → post (-4) (va_up us_1 2 0) rs ra rs_2 ra_3)))
end
section
/-! words: a list of bytes, and its number -/
def wcD (d : Nat → Nat) : Nat → Nat
  | 0 => 0
  | j + 1 => 27 * wcD d j + d j
theorem wcD_inj {d e : Nat → Nat} : ∀ {i j : Nat}, (∀ k, k < i → 1 ≤ d k ∧ d k ≤ 26) → (∀ k, k < j → 1 ≤ e k ∧ e k ≤ 26) → wcD d i = wcD e j → i = j ∧ ∀ k, k < i → d k = e k
  | 0, 0, _, _, _ => ⟨rfl, fun k hk => by omega⟩
  | 0, j + 1, _, h2, h => by
    have := h2 j (by omega)
    rw [wcD, wcD] at h
    omega
  | i + 1, 0, h1, _, h => by
    have := h1 i (by omega)
    rw [wcD, wcD] at h
    omega
  | i + 1, j + 1, h1, h2, h => by
    have a1 := h1 i (by omega)
    have a2 := h2 j (by omega)
    rw [wcD, wcD] at h
    obtain ⟨e1, e2⟩ := wcD_inj (i := i) (j := j) (fun k hk => h1 k (by omega)) (fun k hk => h2 k (by omega)) (by omega)
    subst e1
    refine ⟨rfl, fun k hk => ?_⟩
    by_cases c : k = i
    · subst c; omega
    · exact e2 k (by omega)
theorem wcD_cong {d e : Nat → Nat} : ∀ {i : Nat}, (∀ k, k < i → d k = e k) → wcD d i = wcD e i
  | 0, _ => rfl
  | i + 1, h => by rw [wcD, wcD, wcD_cong (fun k hk => h k (by omega)), h i (by omega)]
theorem wcD_lt {d : Nat → Nat} : ∀ {i : Nat}, (∀ k, k < i → d k ≤ 26) → wcD d i < 27 ^ i
  | 0, _ => by rw [wcD]; decide
  | i + 1, h => by
    have ih := wcD_lt (d := d) (i := i) (fun k hk => h k (by omega))
    have := h i (by omega)
    rw [wcD, Nat.pow_succ]
    omega
theorem wc_D (f : Nat → Int32) (s : Nat) : ∀ j, wc f s j = wcD (fun i => dg (f (s + i)) 96) j
  | 0 => rfl
  | j + 1 => by rw [wc, wcD, wc_D f s j]
def wcL (w : List Int32) : Nat := wcD (fun i => dg (w.getD i 0) 96) w.length
abbrev okW (w : List Int32) : Prop := w.length ≤ 12 ∧ ∀ i, i < w.length → 97 ≤ (w.getD i 0).toInt ∧ (w.getD i 0).toInt ≤ 122
abbrev tokIs (f : Nat → Int32) (n s : Nat) (w : List Int32) : Prop := kd f n s = 1 ∧ tl f n s = w.length ∧ ∀ i, i < w.length → f (s + i) = w.getD i 0
theorem p27 {j : Nat} (h : j ≤ 12) : 27 ^ j < 2 ^ 63 := Nat.lt_of_le_of_lt (Nat.pow_le_pow_right (by decide) h) (by decide)
theorem tok_code {f : Nat → Int32} {n s : Nat} {w : List Int32} (hw : okW w) (hk : kd f n s = 1) : cdW f s (tl f n s) = lN (wcL w) ↔ tokIs f n s w := by
  have hl : ∀ i, i < tl f n s → 97 ≤ (f (s + i)).toInt ∧ (f (s + i)).toInt ≤ 122 := fun i hi => kd_let ((tl_in hi (Or.inl hk)).trans hk)
  have hd : ∀ i, i < tl f n s → 1 ≤ dg (f (s + i)) 96 ∧ dg (f (s + i)) 96 ≤ 26 := fun i hi => by
    have := hl i hi
    unfold dg
    omega
  have he : ∀ i, i < w.length → 1 ≤ dg (w.getD i 0) 96 ∧ dg (w.getD i 0) 96 ≤ 26 := fun i hi => by
    have := hw.2 i hi
    unfold dg
    omega
  have hwl : wcL w < 2 ^ 63 := Nat.lt_trans (wcD_lt (fun k hk => (he k hk).2)) (p27 hw.1)
  constructor
  · intro h
    unfold cdW at h
    by_cases c : tl f n s ≤ 12
    · rw [if_pos c] at h
      have h2 : wc f s (tl f n s) < 2 ^ 63 := by
        rw [wc_D]
        exact Nat.lt_trans (wcD_lt (fun k hk => (hd k hk).2)) (p27 c)
      rw [pk_lEQ h2 hwl, wc_D] at h
      obtain ⟨e1, e2⟩ := wcD_inj hd he h
      refine ⟨hk, e1, fun i hi => ?_⟩
      have h3 := e2 i (by omega)
      have h4 := hl i (by omega)
      have h5 := hw.2 i hi
      apply Int32.toInt_inj.mp
      unfold dg at h3
      omega
    · rw [if_neg c] at h
      exfalso
      have : (lN (wcL w)).toInt = (wcL w : Int) := pk_lT hwl
      rw [← h] at this
      have e : (-1 : Int64).toInt = -1 := rfl
      omega
  · intro h
    unfold cdW
    rw [if_pos (by rw [h.2.1]; exact hw.1), wc_D, h.2.1]
    unfold wcL
    rw [wcD_cong (e := fun i => dg (w.getD i 0) 96) (fun k hk => by rw [h.2.2 k hk])]
theorem c_isWord {f a : Nat → Int32} {n s : Nat} (hn : n ≤ 1600) (hs : s ≤ n) (ha : ∀ i, i < n → a i = f i) {w : List Int32} (hw : okW w) {post : Int32 → Prop} (hy : tokIs f n s w → post 1) (hno : ¬ tokIs f n s w → post 0) : P_X8_isWord a (nI s) (nI (s + tl f n s)) (nI (kd f n s)) w post := by
  have hk5 := kd_le f n s
  have htl := tl_le (f := f) hs
  have hw1 := hw.1
  refine ⟨fun c => hno (fun q => c (by rw [q.1]; rfl)), fun c => ?_⟩
  have k1 : kd f n s = 1 := (nI_eq (b := 1) (by omega) (by decide)).mp c
  rw [pk_sub (by omega), show s + tl f n s - s = tl f n s by omega, show Int32.ofNat w.length = nI w.length from rfl, nI_eq (by omega) (by omega)]
  refine ⟨fun e => ?_, fun e => hno (fun q => e q.2.1)⟩
  have L : ∀ (d i : Nat), i + d = w.length → (∀ j, j < i → f (s + j) = w.getD j 0) → P_X8_isWord_28 a (nI s) (nI (s + tl f n s)) (nI (kd f n s)) w post (d + 1) (nI i) := by
    intro d
    induction d with
    | zero =>
      intro i hi q
      obtain rfl : i = w.length := by omega
      exact ⟨fun _ => hy ⟨k1, e, q⟩, fun z => absurd (nI_le (Nat.le_refl _) (by omega)) z⟩
    | succ d ih =>
      intro i hi q
      refine ⟨fun z => absurd ((nI_leI (a := w.length) (by omega) (by omega)).mp z) (by omega), fun _ => ?_⟩
      rw [nI_add, nI_clamp (by omega), nI_clamp (by omega), ha _ (by omega), nI_1]
      refine ⟨vp_in_nI (by omega) (by decide), vp_in_nI (by omega) (by omega), fun z => ih (i + 1) (by omega) (fun j hj => ?_), fun z => hno (fun r => z (r.2.2 i (by omega)))⟩
      by_cases c : j = i
      · rw [c]; exact z
      · exact q j (by omega)
  exact ⟨w.length + 1, L w.length 0 (by omega) (fun j hj => by omega)⟩
end
section
/-! what is read: the state of a reader is (fault, where, token) -/
abbrev PS : Type := Nat × Nat × Nat
def adv (f : Nat → Int32) (n s : Nat) : Nat := sk f n (s + tl f n s)
def rF (c : Nat) (p : PS) : PS := if p.1 = 0 then (c, p.2.2, p.2.2) else p
def rW (f : Nat → Int32) (n : Nat) (w : List Int32) (p : PS) : PS := if p.1 = 0 then (if tokIs f n p.2.2 w then (0, 0, adv f n p.2.2) else (1, p.2.2, p.2.2)) else p
def vlT (f : Nat → Int32) (n s : Nat) : Nat := vlC f s (tl f n s)
def rN (f : Nat → Int32) (n lo hi : Nat) (p : PS) : Nat × PS := if p.1 = 0 then (if kd f n p.2.2 = 2 then (if lo ≤ vlT f n p.2.2 ∧ vlT f n p.2.2 < hi then (vlT f n p.2.2, 0, 0, adv f n p.2.2) else (lo, 2, p.2.2, p.2.2)) else (lo, 1, p.2.2, p.2.2)) else (lo, p)
def rI (f : Nat → Int32) (n : Nat) (w : List Int32) (p : PS) : Nat × PS := if p.1 = 0 ∧ tokIs f n p.2.2 w then (1, 0, 0, adv f n p.2.2) else (0, p)
def rS (f : Nat → Int32) (n : Nat) (p : PS) : PS := if p.1 = 0 then (if kd f n p.2.2 = 3 then (0, 0, adv f n p.2.2) else (1, p.2.2, p.2.2)) else p
/-- the class -/
def CS (f : Nat → Int32) (n : Nat) (p : PS) (us : A1) : Prop := p.2.2 ≤ n ∧ p.1 < 4 ∧ p.2.1 ≤ n ∧ us 2 = nI n ∧ us 0 = nI p.1 ∧ (p.1 = 0 → us 1 = -1 ∧ us 3 = nI p.2.2 ∧ us 4 = nI (p.2.2 + tl f n p.2.2) ∧ us 5 = nI (kd f n p.2.2) ∧ us 6 = nI (if kd f n p.2.2 = 2 then vlT f n p.2.2 else 0)) ∧ (p.1 ≠ 0 → us 1 = nI p.2.1)
section CR
variable {f : Nat → Int32} {n : Nat} {us : A1} {ua : A2} {p : PS}
theorem adv_le (hs : p.2.2 ≤ n) : adv f n p.2.2 ≤ n := (sk_le (tl_le hs)).2
theorem CS.f0 (h : CS f n p us) (h0 : p.1 = 0) : us 0 = 0 := by rw [h.2.2.2.2.1, h0]; rfl
theorem CS.f1 (h : CS f n p us) (h0 : p.1 ≠ 0) : ¬ us 0 = 0 := fun e => h0 ((nI_eq (b := 0) (by have := h.2.1; omega) (by decide)).mp (h.2.2.2.2.1.symm.trans e))
theorem CS.next (h : CS f n p us) (h0 : p.1 = 0) : CS f n (0, 0, adv f n p.2.2) (va_up (va_up (va_up (va_up us 3 (nI (adv f n p.2.2))) 4 (nI (adv f n p.2.2 + tl f n (adv f n p.2.2)))) 5 (nI (kd f n (adv f n p.2.2)))) 6 (nI (if kd f n (adv f n p.2.2) = 2 then vlC f (adv f n p.2.2) (tl f n (adv f n p.2.2)) else 0))) := by
  obtain ⟨a, b, c, d, e, g, k⟩ := h
  refine ⟨adv_le a, show (0 : Nat) < 4 by decide, Nat.zero_le _, ?_, ?_, fun _ => ⟨?_, ?_, ?_, ?_, ?_⟩, fun q => absurd rfl q⟩
  · rw [up_ne (by decide), up_ne (by decide), up_ne (by decide), up_ne (by decide)]; exact d
  · rw [up_ne (by decide), up_ne (by decide), up_ne (by decide), up_ne (by decide), e, h0]
  · rw [up_ne (by decide), up_ne (by decide), up_ne (by decide), up_ne (by decide)]; exact (g h0).1
  · rw [up_ne (by decide), up_ne (by decide), up_ne (by decide), up_at]
  · rw [up_ne (by decide), up_ne (by decide), up_at]
  · rw [up_ne (by decide), up_at]
  · rw [up_at]; rfl
theorem c_fail (h : CS f n p us) {c : Nat} (hc : c ≠ 0) (hc4 : c < 4) {post : A1 → Prop} (hp : ∀ us', CS f n (rF c p) us' → post us') : P_X5_fail us (nI c) post := by
  obtain ⟨a, b, c', d, e, g, k⟩ := h
  by_cases h0 : p.1 = 0
  · have z : us 0 = 0 := by rw [e, h0]; rfl
    refine ⟨fun q => absurd z q, fun _ x hx => hp _ ?_⟩
    unfold rF
    rw [if_pos h0]
    refine ⟨a, hc4, a, ?_, ?_, fun q => absurd q hc, fun _ => ?_⟩
    · rw [up_ne (by decide), up_ne (by decide)]; exact d
    · rw [up_ne (by decide), up_at]
    · rw [up_at, hx]; exact (g h0).2.1
  · have z : ¬ us 0 = 0 := fun q => h0 ((nI_eq (b := 0) (by omega) (by decide)).mp (e.symm.trans q))
    refine ⟨fun _ => hp _ ?_, fun q => absurd q z⟩
    unfold rF
    rw [if_neg h0]
    exact ⟨a, b, c', d, e, g, k⟩
theorem c_stepT (hn : n ≤ 1600) (ha : ∀ i, i < n → ua 0 i = f i) (h : CS f n p us) (h0 : p.1 = 0) {post : Int32 → Int32 → Int32 → Int32 → Prop} (hp : post (nI (adv f n p.2.2)) (nI (adv f n p.2.2 + tl f n (adv f n p.2.2))) (nI (kd f n (adv f n p.2.2))) (nI (if kd f n (adv f n p.2.2) = 2 then vlC f (adv f n p.2.2) (tl f n (adv f n p.2.2)) else 0))) : P_X8_step (ua 0) (us 2) (us 3) (us 4) (us 5) (us 6) post := by
  obtain ⟨a, b, c', d, e, g, k⟩ := h
  rw [d, (g h0).2.2.1]
  exact c_step hn (tl_le a) ha _ _ _ hp
theorem c_readWord (hn : n ≤ 1600) (ha : ∀ i, i < n → ua 0 i = f i) (h : CS f n p us) {w : List Int32} (hw : okW w) {post : A1 → Prop} (hp : ∀ us', CS f n (rW f n w p) us' → post us') : P_X5_readWord us ua w post := by
  by_cases h0 : p.1 = 0
  · refine ⟨fun q => absurd (h.f0 h0) q, fun _ => ?_⟩
    have g := h.2.2.2.2.2.1 h0
    rw [g.2.1, g.2.2.1, g.2.2.2.1]
    unfold rW at hp
    rw [if_pos h0] at hp
    refine c_isWord hn h.1 ha hw (fun t => b1f ?_) (fun t => b0f ?_)
    · rw [if_pos t] at hp
      have := c_stepT hn ha h h0 (post := fun (spo_5 : Int32) (beh_6 : Int32) (kin_7 : Int32) (num_8 : Int32) => post (va_up (va_up (va_up (va_up us 3 spo_5) 4 beh_6) 5 kin_7) 6 num_8)) (hp _ (h.next h0))
      rw [g.2.1, g.2.2.1, g.2.2.2.1] at this
      exact this
    · rw [if_neg t] at hp
      refine c_fail (c := 1) h (by decide) (by decide) (fun us' h' => hp us' ?_)
      unfold rF at h'
      rw [if_pos h0] at h'
      exact h'
  · refine ⟨fun _ => c_fail (c := 1) h (by decide) (by decide) (fun us' h' => hp us' ?_), fun q => absurd q (h.f1 h0)⟩
    unfold rF at h'
    unfold rW
    rw [if_neg h0] at h' ⊢
    exact h'
theorem c_readIf (hn : n ≤ 1600) (ha : ∀ i, i < n → ua 0 i = f i) (h : CS f n p us) {w : List Int32} (hw : okW w) {post : Int32 → A1 → Prop} (hp : ∀ us', CS f n (rI f n w p).2 us' → post (nI (rI f n w p).1) us') : P_X5_readIf us ua w post := by
  unfold rI at hp
  by_cases h0 : p.1 = 0
  · refine ⟨fun q => absurd (h.f0 h0) q, fun _ => ?_⟩
    have g := h.2.2.2.2.2.1 h0
    rw [g.2.1, g.2.2.1, g.2.2.2.1]
    refine c_isWord hn h.1 ha hw (fun t => b1f ⟨fun q => absurd q (by decide), fun _ => ?_⟩) (fun t => b0f ⟨fun _ => ⟨Or.inl rfl, ?_⟩, fun q => absurd rfl q⟩)
    · rw [if_pos ⟨h0, t⟩] at hp
      exact c_stepT hn ha h h0 ⟨Or.inr rfl, hp _ (h.next h0)⟩
    · rw [if_neg (fun q => t q.2)] at hp
      exact hp us h
  · refine ⟨fun _ => ⟨fun _ => ⟨Or.inl rfl, ?_⟩, fun q => absurd rfl q⟩, fun q => absurd q (h.f1 h0)⟩
    rw [if_neg (fun q => h0 q.1)] at hp
    exact hp us h
theorem c_readSign (hn : n ≤ 1600) (ha : ∀ i, i < n → ua 0 i = f i) (h : CS f n p us) {post : A1 → Prop} (hp : ∀ us', CS f n (rS f n p) us' → post us') : P_X5_readSign us ua post := by
  have hk5 := kd_le f n p.2.2
  unfold rS at hp
  by_cases h0 : p.1 = 0
  · rw [if_pos h0] at hp
    refine ⟨fun q => absurd (h.f0 h0) q, fun _ => ?_⟩
    have g := h.2.2.2.2.2.1 h0
    have e5 : us 5 = 3 ↔ kd f n p.2.2 = 3 := by rw [g.2.2.2.1]; exact nI_eq (b := 3) (by omega) (by decide)
    refine ⟨fun t => c_fail (c := 1) h (by decide) (by decide) (fun us' h' => hp us' ?_), fun t => ?_⟩
    · rw [if_neg (fun q => t (e5.mpr q))]
      unfold rF at h'
      rw [if_pos h0] at h'
      exact h'
    · rw [if_pos (e5.mp t)] at hp
      exact c_stepT hn ha h h0 (hp _ (h.next h0))
  · rw [if_neg h0] at hp
    refine ⟨fun _ => c_fail (c := 1) h (by decide) (by decide) (fun us' h' => hp us' ?_), fun q => absurd q (h.f1 h0)⟩
    unfold rF at h'
    rw [if_neg h0] at h'
    exact h'
theorem c_readHead (hn : n ≤ 1600) (ha : ∀ i, i < n → ua 0 i = f i) (h : CS f n p us) (h0 : p.1 = 0) {b c : Nat} (hb : b ≤ 1) (hc : c ≠ 0) (hc4 : c < 4) {post : A1 → Prop} (hp : ∀ us', CS f n (if b = 1 then (0, 0, adv f n p.2.2) else rF c p) us' → post us') : P_X5_readHead us ua (nI b) (nI c) post := by
  refine ⟨fun t => ?_, fun t => ?_⟩
  · have : b = 0 := (nI_eq (b := 0) (by omega) (by decide)).mp t
    rw [if_neg (by omega)] at hp
    exact c_fail h hc hc4 hp
  · have : b = 1 := by
      have : b ≠ 0 := fun q => t (by rw [q]; rfl)
      omega
    rw [if_pos this] at hp
    exact c_stepT hn ha h h0 (hp _ (h.next h0))
/-- bounds lo .. hi - 1; the class's bound is the number below hi -/
theorem c_readNumber (hn : n ≤ 1600) (ha : ∀ i, i < n → ua 0 i = f i) (h : CS f n p us) {lo hi : Nat} (hlo : lo < 2 ^ 20) (hhi : hi < 2 ^ 20) {post : Int32 → A1 → Prop} (hp : ∀ us', CS f n (rN f n lo hi p).2 us' → post (nI (rN f n lo hi p).1) us') : P_X5_readNumber us ua (nI lo) (nI hi - 1) post := by
  have hk5 := kd_le f n p.2.2
  unfold rN at hp
  by_cases h0 : p.1 = 0
  · rw [if_pos h0] at hp
    have g := h.2.2.2.2.2.1 h0
    have e5 : us 5 = 2 ↔ kd f n p.2.2 = 2 := by rw [g.2.2.2.1]; exact nI_eq (b := 2) (by omega) (by decide)
    have hv : vlT f n p.2.2 ≤ 1000000 := vlC_le _ _ _
    have K46 : ∀ us', ¬ us' 0 = 0 → post (nI lo) us' → P_X5_readNumber_46 ua (nI lo) (nI hi - 1) post us' := fun us' q r => ⟨fun z => absurd z q, fun _ => r⟩
    refine ⟨fun t => ?_, fun t => ?_⟩
    · have k2 := e5.mp t
      rw [if_pos k2] at hp
      have e6 : us 6 = nI (vlT f n p.2.2) := by rw [g.2.2.2.2, if_pos k2]
      have K41 : ¬ (lo ≤ vlT f n p.2.2 ∧ vlT f n p.2.2 < hi) → P_X5_readNumber_41 ua (nI lo) (nI hi - 1) post us := by
        intro q
        rw [if_neg q] at hp
        refine c_fail (c := 2) h (by decide) (by decide) (fun us' h' => ?_)
        unfold rF at h'
        rw [if_pos h0] at h'
        exact K46 us' (h'.f1 (show (2 : Nat) ≠ 0 by decide)) (hp us' h')
      have e7 : us 6 ≤ nI hi - 1 ↔ vlT f n p.2.2 < hi := by
        rw [e6, Int32.le_iff_toInt_le, show (1 : Int32) = nI 1 from rfl, nS (by omega) (by decide), nI_toInt (by omega)]
        omega
      have e8 : us 6 < nI lo ↔ vlT f n p.2.2 < lo := by rw [e6]; exact nI_ltI (by omega) (by omega)
      refine ⟨fun q => K41 (fun r => by have := e8.mp q; omega), fun q => ⟨fun r => ⟨fun _ x hx => ?_, fun z => absurd (h.f0 h0) z⟩, fun r => K41 (fun z => r (e7.mpr z.2))⟩⟩
      have q' : ¬ vlT f n p.2.2 < lo := fun z => q (e8.mpr z)
      rw [if_pos ⟨by omega, e7.mp r⟩] at hp
      rw [hx]
      refine c_stepT hn ha h h0 ?_
      show post (us 6) _
      rw [e6]
      exact hp _ (h.next h0)
    · rw [if_neg (fun q => t (e5.mpr q))] at hp
      refine c_fail (c := 1) h (by decide) (by decide) (fun us' h' => ?_)
      unfold rF at h'
      rw [if_pos h0] at h'
      exact K46 us' (h'.f1 (show (1 : Nat) ≠ 0 by decide)) (hp us' h')
  · rw [if_neg h0] at hp
    have z := h.f1 h0
    have fin : P_X5_readNumber_46 ua (nI lo) (nI hi - 1) post us := ⟨fun q => absurd q z, fun _ => hp us h⟩
    have F : ∀ (c : Int32) (K : A1 → Prop), K us → P_X5_fail us c K := fun c K hK => ⟨fun _ => hK, fun q => absurd q z⟩
    exact ⟨fun _ => ⟨fun _ => F 2 _ fin, fun _ => ⟨fun _ => fin, fun _ => F 2 _ fin⟩⟩, fun _ => F 1 _ fin⟩
end CR
end
section
/-! what the reference reads -/
def MS (f : Nat → Int32) (n : Nat) (p : PS) (m0 ms : A1) (mw : Nat → Int64) : Prop := p.2.2 ≤ n ∧ p.1 < 4 ∧ p.2.1 ≤ n ∧ ms 1 = nI n ∧ ms 6 = nI p.1 ∧ (p.1 = 0 → ms 2 = nI (p.2.2 + tl f n p.2.2) ∧ ms 3 = nI (kM (kd f n p.2.2)) ∧ ms 4 = nI p.2.2 ∧ ms 5 = nI (if kd f n p.2.2 = 2 then vlM f p.2.2 (tl f n p.2.2) else 0) ∧ mw 0 = (if kd f n p.2.2 = 1 then cdW f p.2.2 (tl f n p.2.2) else 0)) ∧ (p.1 ≠ 0 → ms 7 = nI p.2.1) ∧ (∀ j, j = 0 ∨ 7 < j → ms j = m0 j)
section MR
variable {f : Nat → Int32} {n : Nat} {m0 ms : A1} {mw : Nat → Int64} {ma : A2} {p : PS}
theorem MS.f0 (h : MS f n p m0 ms mw) (h0 : p.1 = 0) : ms 6 = 0 := by rw [h.2.2.2.2.1, h0]; rfl
theorem MS.f1 (h : MS f n p m0 ms mw) (h0 : p.1 ≠ 0) : ¬ ms 6 = 0 := fun e => h0 ((nI_eq (b := 0) (by have := h.2.1; omega) (by decide)).mp (h.2.2.2.2.1.symm.trans e))
theorem m_nextT (hn : n ≤ 1600) (ha : ∀ i, i < n → ma 2 i = f i) (h : MS f n p m0 ms mw) (h0 : p.1 = 0) {post : A1 → (Nat → Int64) → Prop} (hp : ∀ mt mw', MS f n (0, 0, adv f n p.2.2) m0 mt mw' → post mt mw') : P_X12_next ms mw ma post := by
  obtain ⟨a, b, c, d, e, g, k, fr⟩ := h
  refine m_next hn (tl_le a) d (g h0).1 ha mw (fun mt mw' r1 r2 r3 r4 r5 _ r7 => hp mt mw' ⟨adv_le a, show (0 : Nat) < 4 by decide, Nat.zero_le _, (r1 1 (by decide)).trans d, ?_, fun _ => ⟨r2, r3, r4, r5, r7⟩, fun q => absurd rfl q, fun j hj => (r1 j (by omega)).trans (fr j hj)⟩)
  rw [r1 6 (by decide), e, h0]
theorem m_fails (h : MS f n p m0 ms mw) {c : Nat} (hc : c ≠ 0) (hc4 : c < 4) {post : A1 → Prop} (hp : ∀ mt, MS f n (rF c p) m0 mt mw → post mt) : P_X12_fails ms (nI c) post := by
  have h' := h
  obtain ⟨a, b, c', d, e, g, k, fr⟩ := h
  unfold rF at hp
  by_cases h0 : p.1 = 0
  · rw [if_pos h0] at hp
    refine ⟨fun _ x hx => hp _ ⟨a, hc4, a, ?_, ?_, fun q => absurd q hc, fun _ => ?_, fun j hj => ?_⟩, fun q => absurd (h'.f0 h0) q⟩
    · rw [up_ne (by decide), up_ne (by decide)]; exact d
    · rw [up_ne (by decide), up_at]
    · rw [up_at, hx]; exact (g h0).2.2.1
    · rw [up_ne (by omega), up_ne (by omega)]; exact fr j hj
  · rw [if_neg h0] at hp
    exact ⟨fun q => absurd q (h'.f1 h0), fun _ => hp ms h'⟩
theorem kM_1 {k : Nat} (hk : k ≤ 5) {c : Nat} (hc : c < 4) : nI (kM k) = nI c ↔ k = c := by
  unfold kM
  split
  · rw [nI_eq (by decide) (by omega)]; omega
  · rw [nI_eq (by omega) (by omega)]
theorem m_is (h : MS f n p m0 ms mw) {w : List Int32} (hw : okW w) {code : Int64} (hc : code = lN (wcL w)) {post : Int32 → Prop} (hy : p.1 = 0 → tokIs f n p.2.2 w → post 1) (hno : ¬ (p.1 = 0 ∧ tokIs f n p.2.2 w) → post 0) : P_X12_is ms mw code post := by
  have hk5 := kd_le f n p.2.2
  by_cases h0 : p.1 = 0
  · obtain ⟨-, e3, -, -, e0⟩ := h.2.2.2.2.2.1 h0
    have q3 : ms 3 = 1 ↔ kd f n p.2.2 = 1 := by rw [e3]; exact kM_1 hk5 (c := 1) (by decide)
    refine ⟨fun q => absurd (h.f0 h0) q, fun _ => ⟨fun q => hno (fun r => q (q3.mpr r.2.1)), fun q => ?_⟩⟩
    have k1 := q3.mp q
    rw [e0, if_pos k1, hc, tok_code hw k1]
    exact ⟨fun t => hno (fun r => t r.2), fun t => hy h0 t⟩
  · exact ⟨fun _ => hno (fun r => h0 r.1), fun q => absurd q (h.f1 h0)⟩
theorem m_takes (hn : n ≤ 1600) (ha : ∀ i, i < n → ma 2 i = f i) (h : MS f n p m0 ms mw) {w : List Int32} (hw : okW w) {code : Int64} (hc : code = lN (wcL w)) {post : Int32 → A1 → (Nat → Int64) → Prop} (hp : ∀ mt mw', MS f n (rI f n w p).2 m0 mt mw' → post (nI (rI f n w p).1) mt mw') : P_X12_takes ms mw ma code post := by
  unfold rI at hp
  refine m_is h hw hc (fun h0 t => b1t ?_) (fun t => b0t ?_)
  · rw [if_pos ⟨h0, t⟩] at hp
    exact m_nextT hn ha h h0 hp
  · rw [if_neg t] at hp
    exact hp ms mw h
theorem m_asks (hn : n ≤ 1600) (ha : ∀ i, i < n → ma 2 i = f i) (h : MS f n p m0 ms mw) {w : List Int32} (hw : okW w) {code : Int64} (hc : code = lN (wcL w)) {post : A1 → (Nat → Int64) → Prop} (hp : ∀ mt mw', MS f n (rW f n w p) m0 mt mw' → post mt mw') : P_X12_asks ms mw ma code post := by
  refine m_takes hn ha h hw hc (fun mt mw' h' => ?_)
  unfold rI at h' ⊢
  unfold rW at hp
  by_cases h0 : p.1 = 0
  · rw [if_pos h0] at hp
    by_cases t : tokIs f n p.2.2 w
    · rw [if_pos ⟨h0, t⟩] at h' ⊢
      rw [if_pos t] at hp
      exact b1t (hp mt mw' h')
    · rw [if_neg (fun q => t q.2)] at h' ⊢
      rw [if_neg t] at hp
      refine b0t (m_fails (c := 1) h' (by decide) (by decide) (fun mu hu => hp mu mw' ?_))
      unfold rF at hu
      rw [if_pos h0] at hu
      exact hu
  · rw [if_neg h0] at hp
    rw [if_neg (fun q => h0 q.1)] at h' ⊢
    refine b0t (m_fails (c := 1) h' (by decide) (by decide) (fun mu hu => hp mu mw' ?_))
    unfold rF at hu
    rw [if_neg h0] at hu
    exact hu
theorem m_number (hn : n ≤ 1600) (ha : ∀ i, i < n → ma 2 i = f i) (h : MS f n p m0 ms mw) {lo hi : Nat} (hlo : lo ≤ 1000000) (hhi : hi ≤ 1000000) {post : Int32 → A1 → (Nat → Int64) → Prop} (hp : ∀ mt mw', MS f n (rN f n lo hi p).2 m0 mt mw' → post (nI (rN f n lo hi p).1) mt mw') : P_X12_number ms mw ma (nI lo) (nI hi - 1) post := by
  have hk5 := kd_le f n p.2.2
  unfold rN at hp
  by_cases h0 : p.1 = 0
  · rw [if_pos h0] at hp
    obtain ⟨-, e3, -, e5, -⟩ := h.2.2.2.2.2.1 h0
    have q3 : ms 3 = 2 ↔ kd f n p.2.2 = 2 := by rw [e3]; exact kM_1 hk5 (c := 2) (by decide)
    refine ⟨fun _ => ⟨fun q => ?_, fun q => ?_⟩, fun q => absurd (h.f0 h0) q⟩
    · have k2 := q3.mp q
      rw [if_pos k2] at hp e5
      have hin : ∀ i, i < tl f n p.2.2 → kd f n (p.2.2 + i) = 2 := fun i hi => (tl_in hi (Or.inr k2)).trans k2
      have hle := vlM_le f p.2.2 n _ hin
      have hb : vlT f n p.2.2 = min 1000000 (vlM f p.2.2 (tl f n p.2.2)) := vl_both f p.2.2 n _ hin
      unfold P_X12_in
      rw [e5, fa_wide_lt, fa_wide_lt, nI_ltI (by omega) (by omega)]
      have e7 : nI hi - 1 < nI (vlM f p.2.2 (tl f n p.2.2)) ↔ hi ≤ vlM f p.2.2 (tl f n p.2.2) := by
        rw [Int32.lt_iff_toInt_lt, show (1 : Int32) = nI 1 from rfl, nS (by omega) (by decide), nI_toInt (by omega)]
        omega
      rw [e7]
      have bad : ¬ (lo ≤ vlT f n p.2.2 ∧ vlT f n p.2.2 < hi) → P_X12_fails ms 2 (fun (ms_8 : Nat → Int32) => (post (nI lo) ms_8 mw)) := by
        intro t
        rw [if_neg t] at hp
        refine m_fails (c := 2) h (by decide) (by decide) (fun mu hu => hp mu mw ?_)
        unfold rF at hu
        rw [if_pos h0] at hu
        exact hu
      refine ⟨fun t => b0t (bad (by omega)), fun t => ⟨fun t2 => b0t (bad (by omega)), fun t2 => b1t (fun x hx => ?_)⟩⟩
      have hv : vlT f n p.2.2 = vlM f p.2.2 (tl f n p.2.2) := by omega
      rw [if_pos (by omega)] at hp
      rw [hx, ← hv]
      exact m_nextT hn ha h h0 hp
    · rw [if_neg (fun r => q (q3.mpr r))] at hp
      refine m_fails (c := 1) h (by decide) (by decide) (fun mu hu => hp mu mw ?_)
      unfold rF at hu
      rw [if_pos h0] at hu
      exact hu
  · rw [if_neg h0] at hp
    exact ⟨fun q => absurd q (h.f1 h0), fun _ => hp ms mw h⟩
theorem m_number_ (hn : n ≤ 1600) (ha : ∀ i, i < n → ma 2 i = f i) (h : MS f n p m0 ms mw) {w : List Int32} (hw : okW w) {code : Int64} (hc : code = lN (wcL w)) {lo hi : Nat} (hlo : lo ≤ 1000000) (hhi : hi ≤ 1000000) {post : Int32 → A1 → (Nat → Int64) → Prop} (hp : ∀ mt mw', MS f n (rN f n lo hi (rW f n w p)).2 m0 mt mw' → post (nI (rN f n lo hi (rW f n w p)).1) mt mw') : P_X12_number_ ms mw ma code (nI lo) (nI hi - 1) post :=
  m_asks hn ha h hw hc (fun _ _ h' => m_number hn ha h' hlo hhi (fun mt mw' h2 => hp mt mw' h2))
theorem m_ends (hn : n ≤ 1600) (ha : ∀ i, i < n → ma 2 i = f i) (h : MS f n p m0 ms mw) (h0 : p.1 = 0) {post : A1 → (Nat → Int64) → Prop} (hp : ∀ mt mw', MS f n (rS f n p) m0 mt mw' → post mt mw') : P_X12_ends ms mw ma post := by
  have hk5 := kd_le f n p.2.2
  unfold rS at hp
  rw [if_pos h0] at hp
  obtain ⟨-, e3, -, -, -⟩ := h.2.2.2.2.2.1 h0
  have q3 : ms 3 = 3 ↔ kd f n p.2.2 = 3 := by rw [e3]; exact kM_1 hk5 (c := 3) (by decide)
  refine ⟨fun q => ⟨fun r => absurd (h.f0 h0) r, fun _ => ?_⟩, fun q => ?_⟩
  · rw [if_pos (q3.mp q)] at hp
    exact m_nextT hn ha h h0 hp
  · rw [if_neg (fun r => q (q3.mpr r))] at hp
    refine m_fails (c := 1) h (by decide) (by decide) (fun mu hu => ?_)
    unfold rF at hu
    rw [if_pos h0] at hu
    exact ⟨fun _ => hp mu mw hu, fun r => absurd r (hu.f1 (show (1 : Nat) ≠ 0 by decide))⟩
end MR
end
