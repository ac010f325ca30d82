/-! what stands on the tape, token by token -/
def isLt (x : Int32) : Bool := decide (97 ≤ x.toInt ∧ x.toInt ≤ 122)
def isDg (x : Int32) : Bool := decide (48 ≤ x.toInt ∧ x.toInt ≤ 57)
def isBk (x : Int32) : Bool := decide (x.toInt = 32 ∨ x.toInt = 10)
def kd (f : Nat → Int32) (n i : Nat) : Nat := if n ≤ i then 0 else if isLt (f i) = true then 1 else if isDg (f i) = true then 2 else if isBk (f i) = true then 4 else if (f i).toInt = 59 then 3 else 5
theorem kd_le (f : Nat → Int32) (n i : Nat) : kd f n i ≤ 5 := by
  unfold kd
  repeat' split
  all_goals omega
theorem kd_lt {f : Nat → Int32} {n i : Nat} (h : kd f n i ≠ 0) : i < n := by
  unfold kd at h
  split at h
  · exact absurd rfl h
  · omega
theorem kd_end {f : Nat → Int32} {n i : Nat} (h : n ≤ i) : kd f n i = 0 := by
  unfold kd
  rw [if_pos h]
/-- where the next token begins, how long it is, its number, its word's number -/
def sk (f : Nat → Int32) (n b : Nat) : Nat := b + fa_first (fun j => kd f n (b + j) != 4) (n - b)
def tl (f : Nat → Int32) (n s : Nat) : Nat := if kd f n s = 0 then 0 else if kd f n s = 1 ∨ kd f n s = 2 then fa_first (fun j => kd f n (s + j) != kd f n s) (n - s) else 1
def dg (x : Int32) (c : Nat) : Nat := x.toInt.toNat - c
def vlC (f : Nat → Int32) (s : Nat) : Nat → Nat
  | 0 => 0
  | j + 1 => min 1000000 (10 * vlC f s j + dg (f (s + j)) 48)
def vlM (f : Nat → Int32) (s : Nat) : Nat → Nat
  | 0 => 0
  | j + 1 => if vlM f s j ≤ 100000 then 10 * vlM f s j + dg (f (s + j)) 48 else 1000000
def wc (f : Nat → Int32) (s : Nat) : Nat → Nat
  | 0 => 0
  | j + 1 => 27 * wc f s j + dg (f (s + j)) 96
theorem vlC_le (f : Nat → Int32) (s : Nat) : ∀ j, vlC f s j ≤ 1000000
  | 0 => Nat.zero_le _
  | j + 1 => Nat.min_le_left _ _
theorem tl_pos {f : Nat → Int32} {n s : Nat} (h : kd f n s ≠ 0) : 0 < tl f n s := by
  have hlt := kd_lt h
  unfold tl
  rw [if_neg h]
  split
  · rcases Nat.eq_zero_or_pos (fa_first (fun j => kd f n (s + j) != kd f n s) (n - s)) with z | z
    · have := fa_first_yes (fun j => kd f n (s + j) != kd f n s) (n - s) (by omega)
      rw [z] at this
      simp at this
    · exact z
  · omega
theorem tl_le {f : Nat → Int32} {n s : Nat} (hs : s ≤ n) : s + tl f n s ≤ n := by
  unfold tl
  split
  · omega
  · rename_i h
    have hlt := kd_lt h
    split
    · have := fa_first_le (fun j => kd f n (s + j) != kd f n s) (n - s)
      omega
    · omega
theorem tl_in {f : Nat → Int32} {n s j : Nat} (h : j < tl f n s) (hk : kd f n s = 1 ∨ kd f n s = 2) : kd f n (s + j) = kd f n s := by
  unfold tl at h
  rw [if_neg (by omega), if_pos hk] at h
  have := fa_first_no _ _ j h
  simpa using this
theorem tl_out {f : Nat → Int32} {n s : Nat} (hs : s ≤ n) (hk : kd f n s = 1 ∨ kd f n s = 2) : kd f n (s + tl f n s) ≠ kd f n s := by
  have e : tl f n s = fa_first (fun j => kd f n (s + j) != kd f n s) (n - s) := by
    unfold tl
    rw [if_neg (by omega), if_pos hk]
  have hle := fa_first_le (fun j => kd f n (s + j) != kd f n s) (n - s)
  rcases Nat.lt_or_ge (tl f n s) (n - s) with q | q
  · rw [e] at q ⊢
    have := fa_first_yes _ _ q
    simpa using this
  · have : kd f n (s + tl f n s) = 0 := kd_end (by omega)
    omega
theorem sk_le {f : Nat → Int32} {n b : Nat} (hb : b ≤ n) : b ≤ sk f n b ∧ sk f n b ≤ n := by
  have := fa_first_le (fun j => kd f n (b + j) != 4) (n - b)
  unfold sk
  omega
theorem sk_no {f : Nat → Int32} {n b : Nat} (hb : b ≤ n) : kd f n (sk f n b) ≠ 4 := by
  have hle := fa_first_le (fun j => kd f n (b + j) != 4) (n - b)
  unfold sk
  rcases Nat.lt_or_ge (fa_first (fun j => kd f n (b + j) != 4) (n - b)) (n - b) with q | q
  · have := fa_first_yes _ _ q
    simpa using this
  · have : kd f n (b + fa_first (fun j => kd f n (b + j) != 4) (n - b)) = 0 := kd_end (by omega)
    omega
theorem sk_in {f : Nat → Int32} {n b i : Nat} (h1 : b ≤ i) (h2 : i < sk f n b) : kd f n i = 4 := by
  unfold sk at h2
  have := fa_first_no (fun j => kd f n (b + j) != 4) (n - b) (i - b) (by omega)
  rw [show b + (i - b) = i by omega] at this
  simpa using this
theorem lt_lit {x : Int32} {c : Nat} (hc : c < 2 ^ 31) : x < nI c ↔ x.toInt < c := by rw [Int32.lt_iff_toInt_lt, nI_toInt hc]
theorem lit_lt {x : Int32} {c : Nat} (hc : c < 2 ^ 31) : nI c < x ↔ (c : Int) < x.toInt := by rw [Int32.lt_iff_toInt_lt, nI_toInt hc]
theorem eq_lit {x : Int32} {c : Nat} (hc : c < 2 ^ 31) : x = nI c ↔ x.toInt = c := by rw [← Int32.toInt_inj, nI_toInt hc]
theorem c_kindAt {f a : Nat → Int32} {n i : Nat} (hn : n ≤ 1600) (hi : i < 2 ^ 31) (ha : ∀ i, i < n → a i = f i) {post : Int32 → Prop} (h : post (nI (kd f n i))) : P_X8_kindAt a (nI n) (nI i) post := by
  refine ⟨fun c => absurd c (nI_pos (by omega)), fun _ => ⟨fun c => ?_, fun c => ?_⟩⟩
  · have hlt := (nI_ltI (by omega) (by omega)).mp c
    refine ⟨vp_in_nI (by omega) (by decide), fun x hx => ?_⟩
    rw [nI_clamp (by omega), ha i hlt] at hx
    subst hx
    unfold kd isLt isDg isBk at h
    rw [if_neg (by omega)] at h
    have K49 : ¬ (97 ≤ (f i).toInt ∧ (f i).toInt ≤ 122) → ¬ (48 ≤ (f i).toInt ∧ (f i).toInt ≤ 57) → P_X8_kindAt_49 a (nI n) (nI i) post (f i) := by
      intro h1 h2
      rw [if_neg (by simpa using h1), if_neg (by simpa using h2)] at h
      refine ⟨fun c => ?_, fun c => ⟨fun c2 => ⟨fun c3 => ?_, fun c3 => ?_⟩, fun c2 => ?_⟩⟩
      · have := (eq_lit (c := 32) (by decide)).mp c
        rw [if_pos (by simp; omega)] at h
        exact h
      · have e1 : (f i).toInt ≠ 32 := fun q => c ((eq_lit (c := 32) (by decide)).mpr q)
        have e2 : (f i).toInt ≠ 10 := fun q => c2 ((eq_lit (c := 10) (by decide)).mpr q)
        have e3 : (f i).toInt ≠ 59 := fun q => c3 ((eq_lit (c := 59) (by decide)).mpr q)
        rw [if_neg (by simp; omega), if_neg e3] at h
        exact h
      · have e1 : (f i).toInt ≠ 32 := fun q => c ((eq_lit (c := 32) (by decide)).mpr q)
        have e2 : (f i).toInt ≠ 10 := fun q => c2 ((eq_lit (c := 10) (by decide)).mpr q)
        have e3 : (f i).toInt = 59 := (eq_lit (c := 59) (by decide)).mp c3
        rw [if_neg (by simp; omega), if_pos e3] at h
        exact h
      · have := (eq_lit (c := 10) (by decide)).mp c2
        rw [if_pos (by simp; omega)] at h
        exact h
    have K35 : ¬ (97 ≤ (f i).toInt ∧ (f i).toInt ≤ 122) → P_X8_kindAt_35 a (nI n) (nI i) post (f i) := by
      intro h1
      refine ⟨fun c => K49 h1 ?_, fun c => ⟨fun c2 => K49 h1 ?_, fun c2 => ?_⟩⟩
      · have := (lt_lit (c := 48) (by decide)).mp c
        omega
      · have := (lit_lt (c := 57) (by decide)).mp c2
        omega
      · have e1 : ¬ (f i).toInt < 48 := fun q => c ((lt_lit (c := 48) (by decide)).mpr q)
        have e2 : ¬ (57 : Int) < (f i).toInt := fun q => c2 ((lit_lt (c := 57) (by decide)).mpr q)
        rw [if_neg (by simpa using h1), if_pos (by simp; omega)] at h
        exact h
    refine ⟨fun c => K35 ?_, fun c => ⟨fun c2 => K35 ?_, fun c2 => ?_⟩⟩
    · have := (lt_lit (c := 97) (by decide)).mp c
      omega
    · have := (lit_lt (c := 122) (by decide)).mp c2
      omega
    · have e1 : ¬ (f i).toInt < 97 := fun q => c ((lt_lit (c := 97) (by decide)).mpr q)
      have e2 : ¬ (122 : Int) < (f i).toInt := fun q => c2 ((lit_lt (c := 122) (by decide)).mpr q)
      rw [if_pos (by simp; omega)] at h
      exact h
  · have hge : n ≤ i := by
      rcases Nat.lt_or_ge i n with q | q
      · exact absurd (nI_lt q (by omega)) c
      · exact q
    unfold kd at h
    rw [if_pos hge] at h
    exact h
theorem kd_dig {f : Nat → Int32} {n i : Nat} (h : kd f n i = 2) : 48 ≤ (f i).toInt ∧ (f i).toInt ≤ 57 := by
  unfold kd at h
  split at h
  · omega
  · split at h
    · omega
    · split at h
      · rename_i q
        unfold isDg at q
        simpa using q
      · split at h
        · omega
        · split at h <;> omega
theorem kd_let {f : Nat → Int32} {n i : Nat} (h : kd f n i = 1) : 97 ≤ (f i).toInt ∧ (f i).toInt ≤ 122 := by
  unfold kd at h
  split at h
  · omega
  · split at h
    · rename_i q
      unfold isLt at q
      simpa using q
    · split at h
      · omega
      · split at h
        · omega
        · split at h <;> omega
theorem c_step {f a : Nat → Int32} {n b : Nat} (hn : n ≤ 1600) (hb : b ≤ n) (ha : ∀ i, i < n → a i = f i) (x y z : Int32) {post : Int32 → Int32 → Int32 → Int32 → Prop} (h : post (nI (sk f n b)) (nI (sk f n b + tl f n (sk f n b))) (nI (kd f n (sk f n b))) (nI (if kd f n (sk f n b) = 2 then vlC f (sk f n b) (tl f n (sk f n b)) else 0))) : P_X8_step a (nI n) x (nI b) y z post := by
  obtain ⟨s1, s2⟩ := sk_le (f := f) hb
  have hk5 := kd_le f n (sk f n b)
  have hno := sk_no (f := f) hb
  -- the token
  have T : P_X8_step_44 a (nI n) post (nI (sk f n b)) (nI b) y z := by
    refine c_kindAt hn (by omega) ha ?_
    generalize hs : sk f n b = s at *
    generalize hk : kd f n s = k at *
    have htl := tl_le (f := f) (show s ≤ n by omega)
    refine ⟨fun c => ?_, fun c => ?_⟩
    · have k0 : k = 0 := (nI_eq (b := 0) (by omega) (by decide)).mp c
      have e : tl f n s = 0 := by unfold tl; rw [if_pos (by omega)]
      rw [e, if_neg (by omega), Nat.add_zero] at h
      exact ⟨1, fun _ => h, fun q => absurd rfl q⟩
    · have k0 : k ≠ 0 := fun q => c (by rw [q]; rfl)
      have hlt : s < n := kd_lt (f := f) (by omega)
      have hp := tl_pos (f := f) (n := n) (s := s) (by omega)
      have L : ∀ (d j : Nat), j + d = tl f n s → P_X8_step_82 a (nI n) post (nI s) (nI k) (d + 1) (if j < tl f n s then 1 else 0) (nI (s + j)) (nI (if k = 2 then vlC f s j else 0)) := by
        intro d
        induction d with
        | zero =>
          intro j hj
          obtain rfl : j = tl f n s := by omega
          rw [if_neg (Nat.lt_irrefl _)]
          exact ⟨fun _ => h, fun q => absurd rfl q⟩
        | succ d ih =>
          intro j hj
          have hj2 : j < tl f n s := by omega
          rw [if_pos hj2]
          have go := ih (j + 1) (by omega)
          refine ⟨fun q => absurd q (by decide), fun _ => ⟨fun q => absurd ((nI_leI (by omega) (by omega)).mp q) (by omega), fun _ => ?_⟩⟩
          have N : ∀ w : Int32, w = nI (if k = 2 then vlC f s (j + 1) else 0) → P_X8_step_134 a (nI n) (nI s) (nI k) post (P_X8_step_82 a (nI n) post (nI s) (nI k) (d + 1)) (nI (s + j)) w := by
            intro w hw x3 hx3
            rw [nI_1] at hx3
            subst hx3
            subst hw
            have K160 : k = 1 ∨ k = 2 → P_X8_step_160 a (nI n) (nI s) (nI k) post (P_X8_step_82 a (nI n) post (nI s) (nI k) (d + 1)) (nI (s + j + 1)) (nI (if k = 2 then vlC f s (j + 1) else 0)) := by
              intro hk12
              refine c_kindAt hn (by omega) ha ?_
              have hk5' := kd_le f n (s + j + 1)
              rw [nI_eq (by omega) (by omega)]
              by_cases q : j + 1 < tl f n s
              · rw [if_pos q] at go
                have := tl_in q (by omega)
                rw [hk] at this
                exact ⟨fun w => absurd this w, fun _ => go⟩
              · rw [if_neg q] at go
                have hh := tl_out (f := f) (show s ≤ n by omega) (by omega)
                rw [show tl f n s = j + 1 by omega, hk] at hh
                exact ⟨fun _ => go, fun w => absurd w hh⟩
            refine ⟨fun q => K160 (Or.inl ((nI_eq (b := 1) (by omega) (by decide)).mp q)), fun q1 => ⟨fun q2 => ?_, fun q2 => K160 (Or.inr ((nI_eq (b := 2) (by omega) (by decide)).mp q2))⟩⟩
            have n1 : k ≠ 1 := fun e => q1 (by rw [e]; rfl)
            have n2 : k ≠ 2 := fun e => q2 (by rw [e]; rfl)
            have e : tl f n s = 1 := by unfold tl; rw [if_neg (by omega), if_neg (by omega)]
            rw [if_neg (by omega)] at go
            exact go
          refine ⟨fun q => N _ ?_, fun q => ⟨vp_in_nI (by omega) (by decide), fun w hw => N _ ?_⟩⟩
          · have n2 : k ≠ 2 := fun e => q (by rw [e]; rfl)
            rw [if_neg n2, if_neg n2]
          · have k2 : k = 2 := (nI_eq (b := 2) (by omega) (by decide)).mp q
            have hd := kd_dig (f := f) (n := n) (i := s + j) (by rw [tl_in hj2 (by omega)]; omega)
            have hv := vlC_le f s j
            rw [if_pos k2]
            rw [if_pos k2, nI_clamp (by omega), ha _ (by omega)] at hw
            have e : (10 * nI (vlC f s j) + f (s + j)) - 48 = nI (10 * vlC f s j + dg (f (s + j)) 48) := by
              have ef : f (s + j) = nI (f (s + j)).toInt.toNat := by
                apply Int32.toInt_inj.mp
                rw [nI_toInt (by omega)]
                omega
              conv => lhs; rw [ef]
              rw [show (10 : Int32) = nI 10 from rfl, pk_mul, nI_add, show (48 : Int32) = nI 48 from rfl, pk_sub (by omega)]
              congr 1
              unfold dg
              omega
            rw [e] at hw
            rw [hw, vlC]
            have hdg : dg (f (s + j)) 48 ≤ 9 := by unfold dg; omega
            by_cases q : 10 * vlC f s j + dg (f (s + j)) 48 < 1000000
            · have c' : nI (10 * vlC f s j + dg (f (s + j)) 48) < 1000000 := nI_lt (b := 1000000) q (by decide)
              rw [if_pos c', Nat.min_eq_right (by omega)]
            · have c' : ¬ nI (10 * vlC f s j + dg (f (s + j)) 48) < 1000000 := nI_nlt (b := 1000000) (by omega) (by omega)
              rw [if_neg c', Nat.min_eq_left (by omega)]
              rfl
      have := L (tl f n s) 0 (by omega)
      rw [if_pos hp] at this
      have e0 : (if k = 2 then vlC f s 0 else 0) = 0 := by split <;> rfl
      rw [e0] at this
      exact ⟨tl f n s + 1, this⟩
  have L : ∀ (d i : Nat), i + d = sk f n b → b ≤ i → P_X8_step_8 a (nI n) post (fun (a_spot : Int32) (a_behind : Int32) (a_kind : Int32) (a_number : Int32) => P_X8_step_44 a (nI n) post a_spot a_behind a_kind a_number) (nI b) y z (d + 1) (nI i) := by
    intro d
    induction d with
    | zero =>
      intro i hi hbi
      obtain rfl : i = sk f n b := by omega
      refine ⟨fun _ => T, fun _ => c_kindAt hn (by omega) ha ⟨fun _ => T, fun c => absurd ((nI_eq (b := 4) (by omega) (by decide)).mp c) hno⟩⟩
    | succ d ih =>
      intro i hi hbi
      have h4 := sk_in hbi (show i < sk f n b by omega)
      have hin := kd_lt (f := f) (n := n) (i := i) (by omega)
      refine ⟨fun c => absurd ((nI_leI (by omega) (by omega)).mp c) (by omega), fun _ => c_kindAt hn (by omega) ha ?_⟩
      rw [h4]
      refine ⟨fun c => absurd rfl c, fun _ x hx => ?_⟩
      rw [nI_1] at hx
      rw [hx]
      exact ih (i + 1) (by omega) (by omega)
  exact ⟨sk f n b - b + 1, L (sk f n b - b) b (by omega) (Nat.le_refl _)⟩
