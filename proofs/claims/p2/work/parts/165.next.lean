/-! the reference's tokens -/
theorem kd_cases {f : Nat → Int32} {n i : Nat} (h : i < n) : (kd f n i = 1 ∧ 97 ≤ (f i).toInt ∧ (f i).toInt ≤ 122) ∨ (kd f n i = 2 ∧ 48 ≤ (f i).toInt ∧ (f i).toInt ≤ 57) ∨ (kd f n i = 4 ∧ ((f i).toInt = 32 ∨ (f i).toInt = 10)) ∨ (kd f n i = 3 ∧ (f i).toInt = 59) ∨ (kd f n i = 5 ∧ ¬ (97 ≤ (f i).toInt ∧ (f i).toInt ≤ 122) ∧ ¬ (48 ≤ (f i).toInt ∧ (f i).toInt ≤ 57) ∧ (f i).toInt ≠ 32 ∧ (f i).toInt ≠ 10 ∧ (f i).toInt ≠ 59) := by
  unfold kd isLt isDg isBk
  rw [if_neg (by omega)]
  by_cases c1 : 97 ≤ (f i).toInt ∧ (f i).toInt ≤ 122
  · rw [if_pos (by simpa using c1)]
    exact Or.inl ⟨rfl, c1⟩
  · rw [if_neg (by simpa using c1)]
    by_cases c2 : 48 ≤ (f i).toInt ∧ (f i).toInt ≤ 57
    · rw [if_pos (by simpa using c2)]
      exact Or.inr (Or.inl ⟨rfl, c2⟩)
    · rw [if_neg (by simpa using c2)]
      by_cases c3 : (f i).toInt = 32 ∨ (f i).toInt = 10
      · rw [if_pos (by simpa using c3)]
        exact Or.inr (Or.inr (Or.inl ⟨rfl, c3⟩))
      · rw [if_neg (by simpa using c3)]
        by_cases c4 : (f i).toInt = 59
        · rw [if_pos c4]
          exact Or.inr (Or.inr (Or.inr (Or.inl ⟨rfl, c4⟩)))
        · rw [if_neg c4]
          exact Or.inr (Or.inr (Or.inr (Or.inr ⟨rfl, c1, c2, fun e => c3 (Or.inl e), fun e => c3 (Or.inr e), c4⟩)))
def kM (k : Nat) : Nat := if k = 5 then 4 else k
def cdW (f : Nat → Int32) (s j : Nat) : Int64 := if j ≤ 12 then lN (wc f s j) else -1
theorem vlM_le (f : Nat → Int32) (s : Nat) (n : Nat) : ∀ j, (∀ i, i < j → kd f n (s + i) = 2) → vlM f s j ≤ 1000009
  | 0, _ => Nat.zero_le _
  | j + 1, h => by
    have ih := vlM_le f s n j (fun i hi => h i (by omega))
    have hd := kd_dig (h j (by omega))
    rw [vlM]
    unfold dg
    split <;> omega
theorem vl_both (f : Nat → Int32) (s : Nat) (n : Nat) : ∀ j, (∀ i, i < j → kd f n (s + i) = 2) → vlC f s j = min 1000000 (vlM f s j)
  | 0, _ => rfl
  | j + 1, h => by
    have ih := vl_both f s n j (fun i hi => h i (by omega))
    have hd := kd_dig (h j (by omega))
    rw [vlC, vlM, ih]
    unfold dg
    split <;> omega
section NX
variable {ms : A1} {ma : A2}
theorem m_isByte {mt : A1} {f : Nat → Int32} {n i lo hi : Nat} (hn : n ≤ 1600) (hi' : i ≤ 1600) (h1 : mt 1 = nI n) (ha : ∀ i, i < n → ma 2 i = f i) (hlo : lo < 200) (hhi : hi < 200) {post : Int32 → Prop} (hy : i < n → (lo : Int) ≤ (f i).toInt → (f i).toInt ≤ hi → post 1) (hno : ¬ (i < n ∧ (lo : Int) ≤ (f i).toInt ∧ (f i).toInt ≤ hi) → post 0) : P_X12_isByte mt ma (nI i) (nI lo) (nI hi) post := by
  unfold P_X12_isByte
  rw [h1, nI_leI (by omega) (by omega), nI_clamp (by omega)]
  refine ⟨fun c => hno (by omega), fun c => ⟨vp_in_nI (by omega) (by decide), ?_⟩⟩
  rw [ha i (by omega), lt_lit (by omega), lit_lt (by omega)]
  exact ⟨fun c2 => hno (by omega), fun c2 => ⟨vp_in_nI (by omega) (by decide), fun c3 => hno (by omega), fun c3 => hy (by omega) (by omega) (by omega)⟩⟩
theorem m_next {f : Nat → Int32} {n b : Nat} (hn : n ≤ 1600) (hb : b ≤ n) (h1 : ms 1 = nI n) (h2 : ms 2 = nI b) (ha : ∀ i, i < n → ma 2 i = f i) (mw : Nat → Int64) {post : A1 → (Nat → Int64) → Prop} (h : ∀ mt mw', (∀ j, j < 2 ∨ 5 < j → mt j = ms j) → mt 2 = nI (sk f n b + tl f n (sk f n b)) → mt 3 = nI (kM (kd f n (sk f n b))) → mt 4 = nI (sk f n b) → mt 5 = nI (if kd f n (sk f n b) = 2 then vlM f (sk f n b) (tl f n (sk f n b)) else 0) → (∀ j, j ≠ 0 → mw' j = mw j) → mw' 0 = (if kd f n (sk f n b) = 1 then cdW f (sk f n b) (tl f n (sk f n b)) else 0) → post mt mw') : P_X12_next ms mw ma post := by
  obtain ⟨s1, s2⟩ := sk_le (f := f) hb
  have hno := sk_no (f := f) hb
  -- the token
  have T : ∀ mt : A1, (∀ j, j ≠ 2 → mt j = ms j) → mt 2 = nI (sk f n b) → P_X12_next_43 ma post mt mw := by
    intro mt q1 q2
    have e1 : mt 1 = nI n := (q1 1 (by decide)).trans h1
    generalize hs : sk f n b = s at *
    have htl := tl_le (f := f) (show s ≤ n by omega)
    intro x hx
    rw [q2] at hx
    subst hx
    rw [q2, e1, nI_eq (by omega) (by omega)]
    refine ⟨fun c => ?_, fun c => ?_⟩
    · have hlt : s < n := by omega
      have hkc := kd_cases (f := f) hlt
      refine m_isByte (lo := 97) (hi := 122) hn (by omega) (by rw [up_ne (by decide), up_ne (by decide)]; exact e1) ha (by decide) (by decide) (fun _ l1 l2 => b1f ?_) (fun l => b0f ?_)
      · -- a word
        have k1 : kd f n s = 1 := by omega
        rw [k1] at h
        have L : ∀ (d j : Nat) (m : A1) (w : Nat → Int64), j + d = tl f n s → (∀ y, y < 2 ∨ 5 < y → m y = ms y) → m 2 = nI (s + j) → m 3 = 1 → m 4 = nI s → m 5 = 0 → (∀ y, y ≠ 0 → w y = mw y) → w 0 = cdW f s j → P_X12_next_102 ma post (d + 1) (nI j) m w := by
          intro d
          induction d with
          | zero =>
            intro j m w hj r1 r2 r3 r4 r5 r6 r7
            obtain rfl : j = tl f n s := by omega
            unfold P_X12_next_102 P_X12_next_102_b
            rw [r2]
            have ho := tl_out (f := f) (n := n) (s := s) (by omega) (Or.inl k1)
            refine m_isByte (lo := 97) (hi := 122) hn (by omega) ((r1 1 (by decide)).trans h1) ha (by decide) (by decide) (fun z1 z2 z3 => ?_) (fun _ => b0f (h m w r1 r2 r3 r4 r5 r6 r7))
            exfalso
            have := kd_cases (f := f) z1
            omega
          | succ d ih =>
            intro j m w hj r1 r2 r3 r4 r5 r6 r7
            unfold P_X12_next_102 P_X12_next_102_b
            rw [r2]
            have hin := tl_in (f := f) (n := n) (s := s) (j := j) (by omega) (Or.inl k1)
            have hl := kd_let (hin.trans k1)
            refine m_isByte (lo := 97) (hi := 122) hn (by omega) ((r1 1 (by decide)).trans h1) ha (by decide) (by decide) (fun _ _ _ => b1f ?_) (fun z => absurd ⟨by omega, hl.1, hl.2⟩ z)
            have G : ∀ w' : Nat → Int64, (∀ y, y ≠ 0 → w' y = mw y) → w' 0 = cdW f s (j + 1) → P_X12_next_102 ma post (d + 1) (nI (j + 1)) (va_up m 2 (nI (s + (j + 1)))) w' := fun w' u1 u2 => ih (j + 1) _ w' (by omega) (fun y hy => by rw [up_ne (by omega)]; exact r1 y hy) up_at (by rw [up_ne (by decide)]; exact r3) (by rw [up_ne (by decide)]; exact r4) (by rw [up_ne (by decide)]; exact r5) u1 u2
            rw [show (nI j ≤ (11 : Int32)) = (nI j ≤ nI 11) from rfl, nI_leI (show j < 2 ^ 31 by omega) (by decide), nI_clamp (by omega), ha _ (by omega)]
            refine ⟨fun z => ⟨vp_in_nI (by omega) (by decide), ?_⟩, fun z => ?_⟩
            · unfold P_X12_next_153
              rw [show (nI j ≤ (11 : Int32)) = (nI j ≤ nI 11) from rfl, nI_leI (show j < 2 ^ 31 by omega) (by decide), r2, nI_1, nI_1]
              refine ⟨fun _ x hx => ?_, fun q => absurd z q⟩
              rw [hx]
              refine G _ (fun y hy => by rw [up_ne hy]; exact r6 y hy) ?_
              rw [up_at, r7]
              unfold cdW
              rw [if_pos (by omega), if_pos (by omega), wc]
              have ef : f (s + j) = nI (f (s + j)).toInt.toNat := by
                apply Int32.toInt_inj.mp
                rw [nI_toInt (by omega)]
                omega
              have e2 : (f (s + j)).toInt64 = lN (f (s + j)).toInt.toNat := by
                conv => lhs; rw [ef]
                rw [nI_l (by omega)]
              rw [e2, show (27 : Int64) = lN 27 from rfl, lN_mul, lN_add, show (96 : Int64) = lN 96 from rfl, lN_sub (by omega)]
              congr 1
              unfold dg
              omega
            · unfold P_X12_next_153
              rw [show (nI j ≤ (11 : Int32)) = (nI j ≤ nI 11) from rfl, nI_leI (show j < 2 ^ 31 by omega) (by decide), r2, nI_1, nI_1]
              refine ⟨fun q => absurd q z, fun _ x hx => ?_⟩
              rw [hx]
              refine G _ (fun y hy => by rw [up_ne hy]; exact r6 y hy) ?_
              rw [up_at]
              unfold cdW
              rw [if_neg (by omega)]
        refine ⟨tl f n s + 1, L (tl f n s) 0 _ _ (by omega) (fun y hy => by rw [up_ne (by omega), up_ne (by omega), up_ne (by omega)]; exact q1 y (by omega)) (by rw [up_ne (by decide), up_ne (by decide), up_ne (by decide)]; exact q2) (by rw [up_ne (by decide), up_ne (by decide), up_at]) (by rw [up_ne (by decide), up_at]) up_at (fun y hy => up_ne hy) (by rw [up_at]; rfl)⟩
      · refine m_isByte (lo := 48) (hi := 57) hn (by omega) (by rw [up_ne (by decide), up_ne (by decide)]; exact e1) ha (by decide) (by decide) (fun _ l1 l2 => b1f ?_) (fun l' => b0f ?_)
        · -- a number
          have k2 : kd f n s = 2 := by omega
          rw [k2] at h
          have L : ∀ (d j : Nat) (m : A1), j + d = tl f n s → (∀ y, y < 2 ∨ 5 < y → m y = ms y) → m 2 = nI (s + j) → m 3 = 2 → m 4 = nI s → m 5 = nI (vlM f s j) → P_X12_next_208 ma post (va_up mw 0 0) (d + 1) m := by
            intro d
            induction d with
            | zero =>
              intro j m hj r1 r2 r3 r4 r5
              obtain rfl : j = tl f n s := by omega
              unfold P_X12_next_208 P_X12_next_208_b
              rw [r2]
              have ho := tl_out (f := f) (n := n) (s := s) (by omega) (Or.inr k2)
              refine m_isByte (lo := 48) (hi := 57) hn (by omega) ((r1 1 (by decide)).trans h1) ha (by decide) (by decide) (fun z1 z2 z3 => ?_) (fun _ => b0f (h m _ r1 r2 r3 r4 r5 (fun y hy => up_ne hy) up_at))
              exfalso
              have := kd_cases (f := f) z1
              omega
            | succ d ih =>
              intro j m hj r1 r2 r3 r4 r5
              unfold P_X12_next_208 P_X12_next_208_b
              rw [r2, r5]
              have hin : ∀ i, i < tl f n s → kd f n (s + i) = 2 := fun i hi => (tl_in hi (Or.inr k2)).trans k2
              have hl := kd_dig (hin j (by omega))
              have hle := vlM_le f s n j (fun i hi => hin i (by omega))
              refine m_isByte (lo := 48) (hi := 57) hn (by omega) ((r1 1 (by decide)).trans h1) ha (by decide) (by decide) (fun _ _ _ => b1f ?_) (fun z => absurd ⟨by omega, hl.1, hl.2⟩ z)
              have G : ∀ x7 : Int32, x7 = nI (vlM f s (j + 1)) → P_X12_next_208 ma post (va_up mw 0 0) (d + 1) (va_up (va_up m 2 (nI (s + (j + 1)))) 5 x7) := fun x7 hx7 => ih (j + 1) _ (by omega) (fun y hy => by rw [up_ne (by omega), up_ne (by omega)]; exact r1 y hy) (by rw [up_ne (by decide), up_at]) (by rw [up_ne (by decide), up_ne (by decide)]; exact r3) (by rw [up_ne (by decide), up_ne (by decide)]; exact r4) (by rw [up_at]; exact hx7)
              rw [show (nI (vlM f s j) ≤ (100000 : Int32)) = (nI (vlM f s j) ≤ nI 100000) from rfl, nI_leI (show vlM f s j < 2 ^ 31 by omega) (by decide), nI_clamp (by omega), ha _ (by omega), nI_1]
              refine ⟨fun z => ⟨vp_in_nI (by omega) (by decide), fun x7 hx7 x8 hx8 => ?_⟩, fun z x9 hx9 => ?_⟩
              · rw [hx8]
                refine G x7 ?_
                have ef : f (s + j) = nI (f (s + j)).toInt.toNat := by
                  apply Int32.toInt_inj.mp
                  rw [nI_toInt (by omega)]
                  omega
                rw [hx7, vlM, if_pos z]
                conv => lhs; rw [ef]
                rw [show (10 : Int32) = nI 10 from rfl, pk_mul, nI_add, show (48 : Int32) = nI 48 from rfl, pk_sub (by omega)]
                congr 1
                unfold dg
                omega
              · rw [hx9]
                refine G _ ?_
                rw [vlM, if_neg z]
                rfl
          refine ⟨tl f n s + 1, L (tl f n s) 0 _ (by omega) (fun y hy => by rw [up_ne (by omega), up_ne (by omega), up_ne (by omega)]; exact q1 y (by omega)) (by rw [up_ne (by decide), up_ne (by decide), up_ne (by decide)]; exact q2) (by rw [up_ne (by decide), up_ne (by decide), up_at]) (by rw [up_ne (by decide), up_at]) up_at⟩
        · -- one sign
          have k35 : kd f n s = 3 ∨ kd f n s = 5 := by omega
          have e : tl f n s = 1 := by unfold tl; rw [if_neg (by omega), if_neg (by omega)]
          rw [nI_clamp (by omega), ha s hlt]
          refine ⟨vp_in_nI (by omega) (by decide), fun z x hx => ?_, fun z x hx => ?_⟩
          · have z' : (f s).toInt ≠ 59 := fun q => z ((eq_lit (c := 59) (by decide)).mpr q)
            have k5 : kd f n s = 5 := by omega
            rw [k5, e] at h
            rw [nI_1] at hx
            subst hx
            exact h _ _ (fun y hy => by rw [up_ne (by omega), up_ne (by omega), up_ne (by omega), up_ne (by omega)]; exact q1 y (by omega)) (by rw [up_ne (by decide), up_ne (by decide), up_ne (by decide), up_at]) (by rw [up_ne (by decide), up_ne (by decide), up_at]; rfl) (by rw [up_ne (by decide), up_at]) (by rw [up_at]; rfl) (fun y hy => up_ne hy) (by rw [up_at]; rfl)
          · have z' : (f s).toInt = 59 := (eq_lit (c := 59) (by decide)).mp z
            have k3 : kd f n s = 3 := by omega
            rw [k3, e] at h
            rw [nI_1] at hx
            subst hx
            exact h _ _ (fun y hy => by rw [up_ne (by omega), up_ne (by omega), up_ne (by omega), up_ne (by omega)]; exact q1 y (by omega)) (by rw [up_ne (by decide), up_ne (by decide), up_ne (by decide), up_at]) (by rw [up_ne (by decide), up_ne (by decide), up_at]; rfl) (by rw [up_ne (by decide), up_at]) (by rw [up_at]; rfl) (fun y hy => up_ne hy) (by rw [up_at]; rfl)
    · have k0 : kd f n s = 0 := kd_end (by omega)
      have e : tl f n s = 0 := by unfold tl; rw [if_pos k0]
      rw [k0, e] at h
      exact h _ _ (fun y hy => by rw [up_ne (by omega), up_ne (by omega), up_ne (by omega)]; exact q1 y (by omega)) (by rw [up_ne (by decide), up_ne (by decide), up_ne (by decide)]; exact q2) (by rw [up_ne (by decide), up_ne (by decide), up_at]; rfl) (by rw [up_ne (by decide), up_at]) (by rw [up_at]; rfl) (fun y hy => up_ne hy) (by rw [up_at]; rfl)
  have L : ∀ (d i : Nat) (mt : A1), i + d = sk f n b → b ≤ i → (∀ j, j ≠ 2 → mt j = ms j) → mt 2 = nI i → P_X12_next_0 ma post (fun (ms : Nat → Int32) (mw : Nat → Int64) => P_X12_next_43 ma post ms mw) mw (d + 1) mt := by
    intro d
    induction d with
    | zero =>
      intro i mt hi hbi q1 q2
      obtain rfl : i = sk f n b := by omega
      have e1 : mt 1 = nI n := (q1 1 (by decide)).trans h1
      unfold P_X12_next_0 P_X12_next_0_b
      rw [q2]
      have hx : ∀ c, (c = 32 ∨ c = 10) → ¬ (sk f n b < n ∧ ((c : Nat) : Int) ≤ (f (sk f n b)).toInt ∧ (f (sk f n b)).toInt ≤ (c : Nat)) := by
        intro c hc q
        have := kd_cases (f := f) q.1
        omega
      refine m_isByte (lo := 32) (hi := 32) hn (by omega) e1 ha (by decide) (by decide) (fun z1 z2 z3 => absurd ⟨z1, z2, z3⟩ (hx 32 (Or.inl rfl))) (fun _ => b0t ?_)
      exact m_isByte (lo := 10) (hi := 10) hn (by omega) e1 ha (by decide) (by decide) (fun z1 z2 z3 => absurd ⟨z1, z2, z3⟩ (hx 10 (Or.inr rfl))) (fun _ => b0f (T mt q1 q2))
    | succ d ih =>
      intro i mt hi hbi q1 q2
      have e1 : mt 1 = nI n := (q1 1 (by decide)).trans h1
      have h4 := sk_in hbi (show i < sk f n b by omega)
      have hin := kd_lt (f := f) (n := n) (i := i) (by omega)
      have hkc := kd_cases (f := f) hin
      have go : P_X12_next_0 ma post (fun (ms : Nat → Int32) (mw : Nat → Int64) => P_X12_next_43 ma post ms mw) mw (d + 1) (va_up mt 2 (nI (i + 1))) := ih (i + 1) _ (by omega) (by omega) (fun j hj => by rw [up_ne hj]; exact q1 j hj) up_at
      unfold P_X12_next_0 P_X12_next_0_b
      rw [q2]
      refine m_isByte (lo := 32) (hi := 32) hn (by omega) e1 ha (by decide) (by decide) (fun _ _ _ => b1t (fun x hx => ?_)) (fun z => b0t ?_)
      · rw [hx, nI_1]
        exact go
      · refine m_isByte (lo := 10) (hi := 10) hn (by omega) e1 ha (by decide) (by decide) (fun _ _ _ => b1f (fun x hx => ?_)) (fun z2 => ?_)
        · rw [hx, nI_1]
          exact go
        · exfalso
          omega
  exact ⟨sk f n b - b + 1, L (sk f n b - b) b ms (by omega) (Nat.le_refl _) (fun _ _ => rfl) h2⟩
end NX
