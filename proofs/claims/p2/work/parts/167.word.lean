/-! words: a list of bytes, and its number -/
def wcD (d : Nat → Nat) : Nat → Nat
  | 0 => 0
  | j + 1 => 27 * wcD d j + d j
theorem wcD_inj {d e : Nat → Nat} : ∀ {i j : Nat}, (∀ k, k < i → 1 ≤ d k ∧ d k ≤ 26) → (∀ k, k < j → 1 ≤ e k ∧ e k ≤ 26) → wcD d i = wcD e j → i = j ∧ ∀ k, k < i → d k = e k
  | 0, 0, _, _, _ => ⟨rfl, fun k hk => by omega⟩
  | 0, j + 1, _, h2, h => by
    have := h2 j (by omega)
    rw [wcD, wcD] at h
    omega
  | i + 1, 0, h1, _, h => by
    have := h1 i (by omega)
    rw [wcD, wcD] at h
    omega
  | i + 1, j + 1, h1, h2, h => by
    have a1 := h1 i (by omega)
    have a2 := h2 j (by omega)
    rw [wcD, wcD] at h
    obtain ⟨e1, e2⟩ := wcD_inj (i := i) (j := j) (fun k hk => h1 k (by omega)) (fun k hk => h2 k (by omega)) (by omega)
    subst e1
    refine ⟨rfl, fun k hk => ?_⟩
    by_cases c : k = i
    · subst c; omega
    · exact e2 k (by omega)
theorem wcD_cong {d e : Nat → Nat} : ∀ {i : Nat}, (∀ k, k < i → d k = e k) → wcD d i = wcD e i
  | 0, _ => rfl
  | i + 1, h => by rw [wcD, wcD, wcD_cong (fun k hk => h k (by omega)), h i (by omega)]
theorem wcD_lt {d : Nat → Nat} : ∀ {i : Nat}, (∀ k, k < i → d k ≤ 26) → wcD d i < 27 ^ i
  | 0, _ => by rw [wcD]; decide
  | i + 1, h => by
    have ih := wcD_lt (d := d) (i := i) (fun k hk => h k (by omega))
    have := h i (by omega)
    rw [wcD, Nat.pow_succ]
    omega
theorem wc_D (f : Nat → Int32) (s : Nat) : ∀ j, wc f s j = wcD (fun i => dg (f (s + i)) 96) j
  | 0 => rfl
  | j + 1 => by rw [wc, wcD, wc_D f s j]
def wcL (w : List Int32) : Nat := wcD (fun i => dg (w.getD i 0) 96) w.length
abbrev okW (w : List Int32) : Prop := w.length ≤ 12 ∧ ∀ i, i < w.length → 97 ≤ (w.getD i 0).toInt ∧ (w.getD i 0).toInt ≤ 122
abbrev tokIs (f : Nat → Int32) (n s : Nat) (w : List Int32) : Prop := kd f n s = 1 ∧ tl f n s = w.length ∧ ∀ i, i < w.length → f (s + i) = w.getD i 0
theorem p27 {j : Nat} (h : j ≤ 12) : 27 ^ j < 2 ^ 63 := Nat.lt_of_le_of_lt (Nat.pow_le_pow_right (by decide) h) (by decide)
theorem tok_code {f : Nat → Int32} {n s : Nat} {w : List Int32} (hw : okW w) (hk : kd f n s = 1) : cdW f s (tl f n s) = lN (wcL w) ↔ tokIs f n s w := by
  have hl : ∀ i, i < tl f n s → 97 ≤ (f (s + i)).toInt ∧ (f (s + i)).toInt ≤ 122 := fun i hi => kd_let ((tl_in hi (Or.inl hk)).trans hk)
  have hd : ∀ i, i < tl f n s → 1 ≤ dg (f (s + i)) 96 ∧ dg (f (s + i)) 96 ≤ 26 := fun i hi => by
    have := hl i hi
    unfold dg
    omega
  have he : ∀ i, i < w.length → 1 ≤ dg (w.getD i 0) 96 ∧ dg (w.getD i 0) 96 ≤ 26 := fun i hi => by
    have := hw.2 i hi
    unfold dg
    omega
  have hwl : wcL w < 2 ^ 63 := Nat.lt_trans (wcD_lt (fun k hk => (he k hk).2)) (p27 hw.1)
  constructor
  · intro h
    unfold cdW at h
    by_cases c : tl f n s ≤ 12
    · rw [if_pos c] at h
      have h2 : wc f s (tl f n s) < 2 ^ 63 := by
        rw [wc_D]
        exact Nat.lt_trans (wcD_lt (fun k hk => (hd k hk).2)) (p27 c)
      rw [pk_lEQ h2 hwl, wc_D] at h
      obtain ⟨e1, e2⟩ := wcD_inj hd he h
      refine ⟨hk, e1, fun i hi => ?_⟩
      have h3 := e2 i (by omega)
      have h4 := hl i (by omega)
      have h5 := hw.2 i hi
      apply Int32.toInt_inj.mp
      unfold dg at h3
      omega
    · rw [if_neg c] at h
      exfalso
      have : (lN (wcL w)).toInt = (wcL w : Int) := pk_lT hwl
      rw [← h] at this
      have e : (-1 : Int64).toInt = -1 := rfl
      omega
  · intro h
    unfold cdW
    rw [if_pos (by rw [h.2.1]; exact hw.1), wc_D, h.2.1]
    unfold wcL
    rw [wcD_cong (e := fun i => dg (w.getD i 0) 96) (fun k hk => by rw [h.2.2 k hk])]
theorem c_isWord {f a : Nat → Int32} {n s : Nat} (hn : n ≤ 1600) (hs : s ≤ n) (ha : ∀ i, i < n → a i = f i) {w : List Int32} (hw : okW w) {post : Int32 → Prop} (hy : tokIs f n s w → post 1) (hno : ¬ tokIs f n s w → post 0) : P_X8_isWord a (nI s) (nI (s + tl f n s)) (nI (kd f n s)) w post := by
  have hk5 := kd_le f n s
  have htl := tl_le (f := f) hs
  have hw1 := hw.1
  refine ⟨fun c => hno (fun q => c (by rw [q.1]; rfl)), fun c => ?_⟩
  have k1 : kd f n s = 1 := (nI_eq (b := 1) (by omega) (by decide)).mp c
  rw [pk_sub (by omega), show s + tl f n s - s = tl f n s by omega, show Int32.ofNat w.length = nI w.length from rfl, nI_eq (by omega) (by omega)]
  refine ⟨fun e => ?_, fun e => hno (fun q => e q.2.1)⟩
  have L : ∀ (d i : Nat), i + d = w.length → (∀ j, j < i → f (s + j) = w.getD j 0) → P_X8_isWord_28 a (nI s) (nI (s + tl f n s)) (nI (kd f n s)) w post (d + 1) (nI i) := by
    intro d
    induction d with
    | zero =>
      intro i hi q
      obtain rfl : i = w.length := by omega
      exact ⟨fun _ => hy ⟨k1, e, q⟩, fun z => absurd (nI_le (Nat.le_refl _) (by omega)) z⟩
    | succ d ih =>
      intro i hi q
      refine ⟨fun z => absurd ((nI_leI (a := w.length) (by omega) (by omega)).mp z) (by omega), fun _ => ?_⟩
      rw [nI_add, nI_clamp (by omega), nI_clamp (by omega), ha _ (by omega), nI_1]
      refine ⟨vp_in_nI (by omega) (by decide), vp_in_nI (by omega) (by omega), fun z => ih (i + 1) (by omega) (fun j hj => ?_), fun z => hno (fun r => z (r.2.2 i (by omega)))⟩
      by_cases c : j = i
      · rw [c]; exact z
      · exact q j (by omega)
  exact ⟨w.length + 1, L w.length 0 (by omega) (fun j hj => by omega)⟩
