/-! the class's Spread: PARTS by states, a hash table -/
def hsh (q : Nat) : Nat := (nI q * (-1640531535)).toBitVec.toNat / 2 ^ 20
theorem hsh_lt (q : Nat) : hsh q < 4096 := by
  unfold hsh
  have := (nI q * (-1640531535)).toBitVec.isLt
  omega
theorem hsh_eq (q : Nat) : ((nI q * (-1640531535)).toUInt32 >>> ((20 : Int32).toUInt32 &&& Int32.toUInt32 31)).toInt32 = nI (hsh q) := by
  apply Int32.toBitVec_inj.1
  apply BitVec.eq_of_toNat_eq
  rw [pk_ushr (nI q * (-1640531535)) 20 20 (by decide), pk_tn (by have := hsh_lt q; omega)]
  rfl
def SP (E : List Nat) (D : Nat → Int64) (sz : Int32) (st : Nat → Int32) (pa : Nat → Int64) (so tb : Nat → Int32) : Prop :=
  sz = nI E.length ∧ E.length ≤ 1536 ∧ E.Nodup ∧ (∀ q, q ∉ E → D q = 0) ∧
  (∀ i, i < E.length → st i = nI (E.getD i 0) ∧ E.getD i 0 < 131072 ∧ pa i = D (E.getD i 0)) ∧
  ∃ sl : Nat → Nat, (∀ i, i < E.length → so i = nI (sl i) ∧ sl i < 4096 ∧ tb (sl i) = nI (i + 1) ∧ ∃ d, d < 4096 ∧ sl i = (hsh (E.getD i 0) + d) % 4096 ∧ ∀ d', d' < d → tb ((hsh (E.getD i 0) + d') % 4096) ≠ 0) ∧ (∀ x, x < 4096 → tb x = 0 ∨ ∃ i, i < E.length ∧ x = sl i)
def addA (D : Nat → Int64) (q : Nat) (m : Int64) : Nat → Int64 := fun x => if x = q then D x + m else D x
def addE (E : List Nat) (q : Nat) (m : Int64) : List Nat := if m = 0 ∨ q ∈ E then E else E ++ [q]
theorem uL_at {f : Nat → Int64} {k : Nat} {x : Int64} : vp_updL f k x k = x := by simp [vp_updL]
theorem uL_ne {f : Nat → Int64} {k j : Nat} {x : Int64} (h : j ≠ k) : vp_updL f k x j = f j := by simp [vp_updL, h]
theorem getD_mem {E : List Nat} {i : Nat} (h : i < E.length) : E.getD i 0 ∈ E := by
  simp [List.getD_eq_getElem?_getD, h]
theorem p_nd {l : List Nat} : l.Nodup ↔ ∀ (i j x : Nat), l[i]? = some x → l[j]? = some x → i = j := by
  unfold List.Nodup
  rw [List.pairwise_iff_getElem]
  constructor
  · intro h i j x hi hj
    obtain ⟨li, ei⟩ := List.getElem?_eq_some_iff.mp hi
    obtain ⟨lj, ej⟩ := List.getElem?_eq_some_iff.mp hj
    rcases Nat.lt_trichotomy i j with q | q | q
    · exact absurd (ei.trans ej.symm) (h i j li lj q)
    · exact q
    · exact absurd (ej.trans ei.symm) (h j i lj li q)
  · intro h i j li lj hij e
    have := h i j l[i] (List.getElem?_eq_getElem li) (by rw [e]; exact List.getElem?_eq_getElem lj)
    omega
theorem getD_inj {E : List Nat} (hn : E.Nodup) {i j : Nat} (hi : i < E.length) (hj : j < E.length) (e : E.getD i 0 = E.getD j 0) : i = j := by
  refine p_nd.mp hn i j (E.getD i 0) ?_ ?_
  · simp [List.getD_eq_getElem?_getD, hi]
  · rw [e]; simp [List.getD_eq_getElem?_getD, hj]
theorem mem_getD {E : List Nat} {q : Nat} (h : q ∈ E) : ∃ i, i < E.length ∧ E.getD i 0 = q := by
  obtain ⟨i, hi⟩ := List.mem_iff_getElem?.mp h
  obtain ⟨hl, e⟩ := List.getElem?_eq_some_iff.mp hi
  exact ⟨i, hl, by simp [List.getD_eq_getElem?_getD, hl, e]⟩
theorem app_lo {E : List Nat} {q i : Nat} (h : i < E.length) : (E ++ [q]).getD i 0 = E.getD i 0 := by
  simp [List.getD_eq_getElem?_getD, List.getElem?_append_left h]
theorem app_hi {E : List Nat} {q : Nat} : (E ++ [q]).getD E.length 0 = q := by
  simp [List.getD_eq_getElem?_getD]
theorem mod_step {h d : Nat} : ((h + d) % 4096 + 1) % 4096 = (h + (d + 1)) % 4096 := by omega
theorem and4095 {n : Nat} (h : n < 2 ^ 31) : nI n &&& 4095 = nI (n % 4096) := by
  have := pk_andN (n := n) (by omega) (m := 4095) 12 (by decide)
  simpa using this
theorem holes : ∀ (m n : Nat) (f : Nat → Nat), (∀ i, i < n → f i < m) → (∀ i j, i < j → j < n → f i ≠ f j) → n ≤ m := by
  intro m
  induction m with
  | zero =>
    intro n f h1 _
    rcases Nat.eq_zero_or_pos n with q | q
    · omega
    · exact absurd (h1 0 q) (by omega)
  | succ m ih =>
    intro n f h1 h2
    by_cases hx : ∃ a, a < n ∧ f a = m
    · obtain ⟨a, ha, hfa⟩ := hx
      have := ih (n - 1) (fun i => if i < a then f i else f (i + 1)) (fun i hi => by
        split
        · rename_i c
          have h3 := h1 i (by omega)
          have h4 : f i ≠ m := fun e => h2 i a c ha (by rw [e, hfa])
          omega
        · rename_i c
          have h3 := h1 (i + 1) (by omega)
          have h4 : f (i + 1) ≠ m := fun e => h2 a (i + 1) (by omega) (by omega) (by rw [e, hfa])
          omega) (fun i j hij hj => by
        split
        · split
          · exact h2 i j hij (by omega)
          · exact h2 i (j + 1) (by omega) (by omega)
        · split
          · omega
          · exact h2 (i + 1) (j + 1) (by omega) (by omega))
      omega
    · have := ih n f (fun i hi => by
        have h3 := h1 i hi
        have h4 : f i ≠ m := fun e => hx ⟨i, hi, e⟩
        omega) h2
      omega
theorem c_put {E : List Nat} {D : Nat → Int64} {sz : Int32} {st : Nat → Int32} {pa : Nat → Int64} {so tb : Nat → Int32} (h : SP E D sz st pa so tb) {q : Nat} (hq : q < 131072) (hr : E.length < 1536) {m : Int64} {post : Int32 → (Nat → Int32) → (Nat → Int64) → (Nat → Int32) → (Nat → Int32) → Prop}
    (hp : ∀ (sz' : Int32) (st' : Nat → Int32) (pa' : Nat → Int64) (so' tb' : Nat → Int32), SP (addE E q m) (addA D q m) sz' st' pa' so' tb' → post sz' st' pa' so' tb') : P_X7_put sz st pa so tb (nI q) m post := by
  have h0 := h
  obtain ⟨h1, h2, h3, h4, h5, sl, h6, h7⟩ := h
  have hh := hsh_lt q
  refine ⟨fun hm => ?_, fun hm => ?_⟩
  rotate_left
  · refine hp sz st pa so tb ?_
    have e1 : addE E q m = E := by unfold addE; rw [if_pos (Or.inl hm)]
    have e2 : addA D q m = D := by
      funext x
      unfold addA
      rw [hm]
      split
      · simp
      · rfl
    rw [e1, e2]
    exact h0
  intro x hx
  rw [hsh_eq] at hx
  subst hx
  -- a new state, at a free slot
  have ins : ∀ d, d < 4096 → (∀ d', d' < d → tb ((hsh q + d') % 4096) ≠ 0) → q ∉ E → tb ((hsh q + d) % 4096) = 0 → P_X7_put_87 (nI q) m post (nI ((hsh q + d) % 4096)) sz st pa so tb := by
    intro d hd hpath hnot hz
    have hs : (hsh q + d) % 4096 < 4096 := Nat.mod_lt _ (by decide)
    unfold P_X7_put_87
    rw [h1]
    refine ⟨fun c => absurd ((nI_leI (a := 1536) (by decide) (by omega)).mp c) (by omega), fun _ => ⟨vp_in_nI hr (by decide), vp_in_nI hr (by decide), vp_in_nI hr (by decide), ?_⟩⟩
    rw [nI_1]
    intro y hy
    subst hy
    refine ⟨vp_in_nI hs (by decide), ?_⟩
    rw [nI_clamp (by omega), nI_clamp (by omega)]
    have eE : addE E q m = E ++ [q] := by unfold addE; rw [if_neg (fun o => o.elim hm hnot)]
    have hne : ∀ i, i < E.length → sl i ≠ (hsh q + d) % 4096 := by
      intro i hi e
      have := (h6 i hi).2.2.1
      rw [e, hz] at this
      exact absurd this.symm (nI_ne0 (by omega) (by omega))
    refine hp _ _ _ _ _ ?_
    rw [eE]
    refine ⟨by simp, by simp; omega, ?_, ?_, ?_, fun i => if i = E.length then (hsh q + d) % 4096 else sl i, ?_, ?_⟩
    · rw [List.nodup_append]
      exact ⟨h3, by simp, fun a ha b hb => by simp at hb; subst hb; exact fun e => hnot (e ▸ ha)⟩
    · intro z hz
      have z1 : z ∉ E := fun q' => hz (List.mem_append_left _ q')
      have z2 : z ≠ q := fun e => hz (by rw [e]; simp)
      unfold addA
      rw [if_neg z2, h4 z z1]
    · intro i hi
      rw [List.length_append, List.length_singleton] at hi
      by_cases c : i = E.length
      · subst c
        rw [app_hi, u_at, uL_at]
        refine ⟨rfl, hq, ?_⟩
        unfold addA
        rw [if_pos rfl, h4 q hnot]
        simp
      · have hi2 : i < E.length := by omega
        rw [app_lo hi2, u_ne c, uL_ne c]
        obtain ⟨a1, a2, a3⟩ := h5 i hi2
        refine ⟨a1, a2, ?_⟩
        unfold addA
        rw [if_neg (show ¬ E.getD i 0 = q from fun e => hnot (e ▸ getD_mem hi2)), a3]
    · intro i hi
      rw [List.length_append, List.length_singleton] at hi
      by_cases c : i = E.length
      · subst c
        simp only [if_true]
        refine ⟨u_at, hs, u_at, d, hd, by rw [app_hi], fun d' hd' => ?_⟩
        rw [app_hi]
        by_cases c2 : (hsh q + d') % 4096 = (hsh q + d) % 4096
        · rw [c2, u_at]
          exact nI_ne0 (by omega) (by omega)
        · rw [u_ne c2]
          exact hpath d' hd'
      · have hi2 : i < E.length := by omega
        simp only [c, if_false]
        obtain ⟨a1, a2, a3, d2, b1, b2, b3⟩ := h6 i hi2
        refine ⟨by rw [u_ne c]; exact a1, a2, by rw [u_ne (hne i hi2)]; exact a3, d2, b1, by rw [app_lo hi2]; exact b2, fun d' hd' => ?_⟩
        rw [app_lo hi2]
        by_cases c2 : (hsh (E.getD i 0) + d') % 4096 = (hsh q + d) % 4096
        · rw [c2, u_at]
          exact nI_ne0 (by omega) (by omega)
        · rw [u_ne c2]
          exact b3 d' hd'
    · intro x hx
      by_cases c : x = (hsh q + d) % 4096
      · exact Or.inr ⟨E.length, by simp, by simp [c]⟩
      · rw [u_ne c]
        rcases h7 x hx with a | ⟨i, hi, a⟩
        · exact Or.inl a
        · exact Or.inr ⟨i, by simp; omega, by simp only; rw [if_neg (by omega)]; exact a⟩
  have L : ∀ k d, d + k = 4096 → (∀ d', d' < d → tb ((hsh q + d') % 4096) ≠ 0) → (∀ d', d' < d → ∀ i, i < E.length → sl i = (hsh q + d') % 4096 → E.getD i 0 ≠ q) → P_X7_put_19 (nI q) m post (fun x4_ a_size a_states a_parts a_slotOf a_table => P_X7_put_87 (nI q) m post x4_ a_size a_states a_parts a_slotOf a_table) sz st pa so tb (k + 1) (nI ((hsh q + d) % 4096)) (nI d) := by
    intro k
    induction k with
    | zero =>
      intro d hd hpath _
      exfalso
      have hc : ∀ d', d' < 4096 → ∃ i, i < E.length ∧ (hsh q + d') % 4096 = sl i := by
        intro d' hd'
        rcases h7 _ (Nat.mod_lt (hsh q + d') (by decide)) with a | a
        · exact absurd a (hpath d' (by omega))
        · exact a
      have := holes E.length 4096 (fun d' => if h : d' < 4096 then (hc d' h).choose else 0) (fun i hi => by
        simp only [hi, dif_pos]
        exact (hc i hi).choose_spec.1) (fun i j hij hj e => by
        simp only [hj, show i < 4096 by omega, dif_pos] at e
        have e1 := (hc i (by omega)).choose_spec.2
        have e2 := (hc j hj).choose_spec.2
        rw [e, ← e2] at e1
        omega)
      omega
    | succ k ih =>
      intro d hd hpath hno
      have hs : (hsh q + d) % 4096 < 4096 := Nat.mod_lt _ (by decide)
      refine ⟨fun c => absurd ((nI_leI (a := 4096) (by decide) (by omega)).mp c) (by omega), fun _ => ⟨vp_in_nI hs (by decide), ?_⟩⟩
      rw [nI_clamp (by omega)]
      refine ⟨fun c => ?_, fun c => ⟨vp_in_nI hs (by decide), ?_⟩⟩
      · refine ins d (by omega) hpath ?_ c
        intro hmem
        obtain ⟨i, hi, he⟩ := mem_getD hmem
        obtain ⟨a1, a2, a3, d2, b1, b2, b3⟩ := h6 i hi
        rw [he] at b2 b3
        rcases Nat.lt_trichotomy d2 d with z | z | z
        · exact hno d2 z i hi b2 he
        · subst z
          rw [b2, c] at a3
          exact absurd a3.symm (nI_ne0 (by omega) (by omega))
        · exact b3 d z c
      · obtain ⟨i, hi, he⟩ : ∃ i, i < E.length ∧ (hsh q + d) % 4096 = sl i := by
          rcases h7 _ hs with a | a
          · exact absurd a c
          · exact a
        obtain ⟨a1, a2, a3, -⟩ := h6 i hi
        obtain ⟨g1, g2, g3⟩ := h5 i hi
        rw [he, a3, nI_pred]
        intro y hy
        subst hy
        refine ⟨vp_in_nI (by omega) (by decide), ?_⟩
        rw [nI_clamp (by omega), g1]
        refine ⟨fun c2 => ?_, fun c2 => ⟨vp_in_nI (by omega) (by decide), vp_in_nI (by omega) (by decide), ?_⟩⟩
        · intro z hz
          rw [← he, nI_1, and4095 (by omega), mod_step] at hz
          subst hz
          rw [nI_1]
          refine ih (d + 1) (by omega) (fun d' hd' => ?_) (fun d' hd' j hj e => ?_)
          · by_cases e : d' = d
            · subst e; exact c
            · exact hpath d' (by omega)
          · by_cases e' : d' = d
            · subst e'
              have : j = i := by
                have q1 := (h6 j hj).2.2.1
                rw [e, he, a3] at q1
                have := (nI_eq (by omega) (by omega)).mp q1
                omega
              subst this
              exact fun e3 => c2 (by rw [e3])
            · exact hno d' (by omega) j hj e
        · have e3 : E.getD i 0 = q := (nI_eq (by omega) (by omega)).mp c2
          have hmem : q ∈ E := e3 ▸ getD_mem hi
          refine hp _ _ _ _ _ ?_
          have eE : addE E q m = E := by unfold addE; rw [if_pos (Or.inr hmem)]
          rw [eE]
          refine ⟨h1, h2, h3, fun z hz => ?_, fun j hj => ?_, sl, h6, h7⟩
          · unfold addA
            rw [if_neg (show ¬ z = q from fun e => hz (e ▸ hmem)), h4 z hz]
          · obtain ⟨f1, f2, f3⟩ := h5 j hj
            refine ⟨f1, f2, ?_⟩
            unfold addA
            by_cases c4 : j = i
            · subst c4
              rw [uL_at, if_pos e3, g3]
            · rw [uL_ne c4, if_neg (show ¬ E.getD j 0 = q from fun e => c4 (getD_inj h3 hj hi (e.trans e3.symm))), f3]
  have := L 4096 0 (by omega) (fun d' hd' => by omega) (fun d' hd' => by omega)
  rw [show (hsh q + 0) % 4096 = hsh q by omega] at this
  exact ⟨4097, this⟩
theorem c_wipe {E : List Nat} {D : Nat → Int64} {sz : Int32} {st : Nat → Int32} {pa : Nat → Int64} {so tb : Nat → Int32} (h : SP E D sz st pa so tb) {post : Int32 → (Nat → Int32) → Prop} (hp : ∀ tb' : Nat → Int32, SP [] (fun _ => 0) 0 st pa so tb' → post 0 tb') : P_X7_wipe sz so tb post := by
  obtain ⟨h1, h2, h3, h4, h5, sl, h6, h7⟩ := h
  have L : ∀ (k i : Nat) (tb' : Nat → Int32), i + k = E.length → (∀ x, x < 4096 → tb' x = 0 ∨ ∃ j, i ≤ j ∧ j < E.length ∧ x = sl j) → P_X7_wipe_2 so post sz (k + 1) (nI i) tb' := by
    intro k
    induction k with
    | zero =>
      intro i tb' hi ht
      refine ⟨fun _ => hp tb' ⟨rfl, by simp, List.nodup_nil, fun _ _ => rfl, fun i hi => by simp at hi, fun _ => 0, fun i hi => by simp at hi, fun x hx => ?_⟩, fun c => absurd ?_ c⟩
      · rcases ht x hx with a | ⟨j, j1, j2, -⟩
        · exact Or.inl a
        · omega
      · rw [h1]
        exact nI_le (by omega) (by omega)
    | succ k ih =>
      intro i tb' hi ht
      obtain ⟨a1, a2, -⟩ := h6 i (by omega)
      refine ⟨fun c => absurd ((cmp_le h1 (by omega) (by omega)).mp c) (by omega), fun _ => ⟨vp_in_nI (by omega) (by omega), ?_⟩⟩
      rw [nI_clamp (by omega), a1]
      refine ⟨vp_in_nI a2 (by decide), ?_⟩
      rw [nI_clamp (by omega), nI_1]
      refine ih (i + 1) _ (by omega) (fun x hx => ?_)
      by_cases e : x = sl i
      · rw [e, u_at]
        exact Or.inl rfl
      · rw [u_ne e]
        rcases ht x hx with a | ⟨j, j1, j2, j3⟩
        · exact Or.inl a
        · refine Or.inr ⟨j, ?_, j2, j3⟩
          have : j ≠ i := fun q => e (by rw [j3, q])
          omega
  exact ⟨E.length + 1, L E.length 0 tb (by omega) (fun x hx => by
    rcases h7 x hx with a | ⟨i, hi, a⟩
    · exact Or.inl a
    · exact Or.inr ⟨i, Nat.zero_le _, hi, a⟩)⟩
