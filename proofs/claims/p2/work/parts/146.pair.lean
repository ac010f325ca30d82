/-! promises 27 to 31 -/
def mn (s : Option (Nat × Int64)) (n : Nat) (x : Int64) : Option (Nat × Int64) := match s with
  | none => some (n, x)
  | some q => if x < q.2 then some (n, x) else some q
def oN (d : Int32) (s : Option (Nat × Int64)) : Int32 := match s with
  | none => d
  | some q => nI q.1
def oV (d : Int64) (s : Option (Nat × Int64)) : Int64 := match s with
  | none => d
  | some q => q.2
theorem mn_c {s : Option (Nat × Int64)} {n : Nat} {x : Int64} (hx : x < 9223372036854775807) (d : Int32) {A : Int32 → Int64 → Prop} (h : A (oN d (mn s n x)) (oV 9223372036854775807 (mn s n x))) : ((oV 9223372036854775807 s ≤ x) → A (oN d s) (oV 9223372036854775807 s)) ∧ ((¬ oV 9223372036854775807 s ≤ x) → A (nI n) x) := by
  cases s with
  | none => exact ⟨fun c => absurd hx (Int64.not_lt.mpr c), fun _ => h⟩
  | some q =>
    unfold mn at h
    refine ⟨fun c => ?_, fun c => ?_⟩
    · simp only at h
      rw [if_neg (show ¬ x < q.2 from Int64.not_lt.mpr c)] at h
      exact h
    · simp only at h
      rw [if_pos (show x < q.2 from Int64.not_le.mp c)] at h
      exact h
theorem mn_m {s : Option (Nat × Int64)} {n : Nat} {x : Int64} (hs : ∀ q, s = some q → q.1 < 2 ^ 31) (l : Int64) {A : Int32 → Int64 → Prop} (h : A (oN (-1) (mn s n x)) (oV l (mn s n x))) : ((oN (-1) s = -1) → A (nI n) x) ∧ ((¬ oN (-1) s = -1) → ((x < oV l s) → A (nI n) x) ∧ ((¬ x < oV l s) → A (oN (-1) s) (oV l s))) := by
  cases s with
  | none => exact ⟨fun _ => h, fun c => absurd rfl c⟩
  | some q =>
    unfold mn at h
    refine ⟨fun c => absurd c (nI_nm1 (hs q rfl)), fun _ => ⟨fun c => ?_, fun c => ?_⟩⟩
    · simp only at h
      rw [if_pos (show x < q.2 from c)] at h
      exact h
    · simp only at h
      rw [if_neg (show ¬ x < q.2 from c)] at h
      exact h
theorem mn_le {s : Option (Nat × Int64)} {n N : Nat} {x : Int64} (hs : ∀ q, s = some q → q.1 < N) (hn : n < N) : ∀ q, mn s n x = some q → q.1 < N := by
  intro q hq
  unfold mn at hq
  cases s with
  | none => simp at hq; subst hq; exact hn
  | some r =>
    simp only at hq
    split at hq
    · simp at hq; subst hq; exact hn
    · exact hs q hq
theorem vo_comm (v : Rl) {a b : Nat} (h : a ≠ b) (i j : Nat) : vo (vo v b j) a i = vo (vo v a i) b j := by
  funext f k
  unfold vo
  by_cases c1 : f = 23 ∧ k = a
  · rw [if_pos c1, if_neg (by omega), if_neg (by omega), if_pos c1]
  · rw [if_neg c1]
    by_cases c2 : f = 24 ∧ k = a
    · rw [if_pos c2, if_neg (by omega), if_neg (by omega), if_neg c1, if_pos c2]
    · rw [if_neg c2]
      by_cases c3 : f = 23 ∧ k = b
      · rw [if_pos c3, if_pos c3]
      · rw [if_neg c3, if_neg c3]
        by_cases c4 : f = 24 ∧ k = b
        · rw [if_pos c4, if_pos c4]
        · rw [if_neg c4, if_neg c4, if_neg c1, if_neg c2]
section P
variable {us : A1} {ua : A2} {rs : A1} {ra ra2 sa : A2} {sl : L2} {ns : A1} {na : A2} {nl : L2} {yt : Int32} {im : Img} {ms : A1} {ma : A2} {ml : L2}
theorem c_two {v : Rl} (hC : RelC v rs ra) (hv : okV v) {a b : Nat} (ha : a < v 13 0) (hb : b < v 13 0) (hab : a ≠ b) {post : Int32 → Prop} (h : post 1) : P_X11_areTwo rs (nI a) (nI b) post := by
  have := ok13 hv
  exact c_hasB hC hv ha (b1f (c_hasB hC hv hb (b1f ⟨fun c => absurd ((nI_eq (by omega) (by omega)).mp c) hab, fun _ => h⟩)))
theorem m_two {v : Rl} (hN : RelN v 0 ma) (hv : okV v) {a b : Nat} (ha : a < v 13 0) (hb : b < v 13 0) (hab : a ≠ b) {post : Int32 → Prop} (h : post 1) : P_X12_areTwo ma (nI a) (nI b) post := by
  have := ok13 hv
  exact m_isB hN hv ha (b1f (m_isB hN hv hb (b1f ⟨fun c => absurd ((nI_eq (by omega) (by omega)).mp c) hab, fun _ => h⟩)))
/-- two bikes, or not: both say so -/
theorem two_cases {v : Rl} (hC : RelC v rs ra) (hN : RelN v 0 ma) (hv : okV v) (p w : Int32) : ((∀ post : Int32 → Prop, post 0 → P_X11_areTwo rs p w post) ∧ ∀ post : Int32 → Prop, post 0 → P_X12_areTwo ma p w post) ∨ ∃ a b, a < v 13 0 ∧ b < v 13 0 ∧ a ≠ b ∧ p = nI a ∧ w = nI b := by
  have h13 := ok13 hv
  rcases ixs p (n := v 13 0) (by omega) with h | ⟨a, ha, rfl⟩
  · exact Or.inl ⟨fun post hp => c_hasB0 hC h (b0f hp), fun post hp => m_isB0 hN hv h (b0f hp)⟩
  · rcases ixs w (n := v 13 0) (by omega) with h | ⟨b, hb, rfl⟩
    · exact Or.inl ⟨fun post hp => c_hasB hC hv ha (b1f (c_hasB0 hC h (b0f hp))), fun post hp => m_isB hN hv ha (b1f (m_isB0 hN hv h (b0f hp)))⟩
    · by_cases e : a = b
      · subst e
        exact Or.inl ⟨fun post hp => c_hasB hC hv ha (b1f (c_hasB hC hv ha (b1f ⟨fun _ => hp, fun c => absurd rfl c⟩))), fun post hp => m_isB hN hv ha (b1f (m_isB hN hv ha (b1f ⟨fun _ => hp, fun c => absurd rfl c⟩)))⟩
      · exact Or.inr ⟨a, b, ha, hb, e, rfl, rfl⟩
def fP (v : Rl) (a b i j : Nat) : Int64 := costL (vo (vo v a i) b j) a + costL (vo (vo v a i) b j) b
def pI (v : Rl) (a b i : Nat) (s : Option (Nat × Int64)) : Nat → Option (Nat × Int64)
  | 0 => s
  | k + 1 => mn (pI v a b i s k) (100 * i + k) (fP v a b i k)
def pO (v : Rl) (a b : Nat) : Nat → Option (Nat × Int64)
  | 0 => none
  | i + 1 => pI v a b i (pO v a b i) (nO v)
theorem pI_le {v : Rl} (hv : okV v) {a b i : Nat} (hi : i < 12) {s : Option (Nat × Int64)} (hs : ∀ q, s = some q → q.1 < 2000) : ∀ k, k ≤ nO v → ∀ q, pI v a b i s k = some q → q.1 < 2000
  | 0, _ => hs
  | k + 1, hk => by
    have h12 := ok12 hv
    rw [pI]
    exact mn_le (pI_le hv hi hs k (by omega)) (by unfold nO at hk; omega)
theorem pO_le {v : Rl} (hv : okV v) {a b : Nat} : ∀ i, i ≤ nO v → ∀ q, pO v a b i = some q → q.1 < 2000
  | 0, _ => by intro q hq; simp [pO] at hq
  | i + 1, hi => by
    have h12 := ok12 hv
    rw [pO]
    exact pI_le hv (by unfold nO at hi; omega) (pO_le hv i (by omega)) _ (Nat.le_refl _)
theorem fP_top {v : Rl} (hv : okR v) {a b i j : Nat} (ha : a < v 13 0) (hb : b < v 13 0) (hi : i < nO v) (hj : j < nO v) : okR (vo (vo v a i) b j) ∧ fP v a b i j < 9223372036854775807 := by
  have h1 := hv.vo (b := a) (o := i) hi
  have h2 := h1.vo (b := b) (o := j) (by rw [vo_f (by decide) (by decide)]; exact hj)
  refine ⟨h2, lt_top ?_⟩
  have c1 := cost_rng h2.1 (b := a) (by rw [vo_f (by decide) (by decide), vo_f (by decide) (by decide)]; exact ha)
  have c2 := cost_rng h2.1 (b := b) (by rw [vo_f (by decide) (by decide), vo_f (by decide) (by decide)]; exact hb)
  unfold fP
  rw [fb_addL (by omega) (by omega)]
  omega
theorem q_pair (hI : Inv us ua rs ra ra2 sa sl ns na nl yt im ms ma ml) (rs2 : A1) (p w : Int32) : P_X11_pair rs ra rs2 ra2 ns na nl p w (fun r _ ra2' ns' na' nl' => P_X12_pair ms ma ml p w (fun r' mt mb mk => r = r' ∧ Inv us ua rs ra ra2' sa sl ns' na' nl' yt im mt mb mk)) := by
  obtain ⟨v, hv, hC, hM, hP, hY, hK, hB, F⟩ := hI.get
  have h13 := ok13 hv.1
  have h12 := ok12 hv.1
  have hnO : nO v = 2 * (v 12 0 + 1) := rfl
  have fin := F ra2 ns na nl _ _ _ (MG.refl _ _ _) hM.1 hB hK
  rcases two_cases hC hM.1 hv.1 p w with ⟨h1, h2⟩ | ⟨a, b, ha, hb, hab, rfl, rfl⟩
  · exact h1 _ (b0t (h2 _ (b0t ⟨rfl, fin⟩)))
  · have z := told_of hv ha
    refine c_two hC hv.1 ha hb hab (b1t (c_copyFrom hC hv.1 (fun rs' ra' hC1 hB1 _ => c_options hC1 hv.1 z ?_)))
    -- the reference
    have M : ∀ (ra3 : A2) (ns' : A1) (na' : A2) (nl' : L2), BOK ra3 → NOK ns' na' nl' → P_X12_pair ms ma ml (nI a) (nI b) (fun r' mt mb mk => oN 0 (pO v a b (nO v)) = r' ∧ Inv us ua rs ra ra3 sa sl ns' na' nl' yt im mt mb mk) := by
      intro ra3 ns' na' nl' hB3 hK3
      refine m_two hM.1 hv.1 ha hb hab (b1t (m_optionOf hM.1 hv.1 ha (m_optionOf hM.1 hv.1 hb ?_)))
      have hoa := opt_lt hv.1 ha
      have hob := opt_lt hv.1 hb
      have I : ∀ (i : Nat), i < nO v → ∀ (R39 : Int32 → Int64 → Int32 → A1 → A2 → L2 → Prop) (mx : A1) (ax : A2) (lx : L2) (u : Rl), RM u 0 mx ax → u 12 0 = v 12 0 → (∀ i j, vo (vo u a i) b j = vo (vo v a i) b j) → MG (va_up ms 0 0) ma ml mx ax lx → (∀ my ay ly u, RM u 0 my ay → u 12 0 = v 12 0 → (∀ i j, vo (vo u a i) b j = vo (vo v a i) b j) → MG (va_up ms 0 0) ma ml my ay ly → R39 (oN (-1) (pO v a b (i + 1))) (oV 0 (pO v a b (i + 1))) (nI (i + 1)) my ay ly) → ∃ m, P_X12_pair_51 (nI a) (nI b) (nI (opt v a)) (nI (opt v b)) (fun r' mt mb mk => oN 0 (pO v a b (nO v)) = r' ∧ Inv us ua rs ra ra3 sa sl ns' na' nl' yt im mt mb mk) R39 (nI i) m (oN (-1) (pO v a b i)) (oV 0 (pO v a b i)) 0 mx ax lx := by
        intro i hi R39 mx ax lx u q1 q2 q3 q4 kk
        have L : ∀ (k j : Nat) (my : A1) (ay : A2) (ly : L2) (u : Rl), j + k = nO v → RM u 0 my ay → u 12 0 = v 12 0 → (∀ i j, vo (vo u a i) b j = vo (vo v a i) b j) → MG (va_up ms 0 0) ma ml my ay ly → P_X12_pair_51 (nI a) (nI b) (nI (opt v a)) (nI (opt v b)) (fun r' mt mb mk => oN 0 (pO v a b (nO v)) = r' ∧ Inv us ua rs ra ra3 sa sl ns' na' nl' yt im mt mb mk) R39 (nI i) (k + 1) (oN (-1) (pI v a b i (pO v a b i) j)) (oV 0 (pI v a b i (pO v a b i) j)) (nI j) my ay ly := by
          intro k
          induction k with
          | zero =>
            intro j my ay ly u hj r1 r2 r3 r4
            obtain rfl : j = nO v := by omega
            unfold P_X12_pair_51 P_X12_pair_51_b
            refine m_optionMany r1.1 ?_
            rw [r2, nI_1]
            exact ⟨fun _ => kk _ _ _ u r1 r2 r3 r4, fun c => absurd (nI_le (Nat.le_refl _) (by omega)) c⟩
          | succ k ih =>
            intro j my ay ly u hj r1 r2 r3 r4
            unfold P_X12_pair_51 P_X12_pair_51_b
            refine m_optionMany r1.1 ?_
            rw [r2]
            refine ⟨fun c => absurd ((nI_leI (by omega) (by omega)).mp c) (by omega), fun _ => ?_⟩
            refine m_setO r1 (by omega) (by omega) (fun a1 s1 s2 _ => m_setO s1 (by omega) (by omega) (fun a2 t1 t2 _ => ?_))
            rw [r3] at t1
            obtain ⟨hu, htop⟩ := fP_top hv ha hb hi (show j < nO v by omega)
            refine m_nightF hu.1 hu.2.1 t1 (fun m3 a3 l3 hF hMP => ?_)
            have ha' : a < vo (vo v a i) b j 13 0 := by rw [vo_f (by decide) (by decide), vo_f (by decide) (by decide)]; exact ha
            have hb' : b < vo (vo v a i) b j 13 0 := by rw [vo_f (by decide) (by decide), vo_f (by decide) (by decide)]; exact hb
            have hM3 := hF.rm t1
            refine m_costOf hu.1 hM3.1 hMP ha' (m_costOf hu.1 hM3.1 hMP hb' (fun x hx => ?_))
            have hx' : x = fP v a b i j := hx
            subst hx'
            have go := ih (j + 1) m3 a3 l3 (vo (vo v a i) b j) (by omega) hM3 (by rw [vo_f (by decide) (by decide), vo_f (by decide) (by decide)]) (fun i' j' => by rw [vo_comm _ hab, vo_vo, vo_vo]) (((r4.trans (s2 _ _)).trans (t2 _ _)).trans hF.g)
            rw [pI] at go
            rw [nI_1, show (100 : Int32) * nI i + nI j = nI (100 * i + j) by simp only [fa_lit, pk_mul, nI_add]]
            have := mn_m (A := fun n l => P_X12_pair_51 (nI a) (nI b) (nI (opt v a)) (nI (opt v b)) (fun r' mt mb mk => oN 0 (pO v a b (nO v)) = r' ∧ Inv us ua rs ra ra3 sa sl ns' na' nl' yt im mt mb mk) R39 (nI i) (k + 1) n l (nI (j + 1)) m3 a3 l3) (fun q hq => Nat.lt_of_lt_of_le (pI_le hv.1 (by omega) (pO_le hv.1 i (by omega)) j (by omega) q hq) (by decide)) 0 go
            exact ⟨fun c y hy => by rw [hy]; exact this.1 c, fun c => ⟨fun c2 y hy => by rw [hy]; exact (this.2 c).1 c2, fun c2 => (this.2 c).2 c2⟩⟩
        exact ⟨nO v + 1, L (nO v) 0 mx ax lx u (by omega) q1 q2 q3 q4⟩
      have L : ∀ (k i : Nat) (my : A1) (ay : A2) (ly : L2) (u : Rl), i + k = nO v → RM u 0 my ay → u 12 0 = v 12 0 → (∀ i j, vo (vo u a i) b j = vo (vo v a i) b j) → MG (va_up ms 0 0) ma ml my ay ly → P_X12_pair_39 (nI a) (nI b) (fun r' mt mb mk => oN 0 (pO v a b (nO v)) = r' ∧ Inv us ua rs ra ra3 sa sl ns' na' nl' yt im mt mb mk) (fun (x3_ : Int32) (x4_ : Int32) (x5_ : Int32) (ms : Nat → Int32) (ma : Nat → Nat → Int32) (ml : Nat → Nat → Int64) => P_X12_pair_134 (nI a) (nI b) (fun r' mt mb mk => oN 0 (pO v a b (nO v)) = r' ∧ Inv us ua rs ra ra3 sa sl ns' na' nl' yt im mt mb mk) x3_ x4_ x5_ ms ma ml) (nI (opt v a)) (nI (opt v b)) (k + 1) (oN (-1) (pO v a b i)) (oV 0 (pO v a b i)) (nI i) my ay ly := by
        intro k
        induction k with
        | zero =>
          intro i my ay ly u hi r1 r2 r3 r4
          obtain rfl : i = nO v := by omega
          unfold P_X12_pair_39 P_X12_pair_39_b
          refine m_optionMany r1.1 ?_
          rw [r2]
          refine ⟨fun _ => ?_, fun c => absurd (nI_le (Nat.le_refl _) (by omega)) c⟩
          refine m_setO r1 (by omega) (by omega) (fun a1 s1 s2 _ => m_setO s1 (by omega) (by omega) (fun a2 t1 t2 _ => ?_))
          rw [r3, vo_opt (hv.1.2.2.2.2.1 a ha).2.2.2.2, vo_opt (hv.1.2.2.2.2.1 b hb).2.2.2.2] at t1
          refine ⟨?_, F _ _ _ _ _ _ _ ((r4.trans (s2 _ _)).trans (t2 _ _)) t1.1 hB3 hK3⟩
          have hsome : pO v a b (nO v) ≠ none := by
            have e : nO v = (nO v - 1) + 1 := by omega
            rw [e, pO]
            have e2 : nO v = (nO v - 1) + 1 := by omega
            rw [e2, pI]
            unfold mn
            split
            · simp
            · split <;> simp
          cases hs : pO v a b (nO v) with
          | none => exact absurd hs hsome
          | some q => rfl
        | succ k ih =>
          intro i my ay ly u hi r1 r2 r3 r4
          unfold P_X12_pair_39 P_X12_pair_39_b
          refine m_optionMany r1.1 ?_
          rw [r2]
          refine ⟨fun c => absurd ((nI_leI (by omega) (by omega)).mp c) (by omega), fun _ => ?_⟩
          exact I i (by omega) _ my ay ly u r1 r2 r3 r4 (fun mz az lz u' s1 s2 s3 s4 => ih (i + 1) mz az lz u' (by omega) s1 s2 s3 s4)
      exact ⟨nO v + 1, L (nO v) 0 _ _ _ v (by omega) hM rfl (fun _ _ => rfl) (MG.refl _ _ _)⟩
    -- the class
    have I : ∀ (i : Nat), i < nO v → ∀ (R42 : Int32 → Int64 → Int32 → A2 → A1 → A2 → L2 → Prop) (rx : A2) (nx : A1) (ax : A2) (lx : L2) (u : Rl), RelC u rs' rx → (∀ j, vo u b j = vo (vo v a i) b j) → NOK nx ax lx → (∀ ry ny ay ly u, RelC u rs' ry → (∀ i j, vo (vo u a i) b j = vo (vo v a i) b j) → NOK ny ay ly → R42 (oN 0 (pO v a b (i + 1))) (oV 9223372036854775807 (pO v a b (i + 1))) (nI (i + 1)) ry ny ay ly) → (∀ i j, vo (vo u a i) b j = vo (vo v a i) b j) → ∃ m, P_X11_pair_64 rs ra (nI a) (nI b) (nI (nO v)) rs' (fun r _ ra2' ns' na' nl' => P_X12_pair ms ma ml (nI a) (nI b) (fun r' mt mb mk => r = r' ∧ Inv us ua rs ra ra2' sa sl ns' na' nl' yt im mt mb mk)) R42 (nI i) m (oN 0 (pO v a b i)) (oV 9223372036854775807 (pO v a b i)) 0 rx nx ax lx := by
      intro i hi R42 rx nx ax lx u q1 q2 q3 kk q4
      have L : ∀ (k j : Nat) (ry : A2) (ny : A1) (ay : A2) (ly : L2) (u : Rl), j + k = nO v → RelC u rs' ry → (∀ j, vo u b j = vo (vo v a i) b j) → (∀ i j, vo (vo u a i) b j = vo (vo v a i) b j) → NOK ny ay ly → P_X11_pair_64 rs ra (nI a) (nI b) (nI (nO v)) rs' (fun r _ ra2' ns' na' nl' => P_X12_pair ms ma ml (nI a) (nI b) (fun r' mt mb mk => r = r' ∧ Inv us ua rs ra ra2' sa sl ns' na' nl' yt im mt mb mk)) R42 (nI i) (k + 1) (oN 0 (pI v a b i (pO v a b i) j)) (oV 9223372036854775807 (pI v a b i (pO v a b i) j)) (nI j) ry ny ay ly := by
        intro k
        induction k with
        | zero =>
          intro j ry ny ay ly u hj r1 r2 r3 r4
          obtain rfl : j = nO v := by omega
          refine ⟨fun _ => ?_, fun c => absurd (nI_le (Nat.le_refl _) (by omega)) c⟩
          rw [nI_1]
          exact kk _ _ _ _ u r1 r3 r4
        | succ k ih =>
          intro j ry ny ay ly u hj r1 r2 r3 r4
          refine ⟨fun c => absurd ((nI_leI (by omega) (by omega)).mp c) (by omega), fun _ => ?_⟩
          refine c_setOption r1 (by omega) (by omega) (fun loc mar hC' => ?_)
          rw [r2] at hC'
          obtain ⟨hu, htop⟩ := fP_top hv ha hb hi (show j < nO v by omega)
          have ha' : a < vo (vo v a i) b j 13 0 := by rw [vo_f (by decide) (by decide), vo_f (by decide) (by decide)]; exact ha
          have hb' : b < vo (vo v a i) b j 13 0 := by rw [vo_f (by decide) (by decide), vo_f (by decide) (by decide)]; exact hb
          refine c_play hC' hu.1 r4 (fun n3 a3 l3 hPl => c_costOf (w := 2) hC' hu.1 hPl.2.2.2 ha' (by decide) (c_costOf (w := 2) hC' hu.1 hPl.2.2.2 hb' (by decide) (fun x hx => ?_)))
          have hx' : x = fP v a b i j := hx
          subst hx'
          have go := ih (j + 1) _ n3 a3 l3 (vo (vo v a i) b j) (by omega) hC' (fun j' => by rw [vo_vo]) (fun i' j' => by rw [vo_comm _ hab, vo_vo, vo_vo]) hPl.2.1
          rw [pI] at go
          rw [nI_1, show (100 : Int32) * nI i + nI j = nI (100 * i + j) by simp only [fa_lit, pk_mul, nI_add]]
          have := mn_c htop 0 (A := fun n l => P_X11_pair_64 rs ra (nI a) (nI b) (nI (nO v)) rs' (fun r _ ra2' ns' na' nl' => P_X12_pair ms ma ml (nI a) (nI b) (fun r' mt mb mk => r = r' ∧ Inv us ua rs ra ra2' sa sl ns' na' nl' yt im mt mb mk)) R42 (nI i) (k + 1) n l (nI (j + 1)) (va_up (va_up ry 7 loc) 8 mar) n3 a3 l3) go
          exact ⟨fun c => this.1 c, fun c y hy => by rw [hy]; exact this.2 c⟩
      exact ⟨nO v + 1, L (nO v) 0 rx nx ax lx u (by omega) q1 q2 q4 q3⟩
    have L : ∀ (k i : Nat) (ry : A2) (ny : A1) (ay : A2) (ly : L2) (u : Rl), i + k = nO v → RelC u rs' ry → (∀ i j, vo (vo u a i) b j = vo (vo v a i) b j) → NOK ny ay ly → P_X11_pair_42 rs ra (nI a) (nI b) (fun r _ ra2' ns' na' nl' => P_X12_pair ms ma ml (nI a) (nI b) (fun r' mt mb mk => r = r' ∧ Inv us ua rs ra ra2' sa sl ns' na' nl' yt im mt mb mk)) (nI (nO v)) rs' (k + 1) (oN 0 (pO v a b i)) (oV 9223372036854775807 (pO v a b i)) (nI i) ry ny ay ly := by
      intro k
      induction k with
      | zero =>
        intro i ry ny ay ly u hi r1 r2 r3
        obtain rfl : i = nO v := by omega
        exact ⟨fun _ => M ry ny ay ly r1.bok r3, fun c => absurd (nI_le (Nat.le_refl _) (by omega)) c⟩
      | succ k ih =>
        intro i ry ny ay ly u hi r1 r2 r3
        refine ⟨fun c => absurd ((nI_leI (by omega) (by omega)).mp c) (by omega), fun _ => ?_⟩
        refine c_setOption r1 (by omega) (by omega) (fun loc mar hC' => ?_)
        exact I i (by omega) _ _ ny ay ly (vo u a i) hC' (fun j => r2 i j) r3 (fun rz nz az lz u' s1 s2 s3 => ih (i + 1) rz nz az lz u' (by omega) s1 s2 s3) (fun i' j' => by rw [vo_vo]; exact r2 i' j')
    exact ⟨nO v + 1, L (nO v) 0 ra' ns na nl v (by omega) hC1 (fun _ _ => rfl) hK⟩
/-! wasted -/
def zro (v : Rl) : Nat → Rl
  | 0 => v
  | k + 1 => vo (zro v k) k 0
theorem zro_ok {v : Rl} (hv : okR v) : ∀ k, k ≤ v 13 0 → okR (zro v k) ∧ SO (zro v k) v
  | 0, _ => ⟨hv, SO.refl v⟩
  | k + 1, hk => by
    obtain ⟨h1, h2⟩ := zro_ok hv k (by omega)
    exact ⟨h1.vo (by omega), h2.vo (by omega) _⟩
theorem q_wasted (hI : Inv us ua rs ra ra2 sa sl ns na nl yt im ms ma ml) (rs2 : A1) : P_X11_wasted rs ra rs2 ra2 ns na nl (fun r _ ra2' ns' na' nl' => P_X12_wasted ms ma ml (fun r' mt mb mk => r = r' ∧ Inv us ua rs ra ra2' sa sl ns' na' nl' yt im mt mb mk)) := by
  obtain ⟨v, hv, hC, hM, hP, hY, hK, hB, F⟩ := hI.get
  have h13 := ok13 hv.1
  have fin := F ra2 ns na nl _ _ _ (MG.refl _ _ _) hM.1 hB hK
  obtain ⟨g1, g2⟩ := zro_ok hv _ (Nat.le_refl _)
  rcases Nat.eq_zero_or_pos (v 2 0) with z | z
  · exact c_told0 hC z (b0t (m_rail0 hM.1 hv.1 z (b0t ⟨rfl, fin⟩)))
  · refine c_told hC hv.1 z (b1t (c_copyFrom hC hv.1 (fun rs' ra' hC1 hB1 _ => ?_)))
    have M : ∀ (ra3 : A2) (ns' : A1) (na' : A2) (nl' : L2), BOK ra3 → NOK ns' na' nl' → P_X12_wasted ms ma ml (fun r' mt mb mk => allL v 2 - allL (zro v (v 13 0)) 2 = r' ∧ Inv us ua rs ra ra3 sa sl ns' na' nl' yt im mt mb mk) := by
      intro ra3 ns' na' nl' hB3 hK3
      refine m_rail hM.1 hv.1 z (b1t (m_allNow (w := 2) hv.1 hv.2.1 hM (by decide) (fun m1 a1 l1 hF1 => m_laysAside hv.1 (hF1.rm hM) (fun mb h1 h2 => ?_))))
      have L : ∀ (k i : Nat) (ay : A2), i + k = v 13 0 → RM (zro v i) 0 m1 ay → (∀ (ms : A1) (ml : L2), MG ms mb ml ms ay ml) → ay 20 = mb 20 → P_X12_wasted_28 (fun r' mt mb mk => allL v 2 - allL (zro v (v 13 0)) 2 = r' ∧ Inv us ua rs ra ra3 sa sl ns' na' nl' yt im mt mb mk) (fun (x1_ : Int64) (ms : Nat → Int32) (ma : Nat → Nat → Int32) (ml : Nat → Nat → Int64) => P_X12_wasted_50 (fun r' mt mb mk => allL v 2 - allL (zro v (v 13 0)) 2 = r' ∧ Inv us ua rs ra ra3 sa sl ns' na' nl' yt im mt mb mk) x1_ ms ma ml) (allL v 2) m1 l1 (k + 1) (nI i) ay := by
        intro k
        induction k with
        | zero =>
          intro i ay hi r1 r2 r3
          obtain rfl : i = v 13 0 := by omega
          have e : ay 10 0 = nI (v 13 0) := by rw [r1.1.1.2.2.2.2, g2.n]
          refine ⟨fun _ => ?_, fun c => absurd ((cmp_le e (by omega) (by omega)).mpr (Nat.le_refl _)) c⟩
          refine m_allNow (w := 2) g1.1 g1.2.1 r1 (by decide) (fun m2 a2 l2 hF x hx => ?_)
          refine m_takesBack hv.1 g2 (hF.rm r1) (fun b hb => by rw [hF.2.1 20 (by decide) (by decide), r3]; exact h2 b hb) (fun md hMd hGd => ?_)
          exact ⟨hx.symm, F _ _ _ _ _ _ _ ((((hF1.g.trans (MG.of20 h1)).trans (r2 _ _)).trans hF.g).trans (hGd _ _)) hMd.1 hB3 hK3⟩
        | succ k ih =>
          intro i ay hi r1 r2 r3
          have e : ay 10 0 = nI (v 13 0) := by rw [r1.1.1.2.2.2.2, (zro_ok hv i (by omega)).2.n]
          refine ⟨fun c => absurd ((cmp_le e (by omega) (by omega)).mp c) (by omega), fun _ => ?_⟩
          refine m_setO (o := 0) r1 (by omega) (by decide) (fun az s1 s2 s3 => ?_)
          rw [nI_1]
          exact ih (i + 1) az (by omega) s1 (fun a b => (r2 a b).trans (s2 a b)) ((s3 20 (by decide)).trans r3)
      exact ⟨v 13 0 + 1, L (v 13 0) 0 mb (by omega) ((hF1.rm hM).fr (fun i _ _ => h1 i (by omega)) rfl rfl) (fun _ _ => MG.refl _ _ _) rfl⟩
    have L : ∀ (k i : Nat) (ry : A2), i + k = v 13 0 → RelC (zro v i) rs' ry → P_X11_wasted_27 rs ra (fun r _ ra2' ns' na' nl' => P_X12_wasted ms ma ml (fun r' mt mb mk => r = r' ∧ Inv us ua rs ra ra2' sa sl ns' na' nl' yt im mt mb mk)) (fun (rs2 : Nat → Int32) (ra2 : Nat → Nat → Int32) (ns : Nat → Int32) (na : Nat → Nat → Int32) (nl : Nat → Nat → Int64) => P_X11_wasted_59 rs ra (fun r _ ra2' ns' na' nl' => P_X12_wasted ms ma ml (fun r' mt mb mk => r = r' ∧ Inv us ua rs ra ra2' sa sl ns' na' nl' yt im mt mb mk)) rs2 ra2 ns na nl) rs' ns na nl (k + 1) (nI i) ry := by
      intro k
      induction k with
      | zero =>
        intro i ry hi r1
        obtain rfl : i = v 13 0 := by omega
        refine ⟨fun _ => ?_, fun c => absurd ((cmp_le (rc_s hC1 13) (by omega) (by omega)).mpr (Nat.le_refl _)) c⟩
        refine c_allOn (w := 2) hC hv.1 hK (by decide) (fun n1 a1 l1 hK1 => c_allOn (w := 2) r1 g1.1 hK1 (by decide) (fun n2 a2 l2 hK2 => ?_))
        exact M ry n2 a2 l2 r1.bok hK2
      | succ k ih =>
        intro i ry hi r1
        refine ⟨fun c => absurd ((cmp_le (rc_s hC1 13) (by omega) (by omega)).mp c) (by omega), fun _ => ?_⟩
        refine c_setOption (o := 0) r1 (by omega) (by decide) (fun loc mar hC' => ?_)
        rw [nI_1]
        exact ih (i + 1) _ (by omega) hC'
    exact ⟨v 13 0 + 1, L (v 13 0) 0 ra' (by omega) hC1⟩
/-! growth -/
def gr (v : Rl) (b o k : Nat) : Int64 := -(risk v k) + risk (vo v b o) k
theorem c_grown {v : Rl} (hv : okR v) (hC : RelC v rs ra) (hK : NOK ns na nl) (rs2 : A1) (o_of : Nat → Int64) {b o : Nat} (hb : b < v 13 0) (ho : o < 2 * (v 12 0 + 1)) {post : A1 → A2 → A1 → A2 → L2 → (Nat → Int64) → Prop} (h : ∀ rs' ra' ns' na' nl' of', BOK ra' → NOK ns' na' nl' → (∀ k, k < v 13 0 → of' k = gr v b o k) → post rs' ra' ns' na' nl' of') : P_X11_findGrownRisks rs ra rs2 ra2 ns na nl o_of (nI b) (nI o) post := by
  have h13 := ok13 hv.1
  have h12 := ok12 hv.1
  have hv' := hv.vo (b := b) ho
  refine c_play hC hv.1 hK (fun n1 a1 l1 hPl => ?_)
  have LL2 : ∀ (rs3 : A1) (ra3 : A2), RelC (vo v b o) rs3 ra3 → ∀ (n2 : A1) (a2 : A2) (l2 : L2), NOK n2 a2 l2 → HadR (vo v b o) l2 → ∀ (k i : Nat) (of : Nat → Int64), i + k = v 13 0 → (∀ x, x < i → of x = gr v b o x) → (∀ x, i ≤ x → x < v 13 0 → of x = -(risk v x)) → P_X11_findGrownRisks_84 rs ra (nI b) (nI o) post rs3 ra3 n2 a2 l2 (k + 1) (nI i) of := by
    intro rs3 ra3 hC3 n2 a2 l2 hK2 hH2 k
    induction k with
    | zero =>
      intro i of hi q1 q2
      obtain rfl : i = v 13 0 := by omega
      exact ⟨fun _ => h _ _ _ _ _ _ hC3.bok hK2 q1, fun c => absurd ((cmp_le (rc_s hC 13) (by omega) (by omega)).mpr (Nat.le_refl _)) c⟩
    | succ k ih =>
      intro i of hi q1 q2
      refine ⟨fun c => absurd ((cmp_le (rc_s hC 13) (by omega) (by omega)).mp c) (by omega), fun _ => ⟨vp_in_nI (by omega) (by decide), ?_⟩⟩
      refine c_riskOf hH2 (by omega) ⟨vp_in_nI (by omega) (by decide), ?_⟩
      rw [nI_1, nI_clamp (by omega), q2 i (Nat.le_refl _) (by omega)]
      refine ih (i + 1) _ (by omega) (fun x hx => ?_) (fun x h1 h2 => by rw [uL_ne (by omega)]; exact q2 x (by omega) h2)
      by_cases c : x = i
      · rw [c, uL_at]; rfl
      · rw [uL_ne c]; exact q1 x (by omega)
  have L1 : ∀ (k i : Nat) (of : Nat → Int64), i + k = v 13 0 → (∀ x, x < i → of x = -(risk v x)) → P_X11_findGrownRisks_13 rs ra (nI b) (nI o) post (fun (rs2 : Nat → Int32) (ra2 : Nat → Nat → Int32) (ns : Nat → Int32) (na : Nat → Nat → Int32) (nl : Nat → Nat → Int64) (o_of : Nat → Int64) => P_X11_findGrownRisks_48 rs ra (nI b) (nI o) post rs2 ra2 ns na nl o_of) rs2 ra2 n1 a1 l1 (k + 1) (nI i) of := by
    intro k
    induction k with
    | zero =>
      intro i of hi q1
      obtain rfl : i = v 13 0 := by omega
      refine ⟨fun _ => ?_, fun c => absurd ((cmp_le (rc_s hC 13) (by omega) (by omega)).mpr (Nat.le_refl _)) c⟩
      refine c_copyFrom hC hv.1 (fun rs3 ra3 hC3 _ _ => c_setOption hC3 (by omega) (by omega) (fun loc mar hC4 => c_play hC4 hv'.1 hPl.2.1 (fun n2 a2 l2 hPl2 => ?_)))
      exact ⟨v 13 0 + 1, LL2 _ _ hC4 n2 a2 l2 hPl2.2.1 hPl2.2.2.2 (v 13 0) 0 of (by omega) (fun x hx => by omega) (fun x _ hx => q1 x hx)⟩
    | succ k ih =>
      intro i of hi q1
      refine ⟨fun c => absurd ((cmp_le (rc_s hC 13) (by omega) (by omega)).mp c) (by omega), fun _ => ?_⟩
      refine c_riskOf hPl.2.2.2 (by omega) ⟨vp_in_nI (by omega) (by decide), ?_⟩
      rw [nI_1, nI_clamp (by omega)]
      refine ih (i + 1) _ (by omega) (fun x hx => ?_)
      by_cases c : x = i
      · rw [c, uL_at]
      · rw [uL_ne c]; exact q1 x (by omega)
  exact ⟨v 13 0 + 1, L1 (v 13 0) 0 o_of (by omega) (fun x hx => by omega)⟩
theorem MG.l5 (x : Nat → Int64) : MG ms ma ml ms ma (va_up ml 5 x) := ⟨fun _ _ _ _ => rfl, fun _ _ _ _ _ => rfl, fun _ _ => rfl, fun _ _ => rfl, up_ne (by decide)⟩
theorem m_growth {v : Rl} (hv : okR v) (hM : RM v 0 ms ma) {b o : Nat} (hb : b < v 13 0) (ho : o < 2 * (v 12 0 + 1)) {post : A1 → A2 → L2 → Prop} (h : ∀ mt mb mk, RM v 0 mt mb → MG ms ma ml mt mb mk → (∀ k, k < v 13 0 → mk 5 k = gr v b o k) → post mt mb mk) : P_X12_laysGrowth ms ma ml (nI b) (nI o) post := by
  have h13 := ok13 hv.1
  have h12 := ok12 hv.1
  have hv' := hv.vo (b := b) ho
  have hol := opt_lt hv.1 hb
  refine m_nightF hv.1 hv.2.1 hM (fun m1 a1 l1 hF1 hP1 => ?_)
  have hM1 := hF1.rm hM
  have LL2 : ∀ (m2 : A1) (a2 : A2), RM (vo v b o) 0 m2 a2 → ∀ (k i : Nat) (lx : L2), i + k = v 13 0 → MP (vo v b o) lx → MG ms ma ml m2 a2 lx → (∀ x, x < i → lx 5 x = gr v b o x) → (∀ x, i ≤ x → x < v 13 0 → lx 5 x = -(risk v x)) → P_X12_laysGrowth_53 (nI b) (nI o) post (fun (x3_ : Int32) (ms : Nat → Int32) (ma : Nat → Nat → Int32) (ml : Nat → Nat → Int64) => P_X12_laysGrowth_86 (nI b) (nI o) post x3_ ms ma ml) (nI (opt v b)) m2 a2 (k + 1) (nI i) lx := by
    intro m2 a2 hM2 k
    have e : a2 10 0 = nI (v 13 0) := by rw [hM2.1.1.2.2.2.2, vo_f (by decide) (by decide)]
    induction k with
    | zero =>
      intro i lx hi q0 qG q1 q2
      obtain rfl : i = v 13 0 := by omega
      refine ⟨fun _ => ?_, fun c => absurd ((cmp_le e (by omega) (by omega)).mpr (Nat.le_refl _)) c⟩
      refine m_setO hM2 (by omega) (by omega) (fun a3 s1 s2 _ => ?_)
      rw [vo_vo, vo_opt (hv.1.2.2.2.2.1 b hb).2.2.2.2] at s1
      exact h _ _ _ s1 (qG.trans (s2 _ _)) q1
    | succ k ih =>
      intro i lx hi q0 qG q1 q2
      refine ⟨fun c => absurd ((cmp_le e (by omega) (by omega)).mp c) (by omega), fun _ => ⟨vp_in_nI (by omega) (by decide), ?_⟩⟩
      refine m_riskOf hv'.1 hM2.1 q0 (by rw [vo_f (by decide) (by decide)]; omega) ⟨vp_in_nI (by omega) (by decide), ?_⟩
      rw [nI_1, nI_clamp (by omega), q2 i (Nat.le_refl _) (by omega)]
      refine ih (i + 1) _ (by omega) ?_ (qG.trans (MG.l5 _)) (fun x hx => ?_) (fun x h1 h2 => by rw [up_at, uL_ne (by omega)]; exact q2 x (by omega) h2)
      · unfold MP at q0 ⊢
        rw [up_ne (by decide), up_ne (by decide)]
        exact q0
      · rw [up_at]
        by_cases c : x = i
        · rw [c, uL_at]; rfl
        · rw [uL_ne c]; exact q1 x (by omega)
  have e1 : a1 10 0 = nI (v 13 0) := hM1.1.1.2.2.2.2
  have L1 : ∀ (k i : Nat) (lx : L2), i + k = v 13 0 → MP v lx → MG ms ma ml m1 a1 lx → (∀ x, x < i → lx 5 x = -(risk v x)) → P_X12_laysGrowth_6 (nI b) (nI o) post (fun (ms : Nat → Int32) (ma : Nat → Nat → Int32) (ml : Nat → Nat → Int64) => P_X12_laysGrowth_34 (nI b) (nI o) post ms ma ml) m1 a1 (k + 1) (nI i) lx := by
    intro k
    induction k with
    | zero =>
      intro i lx hi q0 qG q1
      obtain rfl : i = v 13 0 := by omega
      refine ⟨fun _ => ?_, fun c => absurd ((cmp_le e1 (by omega) (by omega)).mpr (Nat.le_refl _)) c⟩
      refine m_optionOf hM1.1 hv.1 hb (m_setO hM1 (by omega) (by omega) (fun a2 s1 s2 _ => m_nightF hv'.1 hv'.2.1 s1 (fun m3 a3 l3 hF3 hP3 => ?_)))
      exact ⟨v 13 0 + 1, LL2 m3 a3 (hF3.rm s1) (v 13 0) 0 l3 (by omega) hP3 ((qG.trans (s2 _ _)).trans hF3.g) (fun x hx => by omega) (fun x _ hx => by rw [hF3.2.2 5 (by decide) (by decide) (by decide)]; exact q1 x hx)⟩
    | succ k ih =>
      intro i lx hi q0 qG q1
      refine ⟨fun c => absurd ((cmp_le e1 (by omega) (by omega)).mp c) (by omega), fun _ => ?_⟩
      refine m_riskOf hv.1 hM1.1 q0 (by omega) ⟨vp_in_nI (by omega) (by decide), ?_⟩
      rw [nI_1, nI_clamp (by omega)]
      refine ih (i + 1) _ (by omega) ?_ (qG.trans (MG.l5 _)) (fun x hx => ?_)
      · unfold MP at q0 ⊢
        rw [up_ne (by decide), up_ne (by decide)]
        exact q0
      · rw [up_at]
        by_cases c : x = i
        · rw [c, uL_at]
        · rw [uL_ne c]; exact q1 x (by omega)
  exact ⟨v 13 0 + 1, L1 (v 13 0) 0 l1 (by omega) hP1 hF1.g (fun x hx => by omega)⟩
theorem q_beside (hI : Inv us ua rs ra ra2 sa sl ns na nl yt im ms ma ml) (rs2 : A1) (o_of : Nat → Int64) (p w y : Int32) : P_X11_beside rs ra rs2 ra2 ns na nl o_of p w y (fun r _ ra2' ns' na' nl' _ => P_X12_beside ms ma ml p w y (fun r' mt mb mk => r = r' ∧ Inv us ua rs ra ra2' sa sl ns' na' nl' yt im mt mb mk)) := by
  obtain ⟨v, hv, hC, hM, hP, hY, hK, hB, F⟩ := hI.get
  have h13 := ok13 hv.1
  have h12 := ok12 hv.1
  have fin := F ra2 ns na nl _ _ _ (MG.refl _ _ _) hM.1 hB hK
  rcases two_cases hC hM.1 hv.1 p y with ⟨h1, h2⟩ | ⟨b, c, hb, hc, hbc, rfl, rfl⟩
  · exact h1 _ (b0f (h2 _ (b0f ⟨rfl, fin⟩)))
  · have z := told_of hv hb
    rcases ixs w (n := 2 * (v 12 0 + 1)) (by omega) with h | ⟨o, ho, rfl⟩
    · exact c_two hC hv.1 hb hc hbc (b1f (c_hasO0 hC hv.1 z h (b0t (m_two hM.1 hv.1 hb hc hbc (b1f (m_isO0 hM.1 hv.1 h (b0t ⟨rfl, fin⟩)))))))
    · refine c_two hC hv.1 hb hc hbc (b1f (c_hasO hC hv.1 z ho (b1t (c_grown hv hC hK rs2 o_of hb ho (fun rs3 ra3 ns' na' nl' of' hB3 hK3 hof => ⟨vp_in_nI (by omega) (by decide), ?_⟩)))))
      refine m_two hM.1 hv.1 hb hc hbc (b1f (m_isO hM.1 hv.1 ho (b1t (m_growth hv hM hb ho (fun mt mb mk hM' hG hgr => ⟨vp_in_nI (by omega) (by decide), ?_⟩)))))
      rw [nI_clamp (by omega), hof c hc, hgr c hc]
      exact ⟨rfl, F _ _ _ _ _ _ _ hG hM'.1 hB3 hK3⟩
def wrN (v : Rl) (b o : Nat) : Nat → Nat
  | 0 => 0
  | k + 1 => wrN v b o k + if k ≠ b ∧ 0 < gr v b o k then 1 else 0
theorem q_worse (hI : Inv us ua rs ra ra2 sa sl ns na nl yt im ms ma ml) (rs2 : A1) (o_of : Nat → Int64) (p w : Int32) : P_X11_worse rs ra rs2 ra2 ns na nl o_of p w (fun r _ ra2' ns' na' nl' _ => P_X12_worse ms ma ml p w (fun r' mt mb mk => r = r' ∧ Inv us ua rs ra ra2' sa sl ns' na' nl' yt im mt mb mk)) := by
  obtain ⟨v, hv, hC, hM, hP, hY, hK, hB, F⟩ := hI.get
  have h13 := ok13 hv.1
  have h12 := ok12 hv.1
  have fin := F ra2 ns na nl _ _ _ (MG.refl _ _ _) hM.1 hB hK
  rcases ixs p (n := v 13 0) (by omega) with h | ⟨b, hb, rfl⟩
  · exact c_hasB0 hC h (b0f (m_isB0 hM.1 hv.1 h (b0f ⟨rfl, fin⟩)))
  · have z := told_of hv hb
    rcases ixs w (n := 2 * (v 12 0 + 1)) (by omega) with h | ⟨o, ho, rfl⟩
    · exact c_hasB hC hv.1 hb (b1f (c_hasO0 hC hv.1 z h (b0t (m_isB hM.1 hv.1 hb (b1f (m_isO0 hM.1 hv.1 h (b0t ⟨rfl, fin⟩)))))))
    · refine c_hasB hC hv.1 hb (b1f (c_hasO hC hv.1 z ho (b1t (c_grown hv hC hK rs2 o_of hb ho (fun rs3 ra3 ns' na' nl' of' hB3 hK3 hof => ?_)))))
      have M : P_X12_worse ms ma ml (nI b) (nI o) (fun r' mt mb mk => nI (wrN v b o (v 13 0)) = r' ∧ Inv us ua rs ra ra3 sa sl ns' na' nl' yt im mt mb mk) := by
        refine m_isB hM.1 hv.1 hb (b1f (m_isO hM.1 hv.1 ho (b1t (m_growth hv hM hb ho (fun mt mb mk hM' hG hgr => ?_)))))
        have e1 : mb 10 0 = nI (v 13 0) := hM'.1.1.2.2.2.2
        have L : ∀ k i, i + k = v 13 0 → P_X12_worse_35 (nI b) (nI o) (fun r' mt mb mk => nI (wrN v b o (v 13 0)) = r' ∧ Inv us ua rs ra ra3 sa sl ns' na' nl' yt im mt mb mk) mt mb mk (k + 1) (nI (wrN v b o i)) (nI i) := by
          intro k
          induction k with
          | zero =>
            intro i hi
            obtain rfl : i = v 13 0 := by omega
            exact ⟨fun _ => ⟨rfl, F _ _ _ _ _ _ _ hG hM'.1 hB3 hK3⟩, fun c => absurd ((cmp_le e1 (by omega) (by omega)).mpr (Nat.le_refl _)) c⟩
          | succ k ih =>
            intro i hi
            have go := ih (i + 1) (by omega)
            rw [wrN] at go
            refine ⟨fun c => absurd ((cmp_le e1 (by omega) (by omega)).mp c) (by omega), fun _ => ?_⟩
            rw [nI_eq (by omega) (by omega), nI_1, nI_clamp (by omega), hgr i (by omega)]
            refine ⟨fun c x hx => ?_, fun c => ⟨vp_in_nI (by omega) (by decide), fun c2 x hx => ?_, fun c2 x hx => ?_⟩⟩
            · rw [if_neg (fun q => q.1 c)] at go
              rw [show (0 : Int32) = nI 0 from rfl, nI_add] at hx
              rw [hx]; exact go
            · rw [if_neg (fun q => absurd q.2 (Int64.not_lt.mpr c2))] at go
              rw [show (0 : Int32) = nI 0 from rfl, nI_add] at hx
              rw [hx]; exact go
            · rw [if_pos ⟨c, Int64.not_le.mp c2⟩] at go
              rw [nI_1] at hx
              rw [hx]; exact go
        exact ⟨v 13 0 + 1, L (v 13 0) 0 (by omega)⟩
      have L : ∀ k i, i + k = v 13 0 → P_X11_worse_36 rs ra (nI b) (nI o) (fun r _ ra2' ns' na' nl' _ => P_X12_worse ms ma ml (nI b) (nI o) (fun r' mt mb mk => r = r' ∧ Inv us ua rs ra ra2' sa sl ns' na' nl' yt im mt mb mk)) rs3 ra3 ns' na' nl' of' (k + 1) (nI (wrN v b o i)) (nI i) := by
        intro k
        induction k with
        | zero =>
          intro i hi
          obtain rfl : i = v 13 0 := by omega
          exact ⟨fun _ => M, fun c => absurd ((cmp_le (rc_s hC 13) (by omega) (by omega)).mpr (Nat.le_refl _)) c⟩
        | succ k ih =>
          intro i hi
          have go := ih (i + 1) (by omega)
          rw [wrN] at go
          refine ⟨fun c => absurd ((cmp_le (rc_s hC 13) (by omega) (by omega)).mp c) (by omega), fun _ => ?_⟩
          rw [nI_eq (by omega) (by omega), nI_1, nI_clamp (by omega), hof i (by omega), nI_1]
          refine ⟨fun c => ?_, fun c => ⟨vp_in_nI (by omega) (by decide), fun c2 => ?_, fun c2 => ?_⟩⟩
          · rw [if_neg (fun q => q.1 c)] at go
            exact go
          · rw [if_neg (fun q => absurd q.2 (Int64.not_lt.mpr c2))] at go
            exact go
          · rw [if_pos ⟨c, Int64.not_le.mp c2⟩] at go
            exact go
      exact ⟨v 13 0 + 1, L (v 13 0) 0 (by omega)⟩
def nxS (v : Rl) (b o : Nat) : Nat → Option Nat × Int64
  | 0 => (none, 0)
  | k + 1 => if k ≠ b ∧ (nxS v b o k).2 < gr v b o k then (some k, gr v b o k) else nxS v b o k
theorem q_next (hI : Inv us ua rs ra ra2 sa sl ns na nl yt im ms ma ml) (rs2 : A1) (o_of : Nat → Int64) (p w : Int32) : P_X11_next rs ra rs2 ra2 ns na nl o_of p w (fun r _ ra2' ns' na' nl' _ => P_X12_next_ ms ma ml p w (fun r' mt mb mk => r = r' ∧ Inv us ua rs ra ra2' sa sl ns' na' nl' yt im mt mb mk)) := by
  obtain ⟨v, hv, hC, hM, hP, hY, hK, hB, F⟩ := hI.get
  have h13 := ok13 hv.1
  have h12 := ok12 hv.1
  have fin := F ra2 ns na nl _ _ _ (MG.refl _ _ _) hM.1 hB hK
  rcases ixs p (n := v 13 0) (by omega) with h | ⟨b, hb, rfl⟩
  · exact c_hasB0 hC h (b0f (m_isB0 hM.1 hv.1 h (b0f ⟨rfl, fin⟩)))
  · have z := told_of hv hb
    rcases ixs w (n := 2 * (v 12 0 + 1)) (by omega) with h | ⟨o, ho, rfl⟩
    · exact c_hasB hC hv.1 hb (b1f (c_hasO0 hC hv.1 z h (b0t (m_isB hM.1 hv.1 hb (b1f (m_isO0 hM.1 hv.1 h (b0t ⟨rfl, fin⟩)))))))
    · refine c_hasB hC hv.1 hb (b1f (c_hasO hC hv.1 z ho (b1t (c_grown hv hC hK rs2 o_of hb ho (fun rs3 ra3 ns' na' nl' of' hB3 hK3 hof => ?_)))))
      have M : P_X12_next_ ms ma ml (nI b) (nI o) (fun r' mt mb mk => oI (nxS v b o (v 13 0)).1 = r' ∧ Inv us ua rs ra ra3 sa sl ns' na' nl' yt im mt mb mk) := by
        refine m_isB hM.1 hv.1 hb (b1f (m_isO hM.1 hv.1 ho (b1t (m_growth hv hM hb ho (fun mt mb mk hM' hG hgr => ?_)))))
        have e1 : mb 10 0 = nI (v 13 0) := hM'.1.1.2.2.2.2
        have L : ∀ k i, i + k = v 13 0 → P_X12_next__38 (nI b) (nI o) (fun r' mt mb mk => oI (nxS v b o (v 13 0)).1 = r' ∧ Inv us ua rs ra ra3 sa sl ns' na' nl' yt im mt mb mk) mt mb mk (k + 1) (oI (nxS v b o i).1) (nxS v b o i).2 (nI i) := by
          intro k
          induction k with
          | zero =>
            intro i hi
            obtain rfl : i = v 13 0 := by omega
            exact ⟨fun _ => ⟨rfl, F _ _ _ _ _ _ _ hG hM'.1 hB3 hK3⟩, fun c => absurd ((cmp_le e1 (by omega) (by omega)).mpr (Nat.le_refl _)) c⟩
          | succ k ih =>
            intro i hi
            have go := ih (i + 1) (by omega)
            rw [nxS] at go
            refine ⟨fun c => absurd ((cmp_le e1 (by omega) (by omega)).mp c) (by omega), fun _ => ?_⟩
            rw [nI_eq (by omega) (by omega), nI_1, nI_clamp (by omega), hgr i (by omega)]
            refine ⟨fun c => ?_, fun c => ⟨vp_in_nI (by omega) (by decide), fun c2 => ⟨vp_in_nI (by omega) (by decide), fun x hx => ?_⟩, fun c2 => ?_⟩⟩
            · rw [if_neg (fun q => q.1 c)] at go
              exact go
            · rw [if_pos ⟨c, c2⟩] at go
              rw [hx]; exact go
            · rw [if_neg (fun q => c2 q.2)] at go
              exact go
        exact ⟨v 13 0 + 1, L (v 13 0) 0 (by omega)⟩
      have L : ∀ k i, i + k = v 13 0 → P_X11_next_39 rs ra (nI b) (nI o) (fun r _ ra2' ns' na' nl' _ => P_X12_next_ ms ma ml (nI b) (nI o) (fun r' mt mb mk => r = r' ∧ Inv us ua rs ra ra2' sa sl ns' na' nl' yt im mt mb mk)) rs3 ra3 ns' na' nl' of' (k + 1) (oI (nxS v b o i).1) (nxS v b o i).2 (nI i) := by
        intro k
        induction k with
        | zero =>
          intro i hi
          obtain rfl : i = v 13 0 := by omega
          exact ⟨fun _ => M, fun c => absurd ((cmp_le (rc_s hC 13) (by omega) (by omega)).mpr (Nat.le_refl _)) c⟩
        | succ k ih =>
          intro i hi
          have go := ih (i + 1) (by omega)
          rw [nxS] at go
          refine ⟨fun c => absurd ((cmp_le (rc_s hC 13) (by omega) (by omega)).mp c) (by omega), fun _ => ?_⟩
          rw [nI_eq (by omega) (by omega), nI_1, nI_clamp (by omega), hof i (by omega)]
          refine ⟨fun c => ?_, fun c => ⟨vp_in_nI (by omega) (by decide), fun c2 => ?_, fun c2 => ⟨vp_in_nI (by omega) (by decide), fun x hx => ?_⟩⟩⟩
          · rw [if_neg (fun q => q.1 c)] at go
            exact go
          · rw [if_neg (fun q => absurd q.2 (Int64.not_lt.mpr c2))] at go
            exact go
          · rw [if_pos ⟨c, Int64.not_le.mp c2⟩] at go
            rw [hx]; exact go
      exact ⟨v 13 0 + 1, L (v 13 0) 0 (by omega)⟩
end P
