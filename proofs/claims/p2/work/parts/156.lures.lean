/-! promise 36: the least bait -/
def lureO (v : Rl) (t : Nat) (o : Option Nat) : Nat := if v 28 t = 2 then 10000 else match o with
  | none => 1
  | some b => if v 28 t = 0 then (net v t b).toNat + 1 else if trouble v t b = 0 then 10000 else 1
def lure (v : Rl) (t : Nat) : Nat := lureO v t (tk v 0 t 0)
theorem scn_lt (v : Rl) (s t g : Nat) : ∀ k b, scn v s t g k = some b → b < k ∧ wnt v s t b = true
  | 0, b, h => by simp [scn] at h
  | k + 1, b, h => by
    have ih := scn_lt v s t g k
    unfold scn at h
    split at h
    · rename_i c
      have cw : wnt v s t k = true := by
        simp at c
        exact c.1
      cases hs : scn v s t g k with
      | none =>
        rw [hs] at h
        simp at h
        subst h
        exact ⟨Nat.lt_succ_self _, cw⟩
      | some d =>
        rw [hs] at h
        simp only at h
        have := ih d hs
        split at h
        · simp at h
          subst h
          exact ⟨Nat.lt_succ_self _, cw⟩
        · simp at h
          subst h
          exact ⟨by omega, this.2⟩
    · have := ih b h
      exact ⟨by omega, this.2⟩
theorem scn_s (v : Rl) (s t g : Nat) : ∀ k, k ≤ v 13 0 → scn v s t g k = scn v 0 t g k
  | 0, _ => rfl
  | k + 1, h => by
    have w : wnt v s t k = wnt v 0 t k := by
      unfold wnt
      rw [if_pos (by omega), if_pos (by omega)]
    have r : ∀ b, b < v 13 0 → rnk v s t b = rnk v 0 t b := fun b hb => by
      unfold rnk
      rw [if_pos hb, if_pos hb, if_pos hb]
    rw [scn, scn, w, scn_s v s t g k (by omega)]
    cases hs : scn v 0 t g k with
    | none => rfl
    | some d =>
      have := (scn_lt v 0 t g k d hs).1
      simp only
      rw [r k (by omega), r d (by omega)]
theorem lure_iff {v : Rl} {s t : Nat} (hs : s ≤ 9999) : tk v s t 0 = some (v 13 0) ↔ lure v t ≤ s := by
  unfold lure lureO
  rw [tk_no_bait, tk_scn, scn, scn_s v s t 0 (v 13 0) (Nat.le_refl _)]
  have hw : wnt v s t (v 13 0) = (decide (0 < s) && v 28 t != 2) := by
    unfold wnt
    rw [if_neg (Nat.lt_irrefl _)]
    simp
  have hno : scn v 0 t 0 (v 13 0) ≠ some (v 13 0) := fun e => Nat.lt_irrefl _ (scn_lt v 0 t 0 _ _ e).1
  rw [hw]
  simp only [Nat.zero_testBit, Bool.not_false, Bool.and_true]
  by_cases k2 : v 28 t = 2
  · rw [if_pos k2]
    simp only [k2]
    simp
    exact ⟨fun e => absurd e hno, fun e => by omega⟩
  · rw [if_neg k2]
    rcases Nat.eq_zero_or_pos s with z | z
    · subst z
      simp
      refine ⟨fun e => absurd e hno, fun e => ?_⟩
      exfalso
      split at e
      · omega
      · split at e
        · omega
        · split at e <;> omega
    · have : (decide (0 < s) && v 28 t != 2) = true := by simp [k2]; omega
      rw [this]
      simp only [if_true]
      cases hc : scn v 0 t 0 (v 13 0) with
      | none => simp; omega
      | some b =>
        obtain ⟨hb, hwb⟩ := scn_lt v 0 t 0 _ _ hc
        have hnet : 0 < net v t b := by
          unfold wnt at hwb
          rw [if_pos hb] at hwb
          simp at hwb
          exact hwb.1
        simp only
        unfold rnk
        rw [if_neg (Nat.lt_irrefl _), if_pos hb]
        by_cases k0 : v 28 t = 0
        · rw [if_pos k0, if_pos k0, if_pos k0]
          split
          · simp; omega
          · simp; omega
        · rw [if_neg k0, if_neg k0, if_neg k0]
          simp only [Nat.lt_irrefl, if_false]
          by_cases q : trouble v t b = 0
          · rw [if_neg (by omega), if_pos q]
            simp
            omega
          · rw [if_pos (by omega), if_neg q]
            simp
            omega
def mL (v : Rl) : Nat → Nat
  | 0 => 10000
  | k + 1 => min (lure v k) (mL v k)
theorem mL_le (v : Rl) : ∀ k, mL v k ≤ 10000
  | 0 => Nat.le_refl _
  | k + 1 => Nat.le_trans (Nat.min_le_right _ _) (mL_le v k)
theorem mL_lt (v : Rl) {s : Nat} : ∀ k, s < mL v k ↔ s < 10000 ∧ ∀ t, t < k → s < lure v t
  | 0 => by
    rw [mL]
    exact ⟨fun h => ⟨h, fun t ht => by omega⟩, fun h => h.1⟩
  | k + 1 => by
    rw [mL, Nat.lt_min, mL_lt v k]
    refine ⟨fun h => ⟨h.2.1, fun t ht => ?_⟩, fun h => ⟨h.2 k (by omega), h.1, fun t ht => h.2 t (by omega)⟩⟩
    by_cases c : t = k
    · rw [c]; exact h.1
    · exact h.2.2 t (by omega)
theorem lure_rng {v : Rl} (hv : okV v) {t : Nat} (ht : t < v 14 0) : lure v t ≤ 10000 := by
  unfold lure lureO
  split
  · omega
  · split
    · omega
    · rename_i b hb
      split
      · rw [tk_no_bait] at hb
        have := gain_le hv (scn_lt _ _ _ _ _ _ hb).1
        unfold net
        omega
      · split <;> omega
section LU
variable {us : A1} {ua : A2} {rs : A1} {ra ra2 sa : A2} {sl : L2} {ns : A1} {na : A2} {nl : L2} {yt : Int32} {im : Img} {ms : A1} {ma : A2} {ml : L2}
theorem c_leastLure {v : Rl} (hC : RelC v rs ra) (hv : okR v) (hN : NR v 0 ns na) {t : Nat} (ht : t < v 14 0) {post : Int32 → Prop} (h : post (nI (lure v t))) : P_X3_leastLure na ra (nI t) post := by
  have h13 := ok13 hv.1
  have h14 := ok14 hv.1
  obtain ⟨-, -, -, e12, -⟩ := hC.2.2.2.2.2.1 t ht
  obtain ⟨-, -, -, b28, -⟩ := hv.1.2.2.2.2.2.1 t ht
  refine c_pickN hN ht h14 (g := 0) (by decide) ⟨vp_in_nI (by omega) (by decide), fun x hx => ?_⟩
  rw [nI_clamp (by omega), e12] at hx
  subst hx
  unfold lure lureO at h
  refine ⟨fun c => ?_, fun c => ?_⟩
  · have k2 : v 28 t ≠ 2 := fun q => c (by rw [q]; rfl)
    rw [if_neg k2] at h
    cases hk : tk v 0 t 0 with
    | none =>
      rw [hk] at h
      exact ⟨fun z => absurd rfl z, fun _ => h⟩
    | some b =>
      rw [hk] at h
      simp only at h
      rw [tk_no_bait] at hk
      obtain ⟨hb, hwb⟩ := scn_lt v 0 t 0 _ _ hk
      have hnet : 0 < net v t b := by
        unfold wnt at hwb
        rw [if_pos hb] at hwb
        simp at hwb
        exact hwb.1
      refine ⟨fun _ => ⟨fun c0 => ?_, fun c0 => ?_⟩, fun z => absurd z (nI_nm1 (by omega))⟩
      · rw [if_neg (fun q => c0 (by rw [q]; rfl))] at h
        refine ⟨vp_in_nI (show b < 10 by omega) (by decide), ?_⟩
        show P_X4_troubleOf ra (nI t) (nI b) (na 0 (nI b).toNatClampNeg) _
        rw [nI_clamp (by omega), (hN.2.1 b hb).1]
        have htr := trouble_le hv.1 ht hb
        refine c_troubleOf hC hv.1 ht hb rfl ⟨fun z => ?_, fun z => ?_⟩
        · rw [if_neg (fun q => z (by rw [q]; rfl))] at h
          exact h
        · rw [if_pos ((nI_eq (b := 0) (by omega) (by decide)).mp z)] at h
          exact h
      · have k0 : v 28 t = 0 := (nI_eq (b := 0) (by omega) (by decide)).mp c0
        rw [if_pos k0] at h
        refine c_netOf hC hv.1 hN ht hb ?_
        have e : (net v t b).toNat = gain v b - trouble v t b := by unfold net; omega
        have l : trouble v t b ≤ gain v b := by unfold net at hnet; omega
        rw [e] at h
        rw [pk_sub l, nI_1]
        exact h
  · have k2 : v 28 t = 2 := (nI_eq (b := 2) (by omega) (by decide)).mp c
    rw [if_pos k2] at h
    exact h
/-- what was laid, whatever the baits of the thieves are set at -/
def LB (v : Rl) (ms : A1) (ma : A2) : Prop := ms 12 = nI (v 13 0 + 1) ∧ ∀ t, t < v 14 0 → (∀ b, b < v 13 0 → ma 18 (11 * t + b) = nI (trouble v t b) ∧ ma 19 (11 * t + b) = nI (gain v b) - nI (trouble v t b)) ∧ ma 18 (11 * t + v 13 0) = 0
theorem LB.set {v : Rl} (hv : okV v) (h : LB v ms ma) {t : Nat} (ht : t < v 14 0) (s : Nat) : LB v ms (va_up ma 19 (upd (ma 19) (11 * t + v 13 0) (nI s))) ∧ LRt v s (v 13 0 + 1) ms (va_up ma 19 (upd (ma 19) (11 * t + v 13 0) (nI s))) t := by
  have h13 := ok13 hv
  have A : ∀ t', t' < v 14 0 → ∀ b, b < v 13 0 → va_up ma 19 (upd (ma 19) (11 * t + v 13 0) (nI s)) 18 (11 * t' + b) = nI (trouble v t' b) ∧ va_up ma 19 (upd (ma 19) (11 * t + v 13 0) (nI s)) 19 (11 * t' + b) = nI (gain v b) - nI (trouble v t' b) := by
    intro t' ht' b hb
    rw [up_ne (by decide), up_at, u_ne (by omega)]
    exact (h.2 t' ht').1 b hb
  refine ⟨⟨h.1, fun t' ht' => ⟨A t' ht', by rw [up_ne (by decide)]; exact (h.2 t' ht').2⟩⟩, h.1, Or.inr rfl, A t ht, fun _ => ⟨by rw [up_ne (by decide)]; exact (h.2 t ht).2, by rw [up_at, u_at]⟩⟩
theorem oI_eq {o : Option Nat} {n : Nat} (ho : ∀ b, o = some b → b ≤ 10) (hn : n ≤ 10) : oI o = nI n ↔ o = some n := by
  cases o with
  | none => exact ⟨fun e => absurd e.symm (nI_nm1 (by omega)), fun e => absurd e (by simp)⟩
  | some b =>
    have := ho b rfl
    rw [show oI (some b) = nI b from rfl, nI_eq (by omega) (by omega)]
    simp
theorem q_lures (hI : Inv us ua rs ra ra2 sa sl ns na nl yt im ms ma ml) (p : Int32) : P_X11_lures rs ra ns na p (fun r ns' na' => P_X12_lures ms ma p (fun r' mt mb => r = r' ∧ Inv us ua rs ra ra2 sa sl ns' na' nl yt im mt mb ml)) := by
  obtain ⟨v, hv, hC, hM, hP, hY, hK, hB, F⟩ := hI.get
  have h13 := ok13 hv.1
  have h14 := ok14 hv.1
  have fin := F ra2 ns na nl _ _ _ (MG.refl _ _ _) hM.1 hB hK
  rcases bait_cases hC hM.1 hv.1 p 0 0 with ⟨r, hr, h1, h2⟩ | ⟨a, b, ha, hb, -, -, h1, h2⟩
  · exact h1 _ ⟨fun c => absurd c hr, fun _ => h2 _ ⟨fun c => absurd c hr, fun _ => ⟨rfl, fin⟩⟩⟩
  · refine h1 _ ⟨fun _ => c_lookAt hC hv.1 (fun nb hN hb => ?_), fun c => absurd rfl c⟩
    have hK1 := hK.look hb (nI (v 13 0))
    have M : P_X12_lures ms ma p (fun r' mt mb => (if mL v (v 14 0) ≤ 9999 then nI (mL v (v 14 0)) else -1) = r' ∧ Inv us ua rs ra ra2 sa sl (va_up ns 0 (nI (v 13 0))) nb nl yt im mt mb ml) := by
      refine h2 _ ⟨fun _ => ?_, fun c => absurd rfl c⟩
      refine m_lays hv.1 hM (some 0) (by decide) (fun mb hL hmb => ?_)
      have hF : MF (va_up ms 0 0) ma ml (va_up (va_up ms 0 0) 12 (nI (thO v (some 0)))) mb ml := ⟨fun j hj => up_ne hj, hmb, fun _ _ _ _ => rfl⟩
      have hM1 := hF.rm hM
      have hB0 : LB v (va_up (va_up ms 0 0) 12 (nI (thO v (some 0)))) mb := ⟨hL.1, fun t ht => ⟨hL.2.2.1 t ht, (hL.2.2.2 rfl t ht).1⟩⟩
      generalize va_up (va_up ms 0 0) 12 (nI (thO v (some 0))) = mt at hF hM1 hB0
      have I : ∀ (s : Nat), s ≤ 9999 → s ≤ mL v (v 14 0) → ∀ (R26 : Int32 → A2 → Prop) (mc : A2), LB v mt mc → (∀ j, j ≠ 19 → mc j = mb j) → (s < mL v (v 14 0) → ∀ md, LB v mt md → (∀ j, j ≠ 19 → md j = mb j) → R26 (nI (s + 1)) md) → ∃ n, P_X12_lures_36 p mt (fun r' mt mb => (if mL v (v 14 0) ≤ 9999 then nI (mL v (v 14 0)) else -1) = r' ∧ Inv us ua rs ra ra2 sa sl (va_up ns 0 (nI (v 13 0))) nb nl yt im mt mb ml) R26 (nI s) n 0 mc := by
        intro s hs hms R26 mc g1 g2 kk
        have L : ∀ (k i : Nat) (md : A2), i + k = v 14 0 → LB v mt md → (∀ j, j ≠ 19 → md j = mb j) → (∀ t, t < i → s < lure v t) → P_X12_lures_36 p mt (fun r' mt mb => (if mL v (v 14 0) ≤ 9999 then nI (mL v (v 14 0)) else -1) = r' ∧ Inv us ua rs ra ra2 sa sl (va_up ns 0 (nI (v 13 0))) nb nl yt im mt mb ml) R26 (nI s) (k + 1) (nI i) md := by
          intro k
          induction k with
          | zero =>
            intro i md hi q1 q2 q3
            obtain rfl : i = v 14 0 := by omega
            have hMd : RM v 0 mt md := hM1.fr (fun j _ _ => q2 j (by omega)) rfl rfl
            refine ⟨fun _ => ?_, fun c => absurd ((cmp_le hMd.2.1.1 (by omega) (by omega)).mpr (Nat.le_refl _)) c⟩
            rw [nI_1]
            exact kk ((mL_lt v _).mpr ⟨by omega, q3⟩) md q1 q2
          | succ k ih =>
            intro i md hi q1 q2 q3
            have hMd : RM v 0 mt md := hM1.fr (fun j _ _ => q2 j (by omega)) rfl rfl
            have e10 : md 10 0 = nI (v 13 0) := hMd.1.1.2.2.2.2
            refine ⟨fun c => absurd ((cmp_le hMd.2.1.1 (by omega) (by omega)).mp c) (by omega), fun _ => ?_⟩
            rw [e10, show (11 : Int32) * nI i + nI (v 13 0) = nI (11 * i + v 13 0) by simp only [fa_lit, pk_mul, nI_add], nI_clamp (by omega), nI_1]
            obtain ⟨s1, s2⟩ := q1.set hv.1 (show i < v 14 0 by omega) s
            have q2' : ∀ j, j ≠ 19 → va_up md 19 (upd (md 19) (11 * i + v 13 0) (nI s)) j = mb j := fun j hj => by rw [up_ne hj]; exact q2 j hj
            have hMe : RM v 0 mt (va_up md 19 (upd (md 19) (11 * i + v 13 0) (nI s))) := hM1.fr (fun j _ _ => q2' j (by omega)) rfl rfl
            refine ⟨vp_in_nI (by omega) (by decide), m_takesOfT (g := 0) hv.1 hv.2.1 hs hMe.2.1 s2 (by omega) (by decide) ?_⟩
            rw [oI_eq (fun b hb => by have := (tk_some hb).1; omega) h13, lure_iff hs]
            refine ⟨fun c => ih (i + 1) _ (by omega) s1 q2' (fun t ht => ?_), fun c => ?_⟩
            · by_cases e : t = i
              · rw [e]; omega
              · exact q3 t (by omega)
            · have hms2 : mL v (v 14 0) ≤ s := by
                rcases Nat.lt_or_ge s (mL v (v 14 0)) with w | w
                · have := ((mL_lt v _).mp w).2 i (by omega)
                  omega
                · exact w
              have e : mL v (v 14 0) = s := by omega
              rw [e, if_pos hs]
              refine ⟨rfl, F _ _ _ _ _ _ _ (hF.g.trans ⟨fun _ _ _ _ => rfl, fun j hj _ _ _ => q2' j (by omega), fun x _ => by rw [q2' 11 (by decide)], fun x _ => by rw [q2' 14 (by decide)], rfl⟩) hMe.1 hB hK1⟩
        exact ⟨v 14 0 + 1, L (v 14 0) 0 mc (by omega) g1 g2 (fun t ht => by omega)⟩
      have L : ∀ (k s : Nat) (mc : A2), s + k = 10000 → s ≤ mL v (v 14 0) → LB v mt mc → (∀ j, j ≠ 19 → mc j = mb j) → P_X12_lures_26 p (fun r' mt mb => (if mL v (v 14 0) ≤ 9999 then nI (mL v (v 14 0)) else -1) = r' ∧ Inv us ua rs ra ra2 sa sl (va_up ns 0 (nI (v 13 0))) nb nl yt im mt mb ml) mt (k + 1) (nI s) mc := by
        intro k
        induction k with
        | zero =>
          intro s mc hs hm g1 g2
          obtain rfl : s = 10000 := by omega
          have hMe : RM v 0 mt mc := hM1.fr (fun j _ _ => g2 j (by omega)) rfl rfl
          refine ⟨fun _ => ⟨by rw [if_neg (by omega)], F _ _ _ _ _ _ _ (hF.g.trans ⟨fun _ _ _ _ => rfl, fun j hj _ _ _ => g2 j (by omega), fun x _ => by rw [g2 11 (by decide)], fun x _ => by rw [g2 14 (by decide)], rfl⟩) hMe.1 hB hK1⟩, fun c => absurd (nI_lt (a := 9999) (by decide) (by decide)) c⟩
        | succ k ih =>
          intro s mc hs hm g1 g2
          refine ⟨fun c => absurd ((nI_ltI (a := 9999) (by decide) (by omega)).mp c) (by omega), fun _ => ?_⟩
          exact I s (by omega) hm _ mc g1 g2 (fun hlt md d1 d2 => ih (s + 1) md (by omega) (by omega) d1 d2)
      exact ⟨10001, L 10000 0 mb (by omega) (Nat.zero_le _) hB0 (fun _ _ => rfl)⟩
    have hmle := mL_le v
    have L : ∀ (k i : Nat), i + k = v 14 0 → P_X11_lures_32 rs ra p (fun r ns' na' => P_X12_lures ms ma p (fun r' mt mb => r = r' ∧ Inv us ua rs ra ra2 sa sl ns' na' nl yt im mt mb ml)) (fun (x3_ : Int32) (ns : Nat → Int32) (na : Nat → Nat → Int32) => P_X11_lures_71 rs ra p (fun r ns' na' => P_X12_lures ms ma p (fun r' mt mb => r = r' ∧ Inv us ua rs ra ra2 sa sl ns' na' nl yt im mt mb ml)) x3_ ns na) (va_up ns 0 (nI (v 13 0))) nb (k + 1) (nI (mL v i)) (nI i) := by
      intro k
      induction k with
      | zero =>
        intro i hi
        obtain rfl : i = v 14 0 := by omega
        have := hmle (v 14 0)
        refine ⟨fun _ => ⟨fun c => ?_, fun c => ?_⟩, fun c => absurd ((cmp_le (rc_s hC 14) (by omega) (by omega)).mpr (Nat.le_refl _)) c⟩
        · rw [if_pos ((nI_leI (b := 9999) (by omega) (by decide)).mp c)] at M
          exact M
        · rw [if_neg (fun q => c (nI_le (b := 9999) q (by decide)))] at M
          exact M
      | succ k ih =>
        intro i hi
        have h2 := hmle i
        have h3 := lure_rng hv.1 (show i < v 14 0 by omega)
        refine ⟨fun c => absurd ((cmp_le (rc_s hC 14) (by omega) (by omega)).mp c) (by omega), fun _ => c_leastLure hC hv hN (by omega) (fun x hx => ?_)⟩
        have e : x = nI (mL v (i + 1)) := by
          rw [hx, mL]
          by_cases q : lure v i < mL v i
          · rw [if_pos (nI_lt q (by omega)), Nat.min_eq_left (by omega)]
          · rw [if_neg (nI_nlt (by omega) (by omega)), Nat.min_eq_right (by omega)]
        rw [e, nI_1]
        exact ih (i + 1) (by omega)
    exact ⟨v 14 0 + 1, L (v 14 0) 0 (by omega)⟩
end LU
