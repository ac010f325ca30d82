/-! promises 20 to 24 -/
def fO (v : Rl) (b : Nat) : Nat → Int64 := fun o => costL (vo v b o) b
def nO (v : Rl) : Nat := 2 * (v 12 0 + 1)
def bo (v : Rl) (b : Nat) : Nat := (am (fO v b) (nO v - 1)).1
def bl (v : Rl) (b : Nat) : Int64 := (am (fO v b) (nO v - 1)).2
theorem bo_lt (v : Rl) (b : Nat) : bo v b < nO v := by
  have := am_le (fO v b) (nO v - 1)
  unfold bo nO at *
  omega
theorem fO_opt {v : Rl} (hv : okV v) {b : Nat} (hb : b < v 13 0) : fO v b (opt v b) = costL v b := by
  unfold fO
  rw [vo_opt (hv.2.2.2.2.1 b hb).2.2.2.2]
theorem amS_n {v : Rl} (hv : okV v) {b : Nat} (hb : b < v 13 0) : amS (fO v b) (opt v b) (nO v) = if bl v b < costL v b then (bo v b, bl v b) else (opt v b, costL v b) := by
  have : nO v = (nO v - 1) + 1 := by unfold nO; omega
  rw [this, amS_eq, fO_opt hv hb]
  rfl
theorem amT_n {v : Rl} (hv : okV v) {b : Nat} (hb : b < v 13 0) (had : Nat) : amT (fO v b) had (nO v) = (bo v b, bl v b) := by
  have e : nO v = (nO v - 1) + 1 := by unfold nO; omega
  rw [e, amT_eq had (lt_top ?_)]
  · rfl
  · have hv' := hv.vo (b := b) (o := 0) (by omega)
    have := cost_rng hv' (b := b) (by rw [vo_f (by decide) (by decide)]; exact hb)
    unfold fO
    omega
theorem bl_ne {v : Rl} (hv : okV v) {b : Nat} (hb : b < v 13 0) (h : bl v b < costL v b) : bo v b ≠ opt v b := by
  intro e
  have : bl v b = fO v b (bo v b) := am_val _ _
  rw [this, e, fO_opt hv hb] at h
  exact absurd h Int64.lt_irrefl
section S
variable {us : A1} {ua : A2} {rs : A1} {ra ra2 sa : A2} {sl : L2} {ns : A1} {na : A2} {nl : L2} {yt : Int32} {im : Img} {ms : A1} {ma : A2} {ml : L2}
theorem c_leastLoop {v : Rl} (hv : okR v) {b : Nat} (hb : b < v 13 0) (p3 : Int32) (g : Nat → Nat × Int64) (hg : ∀ k, g (k + 1) = if fO v b k < (g k).2 then (k, fO v b k) else g k) {post : Int32 → A2 → A1 → A2 → L2 → Prop} (h : ∀ ra' ns' na' nl', RelC v rs ra' → NOK ns' na' nl' → post (nI (g (nO v)).1) ra' ns' na' nl') (hC : RelC v rs ra) (hK : NOK ns na nl) :
    ∃ n, P_X11_leastOption_46 rs (nI b) p3 post (fun (x4_ : Int32) (x5_ : Int32) (ra0 : Nat → Nat → Int32) (ns : Nat → Int32) (na : Nat → Nat → Int32) (nl : Nat → Nat → Int64) => P_X11_leastOption_107 rs (nI b) p3 post x4_ x5_ ra0 ns na nl) (nI (opt v b)) n (nI (g 0).1) (g 0).2 0 ra ns na nl := by
  have h13 := ok13 hv.1
  have h12 := ok12 hv.1
  have hol := opt_lt hv.1 hb
  have z := told_of hv hb
  have L : ∀ (k i : Nat) (rx : A2) (nx : A1) (ax : A2) (lx : L2) (u : Rl), i + k = nO v → RelC u rs rx → (∀ o, vo u b o = vo v b o) → NOK nx ax lx → P_X11_leastOption_46 rs (nI b) p3 post (fun (x4_ : Int32) (x5_ : Int32) (ra0 : Nat → Nat → Int32) (ns : Nat → Int32) (na : Nat → Nat → Int32) (nl : Nat → Nat → Int64) => P_X11_leastOption_107 rs (nI b) p3 post x4_ x5_ ra0 ns na nl) (nI (opt v b)) (k + 1) (nI (g i).1) (g i).2 (nI i) rx nx ax lx := by
    intro k
    induction k with
    | zero =>
      intro i rx nx ax lx u hi q1 q2 q3
      obtain rfl : i = nO v := by omega
      unfold P_X11_leastOption_46 P_X11_leastOption_46_b
      refine c_options hC hv.1 z ⟨fun _ => ?_, fun c => absurd (nI_le (Nat.le_refl _) (by omega)) c⟩
      refine c_setOption q1 (by omega) (by omega) (fun loc mar hC' => ?_)
      rw [q2, vo_opt (hv.1.2.2.2.2.1 b hb).2.2.2.2] at hC'
      exact h _ _ _ _ hC' q3
    | succ k ih =>
      intro i rx nx ax lx u hi q1 q2 q3
      have hio : i < 2 * (v 12 0 + 1) := by unfold nO at hi; omega
      unfold P_X11_leastOption_46 P_X11_leastOption_46_b
      refine c_options hC hv.1 z ⟨fun c => absurd ((nI_leI (by omega) (by omega)).mp c) (by omega), fun _ => ?_⟩
      refine c_setOption q1 (by omega) (by omega) (fun loc mar hC' => ?_)
      rw [q2] at hC'
      have hv' := hv.vo (b := b) hio
      refine c_play hC' hv'.1 q3 (fun n1 a1 l1 hPl => ?_)
      refine c_costOf (w := 2) hC' hv'.1 hPl.2.2.2 (by rw [vo_f (by decide) (by decide)]; exact hb) (by decide) ?_
      have e : whatL (vo v b i) b 2 = fO v b i := rfl
      rw [e, nI_1]
      have go := ih (i + 1) (va_up (va_up rx 7 loc) 8 mar) n1 a1 l1 (vo v b i) (by omega) hC' (fun o => vo_vo v b i o) hPl.2.1
      rw [hg i] at go
      refine ⟨fun c => ?_, fun c => ?_⟩
      · rw [if_neg (Int64.not_lt.mpr c)] at go
        exact go
      · rw [if_pos (Int64.not_le.mp c)] at go
        exact go
  exact ⟨nO v + 1, L (nO v) 0 ra ns na nl v (by omega) hC (fun _ => rfl) hK⟩
theorem c_least1 {v : Rl} (hv : okR v) (hC : RelC v rs ra) (hK : NOK ns na nl) {b : Nat} (hb : b < v 13 0) {post : Int32 → A2 → A1 → A2 → L2 → Prop} (h : ∀ ra' ns' na' nl', RelC v rs ra' → NOK ns' na' nl' → post (nI (if bl v b < costL v b then bo v b else opt v b)) ra' ns' na' nl') : P_X11_leastOption rs ra ns na nl (nI b) 1 post := by
  refine c_optionOf hC hv.1 hb ⟨fun c => absurd c (by decide), fun _ => c_play hC hv.1 hK (fun n1 a1 l1 hPl => c_costOf (w := 2) hC hv.1 hPl.2.2.2 hb (by decide) ?_)⟩
  have e : whatL v b 2 = (amS (fO v b) (opt v b) 0).2 := by rw [amS, fO_opt hv.1 hb]; rfl
  rw [e]
  refine c_leastLoop hv hb 1 (amS (fO v b) (opt v b)) (fun k => rfl) (fun ra' ns' na' nl' h1 h2 => ?_) hC hPl.2.1
  have := h ra' ns' na' nl' h1 h2
  rw [amS_n hv.1 hb]
  split
  · rename_i c; rw [if_pos c] at this; exact this
  · rename_i c; rw [if_neg c] at this; exact this
theorem c_least0 {v : Rl} (hv : okR v) (hC : RelC v rs ra) (hK : NOK ns na nl) {b : Nat} (hb : b < v 13 0) {post : Int32 → A2 → A1 → A2 → L2 → Prop} (h : ∀ ra' ns' na' nl', RelC v rs ra' → NOK ns' na' nl' → post (nI (bo v b)) ra' ns' na' nl') : P_X11_leastOption rs ra ns na nl (nI b) 0 post := by
  refine c_optionOf hC hv.1 hb ⟨fun _ => ?_, fun c => absurd rfl c⟩
  refine c_leastLoop hv hb 0 (amT (fO v b) (opt v b)) (fun k => rfl) (fun ra' ns' na' nl' h1 h2 => ?_) hC hK
  rw [amT_n hv.1 hb]
  exact h ra' ns' na' nl' h1 h2
theorem m_bestOf {v : Rl} (hv : okR v) {mw : Nat → Int64} (hM : RM v 0 ms ma) {b : Nat} (hb : b < v 13 0) {post : Int32 → A1 → (Nat → Int64) → A2 → L2 → Prop} (h : ∀ mt mw' mb mk, RM v 0 mt mb → MG ms ma ml mt mb mk → mb 20 = ma 20 → mw' 1 = bl v b → post (nI (bo v b)) mt mw' mb mk) : P_X12_bestOf ms mw ma ml (nI b) post := by
  have h12 := ok12 hv.1
  refine m_wouldOf (o := 0) hv hM hb (by omega) (fun m1 a1 l1 q1 q2 q3 => ?_)
  have L : ∀ (k i : Nat) (mt : A1) (mw' : Nat → Int64) (mb : A2) (mk : L2), i + k = nO v - 1 → RM v 0 mt mb → MG ms ma ml mt mb mk → mb 20 = ma 20 → mw' 1 = (am (fO v b) i).2 → P_X12_bestOf_14 (nI b) post (k + 1) (nI (am (fO v b) i).1) (nI (i + 1)) mt mw' mb mk := by
    intro k
    induction k with
    | zero =>
      intro i mt mw' mb mk hi r1 r2 r3 r4
      obtain rfl : i = nO v - 1 := by omega
      have e : nO v - 1 + 1 = 2 * (v 12 0 + 1) := by unfold nO; omega
      unfold P_X12_bestOf_14 P_X12_bestOf_14_b
      refine m_optionMany r1.1 ⟨fun _ => h _ _ _ _ r1 r2 r3 r4, fun c => absurd (by rw [e]; exact nI_le (Nat.le_refl _) (by omega)) c⟩
    | succ k ih =>
      intro i mt mw' mb mk hi r1 r2 r3 r4
      have hi2 : i + 1 < 2 * (v 12 0 + 1) := by unfold nO at hi; omega
      unfold P_X12_bestOf_14 P_X12_bestOf_14_b
      refine m_optionMany r1.1 ⟨fun c => absurd ((nI_leI (by omega) (by omega)).mp c) (by omega), fun _ => ?_⟩
      refine m_wouldOf hv r1 hb hi2 (fun m2 a2 l2 s1 s2 s3 => ?_)
      have e : costL (vo v b (i + 1)) b = fO v b (i + 1) := rfl
      rw [e, r4, nI_1]
      have hstep : am (fO v b) (i + 1) = if fO v b (i + 1) < (am (fO v b) i).2 then (i + 1, fO v b (i + 1)) else am (fO v b) i := rfl
      refine ⟨fun c => ?_, fun c => ?_⟩
      · rw [if_pos c] at hstep
        have go := ih (i + 1) m2 (va_up mw' 1 (fO v b (i + 1))) a2 l2 (by omega) s1 (r2.trans s2) (s3.trans r3) (by rw [up_at, hstep])
        rw [hstep] at go
        exact go
      · rw [if_neg c] at hstep
        have go := ih (i + 1) m2 mw' a2 l2 (by omega) s1 (r2.trans s2) (s3.trans r3) (by rw [hstep]; exact r4)
        rw [hstep] at go
        exact go
  exact ⟨nO v - 1 + 1, L (nO v - 1) 0 m1 _ a1 l1 (by omega) q1 q2 q3 up_at⟩
theorem q_best (hI : Inv us ua rs ra ra2 sa sl ns na nl yt im ms ma ml) (rs2 : A1) (mw : Nat → Int64) (p : Int32) : P_X11_best rs ra rs2 ra2 ns na nl p (fun r _ ra2' ns' na' nl' => P_X12_best ms mw ma ml p (fun r' mt _ mb mk => r = r' ∧ Inv us ua rs ra ra2' sa sl ns' na' nl' yt im mt mb mk)) := by
  obtain ⟨v, hv, hC, hM, hP, hY, hK, hB, F⟩ := hI.get
  have h13 := ok13 hv.1
  have fin := F ra2 ns na nl _ _ _ (MG.refl _ _ _) hM.1 hB hK
  rcases ixs p (n := v 13 0) (by omega) with h | ⟨b, hb, rfl⟩
  · exact c_hasB0 hC h (b0t (m_isB0 hM.1 hv.1 h (b0f ⟨rfl, fin⟩)))
  · refine c_hasB hC hv.1 hb (b1t (c_copyFrom hC hv.1 (fun rs' ra' hC1 hB1 _ => c_least0 hv hC1 hK hb (fun ra3 ns' na' nl' hC3 hK' => ?_))))
    exact m_isB hM.1 hv.1 hb (b1f (m_bestOf hv hM hb (fun mt mw' mb mk hM' hG _ _ => ⟨rfl, F _ _ _ _ _ _ _ hG hM'.1 hC3.bok hK'⟩)))
def rstN (v : Rl) : Nat → Nat
  | 0 => 0
  | b + 1 => rstN v b + if bl v b < costL v b then 1 else 0
theorem q_restless (hI : Inv us ua rs ra ra2 sa sl ns na nl yt im ms ma ml) (rs2 : A1) (mw : Nat → Int64) : P_X11_restless rs ra rs2 ra2 ns na nl (fun r _ ra2' ns' na' nl' => P_X12_restless ms mw ma ml (fun r' mt _ mb mk => r = r' ∧ Inv us ua rs ra ra2' sa sl ns' na' nl' yt im mt mb mk)) := by
  obtain ⟨v, hv, hC, hM, hP, hY, hK, hB, F⟩ := hI.get
  have h13 := ok13 hv.1
  have fin := F ra2 ns na nl _ _ _ (MG.refl _ _ _) hM.1 hB hK
  rcases Nat.eq_zero_or_pos (v 2 0) with z | z
  · exact c_told0 hC z (b0t (m_rail0 hM.1 hv.1 z (b0t ⟨rfl, fin⟩)))
  · refine c_told hC hv.1 z (b1t (c_copyFrom hC hv.1 (fun rs' ra' hC1 hB1 _ => ?_)))
    have M : ∀ (ra3 : A2) (ns' : A1) (na' : A2) (nl' : L2), BOK ra3 → NOK ns' na' nl' → P_X12_restless ms mw ma ml (fun r' mt _ mb mk => nI (rstN v (v 13 0)) = r' ∧ Inv us ua rs ra ra3 sa sl ns' na' nl' yt im mt mb mk) := by
      intro ra3 ns' na' nl' hB3 hK3
      have L : ∀ (k i : Nat) (mt : A1) (mw' : Nat → Int64) (mb : A2) (mk : L2), i + k = v 13 0 → RM v 0 mt mb → MG (va_up ms 0 0) ma ml mt mb mk → P_X12_restless_19 (fun r' mt _ mb mk => nI (rstN v (v 13 0)) = r' ∧ Inv us ua rs ra ra3 sa sl ns' na' nl' yt im mt mb mk) (k + 1) (nI (rstN v i)) (nI i) mt mw' mb mk := by
        intro k
        induction k with
        | zero =>
          intro i mt mw' mb mk hi r1 r2
          obtain rfl : i = v 13 0 := by omega
          exact ⟨fun _ => ⟨rfl, F _ _ _ _ _ _ _ r2 r1.1 hB3 hK3⟩, fun c => absurd ((cmp_le r1.1.1.2.2.2.2 (by omega) (by omega)).mpr (Nat.le_refl _)) c⟩
        | succ k ih =>
          intro i mt mw' mb mk hi r1 r2
          refine ⟨fun c => absurd ((cmp_le r1.1.1.2.2.2.2 (by omega) (by omega)).mp c) (by omega), fun _ => ?_⟩
          refine m_bestOf hv r1 (by omega) (fun m2 w2 a2 l2 s1 s2 _ s4 => ?_)
          refine m_costNow hv.1 hv.2.1 s1 (by omega) (fun m3 a3 l3 hF => ?_)
          have go := ih (i + 1) m3 w2 a3 l3 (by omega) (hF.rm s1) ((r2.trans s2).trans hF.g)
          rw [rstN] at go
          rw [s4, nI_1]
          refine ⟨fun c x hx => ?_, fun c x hx => ?_⟩
          · rw [if_neg (Int64.not_lt.mpr c)] at go
            rw [show (0 : Int32) = nI 0 from rfl, nI_add] at hx
            rw [hx]; exact go
          · rw [if_pos (Int64.not_le.mp c)] at go
            rw [nI_1] at hx
            rw [hx]; exact go
      exact m_rail hM.1 hv.1 z (b1t ⟨v 13 0 + 1, L (v 13 0) 0 _ _ _ _ (by omega) hM (MG.refl _ _ _)⟩)
    have L : ∀ (k i : Nat) (rx : A2) (nx : A1) (ax : A2) (lx : L2), i + k = v 13 0 → RelC v rs' rx → NOK nx ax lx → P_X11_restless_28 rs ra (fun r _ ra2' ns' na' nl' => P_X12_restless ms mw ma ml (fun r' mt _ mb mk => r = r' ∧ Inv us ua rs ra ra2' sa sl ns' na' nl' yt im mt mb mk)) rs' (k + 1) (nI (rstN v i)) (nI i) rx nx ax lx := by
      intro k
      induction k with
      | zero =>
        intro i rx nx ax lx hi r1 r2
        obtain rfl : i = v 13 0 := by omega
        exact ⟨fun _ => M rx nx ax lx r1.bok r2, fun c => absurd ((cmp_le (rc_s hC 13) (by omega) (by omega)).mpr (Nat.le_refl _)) c⟩
      | succ k ih =>
        intro i rx nx ax lx hi r1 r2
        refine ⟨fun c => absurd ((cmp_le (rc_s hC 13) (by omega) (by omega)).mp c) (by omega), fun _ => ?_⟩
        have hbo := bo_lt v i
        have hol := opt_lt hv.1 (b := i) (by omega)
        have h12 := ok12 hv.1
        refine c_least1 hv r1 r2 (by omega) (fun ry ny ay ly s1 s2 => c_optionOf s1 hv.1 (by omega) ?_)
        have go := ih (i + 1) ry ny ay ly (by omega) s1 s2
        rw [rstN] at go
        rw [nI_1, nI_1]
        by_cases c : bl v i < costL v i
        · rw [if_pos c]
          rw [if_pos c] at go
          refine ⟨fun e => absurd ((nI_eq (by unfold nO at hbo; omega) (by omega)).mp e) (bl_ne hv.1 (by omega) c), fun _ => go⟩
        · rw [if_neg c]
          rw [if_neg c] at go
          exact ⟨fun _ => go, fun e => absurd rfl e⟩
    exact ⟨v 13 0 + 1, L (v 13 0) 0 ra' ns na nl (by omega) hC1 hK⟩
end S
/-! a round, and rounds -/
def rn (v : Rl) : Nat → Rl × Bool
  | 0 => (v, false)
  | b + 1 => if bl (rn v b).1 b < costL (rn v b).1 b then (vo (rn v b).1 b (bo (rn v b).1 b), true) else rn v b
theorem rn_ok {v : Rl} (hv : okR v) : ∀ b, b ≤ v 13 0 → okR (rn v b).1 ∧ SO (rn v b).1 v
  | 0, _ => ⟨hv, SO.refl v⟩
  | b + 1, h => by
    obtain ⟨h1, h2⟩ := rn_ok hv b (by omega)
    unfold rn
    split
    · exact ⟨h1.vo (bo_lt _ b), h2.vo (by omega) _⟩
    · exact ⟨h1, h2⟩
def itr (v : Rl) : Nat → Rl
  | 0 => v
  | k + 1 => (rn (itr v k) (v 13 0)).1
theorem SO.trans {u v w : Rl} (h : SO u v) (g : SO v w) : SO u w := fun f k q => by
  rw [h f k (by rw [g.n]; exact q), g f k q]
theorem itr_ok {v : Rl} (hv : okR v) : ∀ k, okR (itr v k) ∧ SO (itr v k) v
  | 0 => ⟨hv, SO.refl v⟩
  | k + 1 => by
    obtain ⟨h1, h2⟩ := itr_ok hv k
    obtain ⟨g1, g2⟩ := rn_ok h1 (v 13 0) (by rw [h2.n]; exact Nat.le_refl _)
    exact ⟨g1, g2.trans h2⟩
/-- does round k change nothing -/
def stil (v : Rl) (k : Nat) : Bool := !(rn (itr v k) (v 13 0)).2
def bI (b : Bool) : Int32 := if b then 1 else 0
section T
variable {us : A1} {ua : A2} {rs : A1} {ra ra2 sa : A2} {sl : L2} {ns : A1} {na : A2} {nl : L2} {yt : Int32} {im : Img} {ms : A1} {ma : A2} {ml : L2}
theorem m_round {v : Rl} (hv : okR v) {mw : Nat → Int64} (hM : RM v 0 ms ma) {post : Int32 → A1 → (Nat → Int64) → A2 → L2 → Prop} (h : ∀ mt mw' mb mk, RM (rn v (v 13 0)).1 0 mt mb → MG ms ma ml mt mb mk → mb 20 = ma 20 → post (bI (rn v (v 13 0)).2) mt mw' mb mk) : P_X12_round ms mw ma ml post := by
  have h13 := ok13 hv.1
  have L : ∀ (k i : Nat) (mt : A1) (mw' : Nat → Int64) (mb : A2) (mk : L2), i + k = v 13 0 → RM (rn v i).1 0 mt mb → MG ms ma ml mt mb mk → mb 20 = ma 20 → P_X12_round_4 post (k + 1) (bI (rn v i).2) (nI i) mt mw' mb mk := by
    intro k
    induction k with
    | zero =>
      intro i mt mw' mb mk hi r1 r2 r3
      obtain rfl : i = v 13 0 := by omega
      have e : mb 10 0 = nI (v 13 0) := by rw [r1.1.1.2.2.2.2, (rn_ok hv _ (Nat.le_refl _)).2.n]
      refine ⟨fun _ => ⟨?_, h _ _ _ _ r1 r2 r3⟩, fun c => absurd ((cmp_le e (by omega) (by omega)).mpr (Nat.le_refl _)) c⟩
      unfold bI
      split
      · exact Or.inr rfl
      · exact Or.inl rfl
    | succ k ih =>
      intro i mt mw' mb mk hi r1 r2 r3
      obtain ⟨g1, g2⟩ := rn_ok hv i (by omega)
      have e : mb 10 0 = nI (v 13 0) := by rw [r1.1.1.2.2.2.2, g2.n]
      have hib : i < (rn v i).1 13 0 := by rw [g2.n]; omega
      have hbo := bo_lt (rn v i).1 i
      have h12 := ok12 g1.1
      refine ⟨fun c => absurd ((cmp_le e (by omega) (by omega)).mp c) (by omega), fun _ => ?_⟩
      refine m_bestOf g1 r1 hib (fun m2 w2 a2 l2 s1 s2 s3 s4 => ?_)
      refine m_costNow g1.1 g1.2.1 s1 hib (fun m3 a3 l3 hF => ?_)
      rw [s4, nI_1]
      refine ⟨fun c => ?_, fun c => ?_⟩
      · refine m_setO (hF.rm s1) (by omega) (by unfold nO at hbo; omega) (fun a4 t1 t2 t3 => ?_)
        have e2 : rn v (i + 1) = (vo (rn v i).1 i (bo (rn v i).1 i), true) := by rw [rn, if_pos c]
        have go := ih (i + 1) m3 w2 a4 l3 (by omega) (by rw [e2]; exact t1) (((r2.trans s2).trans hF.g).trans (t2 _ _)) ((((t3 20 (by decide)).trans (hF.2.1 20 (by decide) (by decide))).trans s3).trans r3)
        rw [e2] at go
        exact go
      · have e2 : rn v (i + 1) = rn v i := by rw [rn, if_neg c]
        have go := ih (i + 1) m3 w2 a3 l3 (by omega) (by rw [e2]; exact hF.rm s1) ((r2.trans s2).trans hF.g) (((hF.2.1 20 (by decide) (by decide)).trans s3).trans r3)
        rw [e2] at go
        exact go
  exact ⟨v 13 0 + 1, L (v 13 0) 0 ms mw ma ml (by omega) hM (MG.refl _ _ _) rfl⟩
/-- how many rounds of n change something, first -/
def rK (v : Rl) (n : Nat) : Nat := fa_first (stil v) n
theorem m_settlesIn {v : Rl} (hv : okR v) {mw : Nat → Int64} (hM : RM v 0 ms ma) {n : Nat} (hn : n ≤ 60) {post : Int32 → A1 → (Nat → Int64) → A2 → L2 → Prop}
    (h : ∀ mt mw' mb mk, RM (itr v (if rK v n < n then rK v n + 1 else n)) 0 mt mb → MG ms ma ml mt mb mk → mb 20 = ma 20 → mt 13 = bI (decide (rK v n < n)) → post (nI (if rK v n < n then rK v n + 1 else n)) mt mw' mb mk) : P_X12_settlesIn ms mw ma ml (nI n) post := by
  have hle := fa_first_le (stil v) n
  have L : ∀ (k i : Nat) (mt : A1) (mw' : Nat → Int64) (mb : A2) (mk : L2), i + k = n → i ≤ rK v n → RM (itr v i) 0 mt mb → MG ms ma ml mt mb mk → mb 20 = ma 20 → mt 13 = 0 → P_X12_settlesIn_7 (nI n) post (k + 2) (nI i) mt mw' mb mk := by
    intro k
    induction k with
    | zero =>
      intro i mt mw' mb mk hi hK r1 r2 r3 r4
      obtain rfl : i = n := by omega
      have hN : ¬ rK v i < i := by unfold rK at hK ⊢; omega
      rw [if_neg hN] at h
      refine ⟨fun _ => h _ _ _ _ r1 r2 r3 (by rw [r4]; unfold bI; simp [hN]), fun c => absurd (nI_le (Nat.le_refl _) (by omega)) c⟩
    | succ k ih =>
      intro i mt mw' mb mk hi hK r1 r2 r3 r4
      obtain ⟨g1, g2⟩ := itr_ok hv i
      refine ⟨fun c => absurd ((nI_leI (by omega) (by omega)).mp c) (by omega), fun _ => ⟨fun c => absurd r4 c, fun _ => ?_⟩⟩
      refine m_round g1 r1 (fun m2 w2 a2 l2 s1 s2 s3 => ?_)
      rw [g2.n] at s1 ⊢
      rw [nI_1]
      have e13 : ∀ x, MG m2 a2 l2 (va_up m2 13 x) a2 l2 := fun x => ⟨fun j _ _ h13 => up_ne h13, fun _ _ _ _ _ => rfl, fun _ _ => rfl, fun _ _ => rfl, rfl⟩
      have eRM : ∀ x, RM (itr v (i + 1)) 0 (va_up m2 13 x) a2 := fun x => s1.fr (fun _ _ _ => rfl) (up_ne (by decide)) (up_ne (by decide))
      cases hst : (rn (itr v i) (v 13 0)).2 with
      | true =>
        refine ⟨fun _ => ?_, fun c => absurd c (by decide)⟩
        have hlt : i < rK v n := by
          rcases Nat.lt_or_ge i (rK v n) with q | q
          · exact q
          · exfalso
            have e : rK v n = i := by omega
            have := fa_first_yes (stil v) n (by unfold rK at e; omega)
            rw [show fa_first (stil v) n = i from e] at this
            unfold stil at this
            rw [hst] at this
            simp at this
        exact ih (i + 1) _ _ _ _ (by omega) (by omega) (eRM 0) ((r2.trans s2).trans (e13 0)) (s3.trans r3) up_at
      | false =>
        refine ⟨fun c => absurd rfl c, fun _ => ?_⟩
        have e : rK v n = i := by
          rcases Nat.lt_or_ge i (rK v n) with q | q
          · exfalso
            have := fa_first_no (stil v) n i q
            unfold stil at this
            rw [hst] at this
            simp at this
          · omega
        have hlt : rK v n < n := by omega
        rw [if_pos hlt, e] at h
        have fin := h (va_up m2 13 1) w2 a2 l2 (eRM 1) ((r2.trans s2).trans (e13 1)) (s3.trans r3) (by rw [up_at]; unfold bI; simp; omega)
        refine ⟨fun _ => fin, fun _ => ⟨fun _ => fin, fun c => absurd c (by rw [up_at]; decide)⟩⟩
  exact ⟨n + 2, L n 0 _ mw ma ml (by omega) (Nat.zero_le _) (hM.fr (fun _ _ _ => rfl) (up_ne (by decide)) (up_ne (by decide))) ⟨fun j _ _ h13 => up_ne h13, fun _ _ _ _ _ => rfl, fun _ _ => rfl, fun _ _ => rfl, rfl⟩ rfl up_at⟩
theorem bI_or (a b : Bool) : bI a ||| bI b = bI (a || b) := by cases a <;> cases b <;> rfl
theorem c_roundsOn {v : Rl} (hv : okR v) (hC : RelC v rs ra) (hK : NOK ns na nl) {n : Nat} (hn : n ≤ 60) {post : Int32 → A2 → A1 → A2 → L2 → Prop}
    (h : ∀ ra' ns' na' nl', RelC (itr v (if rK v n < n then rK v n + 1 else n)) rs ra' → NOK ns' na' nl' → post (nI (rK v n + 1)) ra' ns' na' nl') : P_X11_roundsOn rs ra ns na nl (nI n) post := by
  have h13 := ok13 hv.1
  have hle := fa_first_le (stil v) n
  -- a round
  have B : ∀ (u : Rl), okR u → SO u v → ∀ (x3 : Int32) (K76 : Int32 → Int32 → A2 → A1 → A2 → L2 → Prop) (rx : A2) (nx : A1) (ax : A2) (lx : L2), RelC u rs rx → NOK nx ax lx → (∀ ry ny ay ly, RelC (rn u (v 13 0)).1 rs ry → NOK ny ay ly → K76 x3 (bI (rn u (v 13 0)).2) ry ny ay ly) → ∃ m, P_X11_roundsOn_13 rs (nI n) post K76 x3 m 0 0 rx nx ax lx := by
    intro u hu hS x3 K76 rx nx ax lx q1 q2 kk
    have hn13 := hS.n
    have L : ∀ (k i : Nat) (ry : A2) (ny : A1) (ay : A2) (ly : L2), i + k = v 13 0 → RelC (rn u i).1 rs ry → NOK ny ay ly → P_X11_roundsOn_13 rs (nI n) post K76 x3 (k + 1) (bI (rn u i).2) (nI i) ry ny ay ly := by
      intro k
      induction k with
      | zero =>
        intro i ry ny ay ly hi r1 r2
        obtain rfl : i = v 13 0 := by omega
        exact ⟨fun _ => kk _ _ _ _ r1 r2, fun c => absurd ((cmp_le (rc_s hC 13) (by omega) (by omega)).mpr (Nat.le_refl _)) c⟩
      | succ k ih =>
        intro i ry ny ay ly hi r1 r2
        obtain ⟨g1, g2⟩ := rn_ok hu i (by omega)
        have hib : i < (rn u i).1 13 0 := by rw [g2.n]; omega
        have hbo := bo_lt (rn u i).1 i
        have hol := opt_lt g1.1 hib
        have h12 := ok12 g1.1
        refine ⟨fun c => absurd ((cmp_le (rc_s hC 13) (by omega) (by omega)).mp c) (by omega), fun _ => ?_⟩
        refine c_least1 g1 r1 r2 hib (fun rz nz az lz s1 s2 => c_optionOf s1 g1.1 hib ?_)
        by_cases c : bl (rn u i).1 i < costL (rn u i).1 i
        · rw [if_pos c]
          have e2 : rn u (i + 1) = (vo (rn u i).1 i (bo (rn u i).1 i), true) := by rw [rn, if_pos c]
          refine ⟨fun e => absurd ((nI_eq (by unfold nO at hbo; omega) (by omega)).mp e) (bl_ne g1.1 hib c), fun _ => ?_⟩
          intro x1 hx1
          have hx : x1 = bI true := by rw [hx1, show (1 : Int32) = bI true from rfl, bI_or]; simp
          subst hx
          refine c_setOption s1 (by omega) (by unfold nO at hbo; omega) (fun loc mar hC' => ?_)
          have go := ih (i + 1) _ nz az lz (by omega) (by rw [e2]; exact hC') s2
          rw [e2] at go
          rw [nI_1]
          exact go
        · rw [if_neg c]
          have e2 : rn u (i + 1) = rn u i := by rw [rn, if_neg c]
          refine ⟨fun _ => ?_, fun e => absurd rfl e⟩
          intro x1 hx1
          have hx : x1 = bI (rn u i).2 := by rw [hx1, show (0 : Int32) = bI false from rfl, bI_or]; simp
          subst hx
          refine c_setOption s1 (by omega) (by omega) (fun loc mar hC' => ?_)
          rw [vo_opt (g1.1.2.2.2.2.1 i hib).2.2.2.2] at hC'
          have go := ih (i + 1) _ nz az lz (by omega) (by rw [e2]; exact hC') s2
          rw [e2] at go
          rw [nI_1]
          exact go
    exact ⟨v 13 0 + 1, L (v 13 0) 0 rx nx ax lx (by omega) q1 q2⟩
  have L : ∀ (k i : Nat) (ry : A2) (ny : A1) (ay : A2) (ly : L2), i + k = n → i ≤ rK v n → RelC (itr v i) rs ry → NOK ny ay ly → P_X11_roundsOn_2 rs (nI n) post (k + 1) (nI (i + 1)) ry ny ay ly := by
    intro k
    induction k with
    | zero =>
      intro i ry ny ay ly hi hK r1 r2
      obtain rfl : i = n := by omega
      have hN : ¬ rK v i < i := by unfold rK at hK ⊢; omega
      have e : rK v i = i := by unfold rK at hN ⊢; omega
      rw [if_neg hN] at h
      refine ⟨fun _ => ?_, fun c => absurd (nI_lt (by omega) (by omega)) c⟩
      rw [nI_1]
      have := h _ _ _ _ r1 r2
      rw [e] at this
      exact this
    | succ k ih =>
      intro i ry ny ay ly hi hK r1 r2
      obtain ⟨g1, g2⟩ := itr_ok hv i
      refine ⟨fun c => absurd ((nI_ltI (by omega) (by omega)).mp c) (by omega), fun _ => ?_⟩
      refine B (itr v i) g1 g2 _ _ ry ny ay ly r1 r2 (fun rz nz az lz s1 s2 => ?_)
      unfold P_X11_roundsOn_76
      rw [nI_1]
      cases hst : (rn (itr v i) (v 13 0)).2 with
      | true =>
        refine ⟨fun _ => ?_, fun c => absurd c (by decide)⟩
        have hlt : i < rK v n := by
          rcases Nat.lt_or_ge i (rK v n) with q | q
          · exact q
          · exfalso
            have e : rK v n = i := by omega
            have := fa_first_yes (stil v) n (by unfold rK at e; omega)
            rw [show fa_first (stil v) n = i from e] at this
            unfold stil at this
            rw [hst] at this
            simp at this
        exact ih (i + 1) _ _ _ _ (by omega) (by omega) s1 s2
      | false =>
        refine ⟨fun c => absurd rfl c, fun _ => ?_⟩
        have e : rK v n = i := by
          rcases Nat.lt_or_ge i (rK v n) with q | q
          · exfalso
            have := fa_first_no (stil v) n i q
            unfold stil at this
            rw [hst] at this
            simp at this
          · omega
        have hlt : rK v n < n := by omega
        rw [if_pos hlt, e] at h
        exact h _ _ _ _ s1 s2
  exact ⟨n + 1, L n 0 ra ns na nl (by omega) (Nat.zero_le _) hC hK⟩
end T
