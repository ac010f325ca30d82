/-! promises 22 to 26: settling and bettering, call by call -/
def chI (v : Rl) (b : Nat) (s : Int64 × Option (Nat × Nat)) : Nat → Int64 × Option (Nat × Nat)
  | 0 => s
  | k + 1 => if allL (vo v b k) 2 < (chI v b s k).1 then (allL (vo v b k) 2, some (b, k)) else chI v b s k
def chO (v : Rl) : Nat → Int64 × Option (Nat × Nat)
  | 0 => (allL v 2, none)
  | b + 1 => chI v b (chO v b) (nO v)
def sB (s : Int64 × Option (Nat × Nat)) : Int32 := match s.2 with
  | none => -1
  | some q => nI q.1
def sO (s : Int64 × Option (Nat × Nat)) : Int32 := match s.2 with
  | none => 0
  | some q => nI q.2
theorem chI_in {v : Rl} {b n : Nat} {s : Int64 × Option (Nat × Nat)} (hb : b < n) (h : ∀ q, s.2 = some q → q.1 < n ∧ q.2 < nO v) : ∀ k, k ≤ nO v → ∀ q, (chI v b s k).2 = some q → q.1 < n ∧ q.2 < nO v
  | 0, _ => h
  | k + 1, hk => by
    intro q hq
    unfold chI at hq
    split at hq
    · simp at hq
      subst hq
      exact ⟨hb, by simp; omega⟩
    · exact chI_in hb h k (by omega) q hq
theorem chO_in {v : Rl} : ∀ b, b ≤ v 13 0 → ∀ q, (chO v b).2 = some q → q.1 < v 13 0 ∧ q.2 < nO v
  | 0, _ => by intro q hq; simp [chO] at hq
  | b + 1, hb => by
    rw [chO]
    exact chI_in (by omega) (chO_in b (by omega)) _ (Nat.le_refl _)
/-- a change for the better -/
def btr (v : Rl) : Rl := match (chO v (v 13 0)).2 with
  | none => v
  | some q => vo v q.1 q.2
def isB (v : Rl) : Bool := (chO v (v 13 0)).2.isSome
theorem btr_ok {v : Rl} (hv : okR v) : okR (btr v) ∧ SO (btr v) v := by
  unfold btr
  have := chO_in (v := v) _ (Nat.le_refl _)
  cases h : (chO v (v 13 0)).2 with
  | none => exact ⟨hv, SO.refl v⟩
  | some q =>
    obtain ⟨h1, h2⟩ := this q h
    exact ⟨hv.vo h2, (SO.refl v).vo h1 _⟩
def itb (v : Rl) : Nat → Rl
  | 0 => v
  | k + 1 => btr (itb v k)
theorem itb_ok {v : Rl} (hv : okR v) : ∀ k, okR (itb v k) ∧ SO (itb v k) v
  | 0 => ⟨hv, SO.refl v⟩
  | k + 1 => by
    obtain ⟨h1, h2⟩ := itb_ok hv k
    obtain ⟨g1, g2⟩ := btr_ok h1
    exact ⟨g1, g2.trans h2⟩
def bK (v : Rl) (n : Nat) : Nat := fa_first (fun k => !isB (itb v k)) n
theorem btr_not {v : Rl} (h : isB v = false) : btr v = v := by
  unfold isB at h
  unfold btr
  cases hh : (chO v (v 13 0)).2 with
  | none => rfl
  | some q => rw [hh] at h; simp at h
section B
variable {us : A1} {ua : A2} {rs : A1} {ra ra2 sa : A2} {sl : L2} {ns : A1} {na : A2} {nl : L2} {yt : Int32} {im : Img} {ms : A1} {ma : A2} {ml : L2}
theorem c_changeBetters {v : Rl} (hv : okR v) (z : 0 < v 2 0) (hC : RelC v rs ra) (hK : NOK ns na nl) {post : Int32 → A2 → A1 → A2 → L2 → Prop} (h : ∀ ra' ns' na' nl', RelC (btr v) rs ra' → NOK ns' na' nl' → post (bI (isB v)) ra' ns' na' nl') : P_X11_changeBetters rs ra ns na nl post := by
  have h13 := ok13 hv.1
  have h12 := ok12 hv.1
  have hnO : nO v = 2 * (v 12 0 + 1) := rfl
  refine c_play hC hv.1 hK (fun n1 a1 l1 hPl => c_costOfAll (w := 2) hC hv.1 hPl.2.2.2 (by decide) ?_)
  -- the options of a bike
  have I : ∀ (b : Nat), b < v 13 0 → ∀ (s : Int64 × Option (Nat × Nat)) (K116 : Int64 → Int32 → Int32 → Int32 → Int32 → A2 → A1 → A2 → L2 → Prop) (rx : A2) (nx : A1) (ax : A2) (lx : L2), RelC v rs rx → NOK nx ax lx → (∀ ry ny ay ly u, RelC u rs ry → (∀ o, vo u b o = vo v b o) → NOK ny ay ly → K116 (chI v b s (nO v)).1 (sB (chI v b s (nO v))) (sO (chI v b s (nO v))) (nI b) (nI (opt v b)) ry ny ay ly) →
      ∃ m, P_X11_changeBetters_53 rs post K116 (nI b) (nI (opt v b)) m s.1 (sB s) (sO s) 0 rx nx ax lx := by
    intro b hb s K116 rx nx ax lx q1 q2 kk
    have L : ∀ (k i : Nat) (ry : A2) (ny : A1) (ay : A2) (ly : L2) (u : Rl), i + k = nO v → RelC u rs ry → (∀ o, vo u b o = vo v b o) → NOK ny ay ly → P_X11_changeBetters_53 rs post K116 (nI b) (nI (opt v b)) (k + 1) (chI v b s i).1 (sB (chI v b s i)) (sO (chI v b s i)) (nI i) ry ny ay ly := by
      intro k
      induction k with
      | zero =>
        intro i ry ny ay ly u hi r1 r2 r3
        obtain rfl : i = nO v := by omega
        unfold P_X11_changeBetters_53 P_X11_changeBetters_53_b
        exact c_options hC hv.1 z ⟨fun _ => kk _ _ _ _ u r1 r2 r3, fun c => absurd (nI_le (Nat.le_refl _) (by omega)) c⟩
      | succ k ih =>
        intro i ry ny ay ly u hi r1 r2 r3
        have hio : i < 2 * (v 12 0 + 1) := by omega
        unfold P_X11_changeBetters_53 P_X11_changeBetters_53_b
        refine c_options hC hv.1 z ⟨fun c => absurd ((nI_leI (by omega) (by omega)).mp c) (by omega), fun _ => ?_⟩
        refine c_setOption r1 (by omega) (by omega) (fun loc mar hC' => ?_)
        rw [r2] at hC'
        have hv' := hv.vo (b := b) hio
        refine c_play hC' hv'.1 r3 (fun n2 a2 l2 hPl2 => c_costOfAll (w := 2) hC' hv'.1 hPl2.2.2.2 (by decide) ?_)
        have go := ih (i + 1) _ n2 a2 l2 (vo v b i) (by omega) hC' (fun o => vo_vo v b i o) hPl2.2.1
        rw [chI] at go
        rw [nI_1]
        refine ⟨fun c => ?_, fun c => ?_⟩
        · rw [if_neg (Int64.not_lt.mpr c)] at go
          exact go
        · rw [if_pos (Int64.not_le.mp c)] at go
          exact go
    exact ⟨nO v + 1, L (nO v) 0 rx nx ax lx v (by omega) q1 (fun _ => rfl) q2⟩
  have L : ∀ (k i : Nat) (ry : A2) (ny : A1) (ay : A2) (ly : L2), i + k = v 13 0 → RelC v rs ry → NOK ny ay ly → P_X11_changeBetters_27 rs post (fun (x4_ : Int32) (x5_ : Int32) (ra0 : Nat → Nat → Int32) (ns : Nat → Int32) (na : Nat → Nat → Int32) (nl : Nat → Nat → Int64) => P_X11_changeBetters_133 rs post x4_ x5_ ra0 ns na nl) (k + 1) (chO v i).1 (sB (chO v i)) (sO (chO v i)) (nI i) ry ny ay ly := by
    intro k
    induction k with
    | zero =>
      intro i ry ny ay ly hi r1 r2
      obtain rfl : i = v 13 0 := by omega
      refine ⟨fun _ => ?_, fun c => absurd ((cmp_le (rc_s hC 13) (by omega) (by omega)).mpr (Nat.le_refl _)) c⟩
      have hin := chO_in (v := v) _ (Nat.le_refl _)
      unfold btr isB at h
      unfold sB sO
      cases hs : (chO v (v 13 0)).2 with
      | none =>
        rw [hs] at h
        exact ⟨fun _ => ⟨fun _ => h _ _ _ _ r1 r2, fun c => absurd rfl c⟩, fun c => absurd rfl c⟩
      | some q =>
        rw [hs] at h
        obtain ⟨i1, i2⟩ := hin q hs
        refine ⟨fun c => absurd c (nI_nm1 (by omega)), fun _ => ?_⟩
        refine c_setOption r1 (by omega) (by omega) (fun loc mar hC' => ?_)
        exact ⟨fun c => absurd c (nI_nm1 (by omega)), fun _ => h _ _ _ _ hC' r2⟩
    | succ k ih =>
      intro i ry ny ay ly hi r1 r2
      have hib : i < v 13 0 := by omega
      have hol := opt_lt hv.1 hib
      refine ⟨fun c => absurd ((cmp_le (rc_s hC 13) (by omega) (by omega)).mp c) (by omega), fun _ => ?_⟩
      refine c_optionOf r1 hv.1 hib (I i hib (chO v i) _ ry ny ay ly r1 r2 (fun rz nz az lz u s1 s2 s3 => ?_))
      refine c_setOption s1 (by omega) (by omega) (fun loc mar hC' => ?_)
      rw [s2, vo_opt (hv.1.2.2.2.2.1 i hib).2.2.2.2] at hC'
      rw [nI_1]
      exact ih (i + 1) _ nz az lz (by omega) hC' s3
  exact ⟨v 13 0 + 1, L (v 13 0) 0 ra n1 a1 l1 (by omega) hC hPl.2.1⟩
theorem m_changes {v : Rl} (hv : okR v) (hM : RM v 0 ms ma) {post : Int32 → A1 → A2 → L2 → Prop} (h : ∀ mt mb mk, RM (btr v) 0 mt mb → MG ms ma ml mt mb mk → mb 20 = ma 20 → post (bI (isB v)) mt mb mk) : P_X12_changes ms ma ml post := by
  have h13 := ok13 hv.1
  have h12 := ok12 hv.1
  have hnO : nO v = 2 * (v 12 0 + 1) := rfl
  refine m_allNow (w := 2) hv.1 hv.2.1 hM (by decide) (fun m1 a1 l1 hF1 => ?_)
  have I : ∀ (b : Nat), b < v 13 0 → ∀ (s : Int64 × Option (Nat × Nat)) (K86 : Int64 → Int32 → Int32 → Int32 → Int32 → A1 → A2 → L2 → Prop) (mx : A1) (ax : A2) (lx : L2), RM v 0 mx ax → MG ms ma ml mx ax lx → ax 20 = ma 20 → (∀ my ay ly u, RM u 0 my ay → (∀ o, vo u b o = vo v b o) → MG ms ma ml my ay ly → ay 20 = ma 20 → K86 (chI v b s (nO v)).1 (sB (chI v b s (nO v))) (sO (chI v b s (nO v))) (nI b) (nI (opt v b)) my ay ly) →
      ∃ m, P_X12_changes_36 post K86 (nI b) (nI (opt v b)) m s.1 (sB s) (sO s) 0 mx ax lx := by
    intro b hb s K86 mx ax lx q1 q2 q3 kk
    have L : ∀ (k i : Nat) (my : A1) (ay : A2) (ly : L2) (u : Rl), i + k = nO v → RM u 0 my ay → u 12 0 = v 12 0 → (∀ o, vo u b o = vo v b o) → MG ms ma ml my ay ly → ay 20 = ma 20 → P_X12_changes_36 post K86 (nI b) (nI (opt v b)) (k + 1) (chI v b s i).1 (sB (chI v b s i)) (sO (chI v b s i)) (nI i) my ay ly := by
      intro k
      induction k with
      | zero =>
        intro i my ay ly u hi r1 r12 r2 r3 r4
        obtain rfl : i = nO v := by omega
        unfold P_X12_changes_36 P_X12_changes_36_b
        refine m_optionMany r1.1 ?_
        rw [r12]
        exact ⟨fun _ => kk _ _ _ u r1 r2 r3 r4, fun c => absurd (nI_le (Nat.le_refl _) (by omega)) c⟩
      | succ k ih =>
        intro i my ay ly u hi r1 r12 r2 r3 r4
        have hio : i < 2 * (v 12 0 + 1) := by omega
        unfold P_X12_changes_36 P_X12_changes_36_b
        refine m_optionMany r1.1 ?_
        rw [r12]
        refine ⟨fun c => absurd ((nI_leI (by omega) (by omega)).mp c) (by omega), fun _ => ?_⟩
        refine m_setO r1 (by omega) (by omega) (fun az s1 s2 s3 => ?_)
        rw [r2] at s1
        have hv' := hv.vo (b := b) hio
        refine m_allNow (w := 2) hv'.1 hv'.2.1 s1 (by decide) (fun m2 a2 l2 hF => ?_)
        have go := ih (i + 1) m2 a2 l2 (vo v b i) (by omega) (hF.rm s1) (by rw [vo_f (by decide) (by decide)]) (fun o => vo_vo v b i o) ((r3.trans (s2 _ _)).trans hF.g) (((hF.2.1 20 (by decide) (by decide)).trans (s3 20 (by decide))).trans r4)
        rw [chI] at go
        rw [nI_1]
        refine ⟨fun c => ?_, fun c => ?_⟩
        · rw [if_pos c] at go
          exact go
        · rw [if_neg c] at go
          exact go
    exact ⟨nO v + 1, L (nO v) 0 mx ax lx v (by omega) q1 rfl (fun _ => rfl) q2 q3⟩
  have L : ∀ (k i : Nat) (my : A1) (ay : A2) (ly : L2), i + k = v 13 0 → RM v 0 my ay → MG ms ma ml my ay ly → ay 20 = ma 20 → P_X12_changes_14 post (fun (x3_ : Int32) (x4_ : Int32) (ms : Nat → Int32) (ma : Nat → Nat → Int32) (ml : Nat → Nat → Int64) => P_X12_changes_100 post x3_ x4_ ms ma ml) (k + 1) (chO v i).1 (sB (chO v i)) (sO (chO v i)) (nI i) my ay ly := by
    intro k
    induction k with
    | zero =>
      intro i my ay ly hi r1 r2 r3
      obtain rfl : i = v 13 0 := by omega
      refine ⟨fun _ => ?_, fun c => absurd ((cmp_le r1.1.1.2.2.2.2 (by omega) (by omega)).mpr (Nat.le_refl _)) c⟩
      have hin := chO_in (v := v) _ (Nat.le_refl _)
      unfold btr isB at h
      unfold sB sO
      cases hs : (chO v (v 13 0)).2 with
      | none =>
        rw [hs] at h
        exact ⟨fun c => absurd rfl c, fun _ => h _ _ _ r1 r2 r3⟩
      | some q =>
        rw [hs] at h
        obtain ⟨i1, i2⟩ := hin q hs
        refine ⟨fun _ => ?_, fun c => absurd c (nI_nm1 (by omega))⟩
        refine m_setO r1 (by omega) (by omega) (fun az s1 s2 s3 => ?_)
        exact h _ _ _ s1 (r2.trans (s2 _ _)) ((s3 20 (by decide)).trans r3)
    | succ k ih =>
      intro i my ay ly hi r1 r2 r3
      have hib : i < v 13 0 := by omega
      have hol := opt_lt hv.1 hib
      refine ⟨fun c => absurd ((cmp_le r1.1.1.2.2.2.2 (by omega) (by omega)).mp c) (by omega), fun _ => ?_⟩
      refine m_optionOf r1.1 hv.1 hib (I i hib (chO v i) _ my ay ly r1 r2 r3 (fun mz az lz u s1 s2 s3 s4 => ?_))
      refine m_setO s1 (by omega) (by omega) (fun aw t1 t2 t3 => ?_)
      rw [s2, vo_opt (hv.1.2.2.2.2.1 i hib).2.2.2.2] at t1
      rw [nI_1]
      exact ih (i + 1) mz aw lz (by omega) t1 (s3.trans (t2 _ _)) ((t3 20 (by decide)).trans s4)
  exact ⟨v 13 0 + 1, L (v 13 0) 0 m1 a1 l1 (by omega) (hF1.rm hM) hF1.g (hF1.2.1 20 (by decide) (by decide))⟩
theorem c_changesOn {v : Rl} (hv : okR v) (z : 0 < v 2 0) (hC : RelC v rs ra) (hK : NOK ns na nl) {n : Nat} (hn : n ≤ 60) {post : Int32 → A2 → A1 → A2 → L2 → Prop} (h : ∀ ra' ns' na' nl', RelC (itb v (bK v n)) rs ra' → NOK ns' na' nl' → post (nI (bK v n)) ra' ns' na' nl') : P_X11_changesOn rs ra ns na nl (nI n) post := by
  have hle : bK v n ≤ n := fa_first_le _ n
  have L : ∀ (k i : Nat) (ry : A2) (ny : A1) (ay : A2) (ly : L2), i + k = n → i ≤ bK v n → RelC (itb v i) rs ry → NOK ny ay ly → P_X11_changesOn_2 rs (nI n) post (k + 1) (nI i) ry ny ay ly := by
    intro k
    induction k with
    | zero =>
      intro i ry ny ay ly hi hb r1 r2
      obtain rfl : i = n := by omega
      have e : bK v i = i := by omega
      rw [e] at h
      exact ⟨fun _ => h _ _ _ _ r1 r2, fun c => absurd (nI_le (Nat.le_refl _) (by omega)) c⟩
    | succ k ih =>
      intro i ry ny ay ly hi hb r1 r2
      obtain ⟨g1, g2⟩ := itb_ok hv i
      refine ⟨fun c => absurd ((nI_leI (by omega) (by omega)).mp c) (by omega), fun _ => ?_⟩
      refine c_changeBetters g1 (by rw [g2.f (by decide) (by decide)]; exact z) r1 r2 (fun rz nz az lz s1 s2 => ?_)
      rw [nI_1]
      cases hst : isB (itb v i) with
      | true =>
        refine ⟨fun _ => ?_, fun c => absurd c (by decide)⟩
        have hlt : i < bK v n := by
          rcases Nat.lt_or_ge i (bK v n) with q | q
          · exact q
          · exfalso
            have e : bK v n = i := by omega
            have := fa_first_yes (fun k => !isB (itb v k)) n (by unfold bK at e; omega)
            rw [show fa_first (fun k => !isB (itb v k)) n = i from e] at this
            simp [hst] at this
        exact ih (i + 1) _ _ _ _ (by omega) (by omega) s1 s2
      | false =>
        refine ⟨fun c => absurd rfl c, fun _ => ?_⟩
        have e : bK v n = i := by
          rcases Nat.lt_or_ge i (bK v n) with q | q
          · exfalso
            have := fa_first_no (fun k => !isB (itb v k)) n i q
            simp [hst] at this
          · omega
        rw [e] at h
        rw [btr_not hst] at s1
        exact h _ _ _ _ s1 s2
  exact ⟨n + 1, L n 0 ra ns na nl (by omega) (Nat.zero_le _) hC hK⟩
theorem m_betters {v : Rl} (hv : okR v) (hM : RM v 0 ms ma) {n : Nat} (hn : n ≤ 60) {post : Int32 → A1 → A2 → L2 → Prop} (h : ∀ mt mb mk, RM (itb v (bK v n)) 0 mt mb → MG ms ma ml mt mb mk → mb 20 = ma 20 → post (nI (bK v n)) mt mb mk) : P_X12_betters ms ma ml (nI n) post := by
  have hle : bK v n ≤ n := fa_first_le _ n
  have L : ∀ (k i : Nat) (my : A1) (ay : A2) (ly : L2), i + k = n → i ≤ bK v n → RM (itb v i) 0 my ay → MG ms ma ml my ay ly → ay 20 = ma 20 → P_X12_betters_2 (nI n) post (k + 1) (nI i) my ay ly := by
    intro k
    induction k with
    | zero =>
      intro i my ay ly hi hb r1 r2 r3
      obtain rfl : i = n := by omega
      have e : bK v i = i := by omega
      rw [e] at h
      exact ⟨fun _ => h _ _ _ r1 r2 r3, fun c => absurd (nI_le (Nat.le_refl _) (by omega)) c⟩
    | succ k ih =>
      intro i my ay ly hi hb r1 r2 r3
      obtain ⟨g1, g2⟩ := itb_ok hv i
      refine ⟨fun c => absurd ((nI_leI (by omega) (by omega)).mp c) (by omega), fun _ => ?_⟩
      refine m_changes g1 r1 (fun mz az lz s1 s2 s3 => ?_)
      rw [nI_1]
      cases hst : isB (itb v i) with
      | true =>
        refine ⟨fun c => absurd c (by decide), fun _ => ?_⟩
        have hlt : i < bK v n := by
          rcases Nat.lt_or_ge i (bK v n) with q | q
          · exact q
          · exfalso
            have e : bK v n = i := by omega
            have := fa_first_yes (fun k => !isB (itb v k)) n (by unfold bK at e; omega)
            rw [show fa_first (fun k => !isB (itb v k)) n = i from e] at this
            simp [hst] at this
        exact ih (i + 1) _ _ _ (by omega) (by omega) s1 (r2.trans s2) (s3.trans r3)
      | false =>
        refine ⟨fun _ => ?_, fun c => absurd rfl c⟩
        have e : bK v n = i := by
          rcases Nat.lt_or_ge i (bK v n) with q | q
          · exfalso
            have := fa_first_no (fun k => !isB (itb v k)) n i q
            simp [hst] at this
          · omega
        rw [e] at h
        rw [btr_not hst] at s1
        exact h _ _ _ s1 (r2.trans s2) (s3.trans r3)
  exact ⟨n + 1, L n 0 ms ma ml (by omega) (Nat.zero_le _) hM (MG.refl _ _ _) rfl⟩
/-- a changed rail, of the same lamps, thieves and year -/
theorem Inv.opts {u v : Rl} (hI : Inv us ua rs ra ra2 sa sl ns na nl yt im ms ma ml) (hu : okR u) (hS : SO u v) (hP : RelP v 0 ma) (hY : RelY v 0 ma) {ra' ra2' : A2} {ns' : A1} {na' : A2} {nl' : L2} {mt : A1} {mb : A2} {mk : L2} (hC : RelC u rs ra') (hM : RM u 0 mt mb) (hG : MG (va_up ms 0 0) ma ml mt mb mk) (hB : BOK ra2') (hK : NOK ns' na' nl') : Inv us ua rs ra' ra2' sa sl ns' na' nl' yt im mt mb mk :=
  hI.step ((MG.z ms ma ml).trans hG) hu hC hM.1 hM.2.1 ((hP.so hS).eq (hG.2.1 6 (by decide) (by decide) (by decide) (by decide)) (hG.2.1 7 (by decide) (by decide) (by decide) (by decide))) ((hY.so hS).eq (hG.2.1 16 (by decide) (by decide) (by decide) (by decide))) hB hK
theorem q_settle (hI : Inv us ua rs ra ra2 sa sl ns na nl yt im ms ma ml) (mw : Nat → Int64) (p : Int32) : P_X11_settle rs ra ns na nl p (fun r ra' ns' na' nl' => P_X12_settle ms mw ma ml p (fun r' mt _ mb mk => r = r' ∧ Inv us ua rs ra' ra2 sa sl ns' na' nl' yt im mt mb mk)) := by
  obtain ⟨v, hv, hC, hM, hP, hY, hK, hB, F⟩ := hI.get
  have fin := F ra2 ns na nl _ _ _ (MG.refl _ _ _) hM.1 hB hK
  rcases Nat.eq_zero_or_pos (v 2 0) with z | z
  · exact c_told0 hC z (b0f (m_rail0 hM.1 hv.1 z (b0f ⟨rfl, fin⟩)))
  · rcases ixs p (n := 31) (by decide) with h | ⟨n, hn, rfl⟩
    · have M : P_X12_settle ms mw ma ml p (fun r' mt _ mb mk => -2 = r' ∧ Inv us ua rs ra ra2 sa sl ns na nl yt im mt mb mk) := m_rail hM.1 hv.1 z (b1f (m_inL_bad (m := 30) h (by decide) (b0f ⟨rfl, fin⟩)))
      refine c_told hC hv.1 z (b1f ⟨fun _ => M, fun c => ⟨fun c2 => ?_, fun _ => M⟩⟩)
      exfalso
      have h2 := h.resolve_left c
      rw [Int32.le_iff_toInt_le, nI_toInt (by decide)] at h2
      rw [Int32.le_iff_toInt_le, show (30 : Int32).toInt = 30 from rfl] at c2
      omega
    · refine c_told hC hv.1 z (b1f ⟨fun c => absurd c (nI_pos (by omega)), fun _ => ⟨fun _ => ?_, fun c => absurd (nI_le (b := 30) (by omega) (by decide)) c⟩⟩)
      refine c_roundsOn hv hC hK (by omega) (fun ra' ns' na' nl' hC' hK' => ?_)
      refine m_rail hM.1 hv.1 z (b1f (m_inL_ok (m := 30) (by omega) (by decide) (b1f (m_settlesIn hv hM (by omega) (fun mt mw' mb mk hM' hG _ _ => ?_)))))
      obtain ⟨g1, g2⟩ := itr_ok hv (if rK v n < n then rK v n + 1 else n)
      refine ⟨?_, hI.opts g1 g2 hP hY hC' hM' hG hB hK'⟩
      have hle : rK v n ≤ n := fa_first_le _ n
      by_cases c : rK v n + 1 < n
      · rw [if_pos (nI_lt c (by omega)), if_pos (by omega)]
      · rw [if_neg (nI_nlt (by omega) (by omega))]
        split
        · congr 1; omega
        · rfl
theorem MG.of20 {mb : A2} (h : ∀ j, j ≠ 20 → mb j = ma j) : MG ms ma ml ms mb ml := ⟨fun _ _ _ _ => rfl, fun j a _ _ _ => h j (by omega), fun x _ => by rw [h 11 (by decide)], fun x _ => by rw [h 14 (by decide)], rfl⟩
theorem q_settles (hI : Inv us ua rs ra ra2 sa sl ns na nl yt im ms ma ml) (rs2 : A1) (mw : Nat → Int64) : P_X11_settles rs ra rs2 ra2 ns na nl (fun r _ ra2' ns' na' nl' => P_X12_settles ms mw ma ml (fun r' mt _ mb mk => r = r' ∧ Inv us ua rs ra ra2' sa sl ns' na' nl' yt im mt mb mk)) := by
  obtain ⟨v, hv, hC, hM, hP, hY, hK, hB, F⟩ := hI.get
  have fin := F ra2 ns na nl _ _ _ (MG.refl _ _ _) hM.1 hB hK
  rcases Nat.eq_zero_or_pos (v 2 0) with z | z
  · exact c_told0 hC z (b0t (m_rail0 hM.1 hv.1 z (b0t ⟨rfl, fin⟩)))
  · refine c_told hC hv.1 z (b1t (c_copyFrom hC hv.1 (fun rs' ra' hC1 hB1 _ => c_roundsOn (n := 30) hv hC1 hK (by decide) (fun ra3 ns' na' nl' hC3 hK3 => ?_))))
    have M : ∀ r : Int32, r = (if rK v 30 < 30 then nI (rK v 30 + 1) else -1) → P_X12_settles ms mw ma ml (fun r' mt _ mb mk => r = r' ∧ Inv us ua rs ra ra3 sa sl ns' na' nl' yt im mt mb mk) := by
      intro r hr
      refine m_rail hM.1 hv.1 z (b1t (m_laysAside hv.1 hM (fun mb h1 h2 => ?_)))
      refine m_settlesIn (n := 30) hv (hM.fr (fun i _ _ => h1 i (by omega)) rfl rfl) (by decide) (fun mt mw' mc mk hM' hG h20 h13 => ?_)
      obtain ⟨g1, g2⟩ := itr_ok hv (if rK v 30 < 30 then rK v 30 + 1 else 30)
      refine m_takesBack hv.1 g2 hM' (fun b hb => by rw [h20]; exact h2 b hb) (fun md hMd hGd => ?_)
      have fin2 := F ra3 ns' na' nl' mt md mk (((MG.of20 h1).trans hG).trans (hGd _ _)) hMd.1 hC3.bok hK3
      rw [h13]
      by_cases c : rK v 30 < 30
      · rw [if_pos c] at hr ⊢
        exact ⟨fun e => absurd e (by simp [bI, c]), fun _ => ⟨hr, fin2⟩⟩
      · rw [if_neg c] at hr
        exact ⟨fun _ => ⟨hr, fin2⟩, fun e => absurd (by simp [bI, c]) e⟩
    have hle : rK v 30 ≤ 30 := fa_first_le _ 30
    refine ⟨fun c => M _ ?_, fun c => M _ ?_⟩
    · have := (nI_leI (b := 30) (by omega) (by decide)).mp c
      rw [if_pos (by omega)]
    · rw [if_neg (fun q => c (nI_le (b := 30) (by omega) (by decide)))]
theorem q_settled (hI : Inv us ua rs ra ra2 sa sl ns na nl yt im ms ma ml) (rs2 : A1) (mw : Nat → Int64) : P_X11_settled rs ra rs2 ra2 ns na nl (fun r _ ra2' ns' na' nl' => P_X12_settled ms mw ma ml (fun r' mt _ mb mk => r = r' ∧ Inv us ua rs ra ra2' sa sl ns' na' nl' yt im mt mb mk)) := by
  obtain ⟨v, hv, hC, hM, hP, hY, hK, hB, F⟩ := hI.get
  have fin := F ra2 ns na nl _ _ _ (MG.refl _ _ _) hM.1 hB hK
  rcases Nat.eq_zero_or_pos (v 2 0) with z | z
  · exact c_told0 hC z (b0t (m_rail0 hM.1 hv.1 z (b0t ⟨rfl, fin⟩)))
  · refine c_told hC hv.1 z (b1t (c_copyFrom hC hv.1 (fun rs' ra' hC1 hB1 _ => c_roundsOn (n := 30) hv hC1 hK (by decide) (fun ra3 ns' na' nl' hC3 hK3 => ?_))))
    obtain ⟨g1, g2⟩ := itr_ok hv (if rK v 30 < 30 then rK v 30 + 1 else 30)
    have M : ∀ (r : Int64) (ns' : A1) (na' : A2) (nl' : L2), NOK ns' na' nl' → r = (if rK v 30 < 30 then allL (itr v (if rK v 30 < 30 then rK v 30 + 1 else 30)) 2 else -1) → P_X12_settled ms mw ma ml (fun r' mt _ mb mk => r = r' ∧ Inv us ua rs ra ra3 sa sl ns' na' nl' yt im mt mb mk) := by
      intro r ns' na' nl' hK' hr
      refine m_rail hM.1 hv.1 z (b1t (m_laysAside hv.1 hM (fun mb h1 h2 => ?_)))
      refine m_settlesIn (n := 30) hv (hM.fr (fun i _ _ => h1 i (by omega)) rfl rfl) (by decide) (fun mt mw' mc mk hM' hG h20 h13 => ?_)
      refine m_allNow (w := 2) g1.1 g1.2.1 hM' (by decide) (fun mt2 mc2 mk2 hF => ?_)
      refine m_takesBack hv.1 g2 (hF.rm hM') (fun b hb => by rw [hF.2.1 20 (by decide) (by decide), h20]; exact h2 b hb) (fun md hMd hGd => ?_)
      have fin2 := F ra3 ns' na' nl' mt2 md mk2 ((((MG.of20 h1).trans hG).trans hF.g).trans (hGd _ _)) hMd.1 hC3.bok hK'
      rw [hF.1 13 (by decide), h13]
      by_cases c : rK v 30 < 30
      · rw [if_pos c] at hr
        exact ⟨fun e => absurd e (by simp [bI, c]), fun _ => ⟨hr, fin2⟩⟩
      · rw [if_neg c] at hr
        exact ⟨fun _ => ⟨hr, fin2⟩, fun e => absurd (by simp [bI, c]) e⟩
    have hle : rK v 30 ≤ 30 := fa_first_le _ 30
    refine ⟨fun c => c_allOn (w := 2) hC3 g1.1 hK3 (by decide) (fun n4 a4 l4 hK4 => M _ n4 a4 l4 hK4 ?_), fun c => M _ _ _ _ hK3 ?_⟩
    · have := (nI_leI (b := 30) (by omega) (by decide)).mp c
      rw [if_pos (show rK v 30 < 30 by omega), if_pos (show rK v 30 < 30 by omega)]
    · rw [if_neg (fun q => c (nI_le (b := 30) (by omega) (by decide)))]
theorem q_better (hI : Inv us ua rs ra ra2 sa sl ns na nl yt im ms ma ml) (p : Int32) : P_X11_better rs ra ns na nl p (fun r ra' ns' na' nl' => P_X12_better ms ma ml p (fun r' mt mb mk => r = r' ∧ Inv us ua rs ra' ra2 sa sl ns' na' nl' yt im mt mb mk)) := by
  obtain ⟨v, hv, hC, hM, hP, hY, hK, hB, F⟩ := hI.get
  have fin := F ra2 ns na nl _ _ _ (MG.refl _ _ _) hM.1 hB hK
  rcases Nat.eq_zero_or_pos (v 2 0) with z | z
  · exact c_told0 hC z (b0f (m_rail0 hM.1 hv.1 z (b0f ⟨rfl, fin⟩)))
  · rcases ixs p (n := 61) (by decide) with h | ⟨n, hn, rfl⟩
    · have M : P_X12_better ms ma ml p (fun r' mt mb mk => -2 = r' ∧ Inv us ua rs ra ra2 sa sl ns na nl yt im mt mb mk) := m_rail hM.1 hv.1 z (b1f (m_inL_bad (m := 60) h (by decide) (b0f ⟨rfl, fin⟩)))
      refine c_told hC hv.1 z (b1f ⟨fun _ => M, fun c => ⟨fun c2 => ?_, fun _ => M⟩⟩)
      exfalso
      have h2 := h.resolve_left c
      rw [Int32.le_iff_toInt_le, nI_toInt (by decide)] at h2
      rw [Int32.le_iff_toInt_le, show (60 : Int32).toInt = 60 from rfl] at c2
      omega
    · refine c_told hC hv.1 z (b1f ⟨fun c => absurd c (nI_pos (by omega)), fun _ => ⟨fun _ => ?_, fun c => absurd (nI_le (b := 60) (by omega) (by decide)) c⟩⟩)
      refine c_changesOn hv z hC hK (by omega) (fun ra' ns' na' nl' hC' hK' => ?_)
      refine m_rail hM.1 hv.1 z (b1f (m_inL_ok (m := 60) (by omega) (by decide) (b1f (m_betters hv hM (by omega) (fun mt mb mk hM' hG _ => ?_)))))
      obtain ⟨g1, g2⟩ := itb_ok hv (bK v n)
      exact ⟨rfl, hI.opts g1 g2 hP hY hC' hM' hG hB hK'⟩
theorem q_good (hI : Inv us ua rs ra ra2 sa sl ns na nl yt im ms ma ml) (rs2 : A1) : P_X11_good rs ra rs2 ra2 ns na nl (fun r _ ra2' ns' na' nl' => P_X12_good ms ma ml (fun r' mt mb mk => r = r' ∧ Inv us ua rs ra ra2' sa sl ns' na' nl' yt im mt mb mk)) := by
  obtain ⟨v, hv, hC, hM, hP, hY, hK, hB, F⟩ := hI.get
  have fin := F ra2 ns na nl _ _ _ (MG.refl _ _ _) hM.1 hB hK
  rcases Nat.eq_zero_or_pos (v 2 0) with z | z
  · exact c_told0 hC z (b0t (m_rail0 hM.1 hv.1 z (b0t ⟨rfl, fin⟩)))
  · obtain ⟨g1, g2⟩ := itb_ok hv (bK v 60)
    refine c_told hC hv.1 z (b1t (c_copyFrom hC hv.1 (fun rs' ra' hC1 hB1 _ => c_changesOn (n := 60) hv z hC1 hK (by decide) (fun ra3 ns' na' nl' hC3 hK3 => ?_))))
    refine c_allOn (w := 2) hC3 g1.1 hK3 (by decide) (fun n4 a4 l4 hK4 => ?_)
    refine m_rail hM.1 hv.1 z (b1t (m_laysAside hv.1 hM (fun mb h1 h2 => ?_)))
    refine m_betters (n := 60) hv (hM.fr (fun i _ _ => h1 i (by omega)) rfl rfl) (by decide) (fun mt mc mk hM' hG h20 => ?_)
    refine m_allNow (w := 2) g1.1 g1.2.1 hM' (by decide) (fun mt2 mc2 mk2 hF => ?_)
    refine m_takesBack hv.1 g2 (hF.rm hM') (fun b hb => by rw [hF.2.1 20 (by decide) (by decide), h20]; exact h2 b hb) (fun md hMd hGd => ?_)
    exact ⟨rfl, F ra3 n4 a4 l4 mt2 md mk2 ((((MG.of20 h1).trans hG).trans hF.g).trans (hGd _ _)) hMd.1 hC3.bok hK4⟩
end B
