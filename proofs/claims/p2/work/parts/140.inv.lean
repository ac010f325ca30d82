/-! what holds between the class and the reference, call by call -/
def okR (v : Rl) : Prop := okV v ∧ okJ v ∧ (v 2 0 = 0 → v 13 0 = 0)
abbrev A1 : Type := Nat → Int32
abbrev A2 : Type := Nat → Nat → Int32
abbrev L2 : Type := Nat → Nat → Int64
abbrev Img : Type := Nat → Option (A1 × A2)
def RI (v : Rl) (rs : A1) (ra : A2) (ma : A2) : Prop := okR v ∧ RelC v rs ra ∧ RelN v 0 ma ∧ RelT v 0 ma ∧ RelP v 0 ma ∧ RelY v 0 ma
def TapeR (us : A1) (ua : A2) (ms : A1) (ma : A2) : Prop := us 0 = ms 8 ∧ us 1 = ms 9 ∧ ∃ n : Nat, n ≤ 1600 ∧ us 2 = nI n ∧ ms 1 = nI n ∧ ∀ i, i < n → ua 0 i = ma 2 i
def BOK (ra : A2) : Prop := ∀ i, i < 10 → ra 8 i = 0 ∨ ra 8 i = 1
def SlotR (sa : A2) (sl : L2) (ma : A2) (ml : L2) : Prop := ∀ k, k < 4 → ∃ w n : Nat, w ≤ 4 ∧ n ≤ 60 ∧ sa 1 k = nI w ∧ ma 0 k = nI w - 1 ∧ sa 0 k = nI n ∧ ma 1 k = nI n ∧ ∀ i, i < n → sl 0 (60 * k + i) = ml 0 (60 * k + i)
def ImR (im : Img) (ma : A2) : Prop := ∀ k, k < 3 → match im k with
  | none => ma 17 k = 0
  | some q => ma 17 k = 1 ∧ ∃ v, okR v ∧ RelC v q.1 q.2 ∧ RelN v (k + 1) ma ∧ RelT v (k + 1) ma ∧ RelP v (k + 1) ma ∧ RelY v (k + 1) ma
def Inv (us : A1) (ua : A2) (rs : A1) (ra : A2) (ra2 : A2) (sa : A2) (sl : L2) (ns : A1) (na : A2) (nl : L2) (yt : Int32) (im : Img) (ms : A1) (ma : A2) (ml : L2) : Prop :=
  TapeR us ua ms ma ∧ (∃ v, RI v rs ra ma) ∧ BOK ra2 ∧ NOK ns na nl ∧ SlotR sa sl ma ml ∧ ImR im ma ∧ (ms 10 = 0 ∧ ms 11 = 0) ∧ (yt = 0 ∨ yt = 1)
/-- what of the reference's state stays in a call on the rail: all but rows of scratch, and row 0's bikes and settings -/
def MG (ms : A1) (ma : A2) (ml : L2) (mt : A1) (mb : A2) (mk : L2) : Prop := (∀ j, j ≠ 0 → j ≠ 12 → j ≠ 13 → mt j = ms j) ∧ (∀ j, j ≤ 17 → j ≠ 11 → j ≠ 14 → j ≠ 15 → mb j = ma j) ∧ (∀ x, 50 ≤ x → mb 11 x = ma 11 x) ∧ (∀ x, 7 ≤ x → mb 14 x = ma 14 x) ∧ mk 0 = ml 0
theorem MG.refl (ms : A1) (ma : A2) (ml : L2) : MG ms ma ml ms ma ml := ⟨fun _ _ _ _ => rfl, fun _ _ _ _ _ => rfl, fun _ _ => rfl, fun _ _ => rfl, rfl⟩
theorem MG.trans {ms ms1 ms2 : A1} {ma ma1 ma2 : A2} {ml ml1 ml2 : L2} (h : MG ms ma ml ms1 ma1 ml1) (g : MG ms1 ma1 ml1 ms2 ma2 ml2) : MG ms ma ml ms2 ma2 ml2 :=
  ⟨fun j a b c => (g.1 j a b c).trans (h.1 j a b c), fun j a b c d => (g.2.1 j a b c d).trans (h.2.1 j a b c d), fun x hx => (g.2.2.1 x hx).trans (h.2.2.1 x hx), fun x hx => (g.2.2.2.1 x hx).trans (h.2.2.2.1 x hx), g.2.2.2.2.trans h.2.2.2.2⟩
theorem MF.g {ms ms1 : A1} {ma ma1 : A2} {ml ml1 : L2} (h : MF ms ma ml ms1 ma1 ml1) : MG ms ma ml ms1 ma1 ml1 :=
  ⟨fun j _ b _ => h.1 j b, fun j a _ _ _ => h.2.1 j (by omega) (by omega), fun x _ => by rw [h.2.1 11 (by decide) (by decide)], fun x _ => by rw [h.2.1 14 (by decide) (by decide)], h.2.2 0 (by decide) (by decide) (by decide)⟩
theorem MG.z (ms : A1) (ma : A2) (ml : L2) : MG ms ma ml (va_up ms 0 0) ma ml := ⟨fun j a _ _ => up_ne a, fun _ _ _ _ _ => rfl, fun _ _ => rfl, fun _ _ => rfl, rfl⟩
theorem RelN.row {v : Rl} {j : Nat} {ma mb : A2} (h : RelN v j ma) (hj : 1 ≤ j) (h13 : v 13 0 ≤ 10) (e : ∀ i, i ≤ 17 → i ≠ 11 → i ≠ 14 → i ≠ 15 → mb i = ma i) (e11 : ∀ x, 50 ≤ x → mb 11 x = ma 11 x) (e14 : ∀ x, 7 ≤ x → mb 14 x = ma 14 x) : RelN v j mb := by
  unfold RelN at h ⊢
  simp only [e 3 (by decide) (by decide) (by decide) (by decide), e 4 (by decide) (by decide) (by decide) (by decide), e 5 (by decide) (by decide) (by decide) (by decide), e 8 (by decide) (by decide) (by decide) (by decide), e 9 (by decide) (by decide) (by decide) (by decide), e 10 (by decide) (by decide) (by decide) (by decide)]
  obtain ⟨a, b, c, d, f1, f2, f3, f4, f5, f6, f7⟩ := h
  refine ⟨a, b, c, fun b hb => ?_, ?_⟩
  · rw [e11 _ (by omega), e11 _ (by omega), e11 _ (by omega), e11 _ (by omega), e11 _ (by omega)]
    exact d b hb
  · rw [e14 _ (by omega), e14 _ (by omega), e14 _ (by omega), e14 _ (by omega), e14 _ (by omega), e14 _ (by omega), e14 _ (by omega)]
    exact ⟨f1, f2, f3, f4, f5, f6, f7⟩
theorem RelT.eq {v : Rl} {j : Nat} {ma mb : A2} (h : RelT v j ma) (e12 : mb 12 = ma 12) (e13 : mb 13 = ma 13) : RelT v j mb := by
  unfold RelT at h ⊢
  rw [e12, e13]
  exact h
theorem RelP.eq {v : Rl} {j : Nat} {ma mb : A2} (h : RelP v j ma) (e6 : mb 6 = ma 6) (e7 : mb 7 = ma 7) : RelP v j mb := by
  unfold RelP at h ⊢
  rw [e6, e7]
  exact h
theorem RelY.eq {v : Rl} {j : Nat} {ma mb : A2} (h : RelY v j ma) (e16 : mb 16 = ma 16) : RelY v j mb := by
  unfold RelY at h ⊢
  rw [e16]
  exact h
theorem ImR.g {im : Img} {ma mb : A2} (h : ImR im ma) (e : ∀ i, i ≤ 17 → i ≠ 11 → i ≠ 14 → i ≠ 15 → mb i = ma i) (e11 : ∀ x, 50 ≤ x → mb 11 x = ma 11 x) (e14 : ∀ x, 7 ≤ x → mb 14 x = ma 14 x) : ImR im mb := by
  intro k hk
  have hh := h k hk
  cases hm : im k with
  | none =>
    rw [hm] at hh
    simp only at hh ⊢
    rw [e 17 (by decide) (by decide) (by decide) (by decide)]
    exact hh
  | some q =>
    rw [hm] at hh
    simp only at hh ⊢
    rw [e 17 (by decide) (by decide) (by decide) (by decide)]
    obtain ⟨h0, v, h1, h2, h3, h4, h5, h6⟩ := hh
    exact ⟨h0, v, h1, h2, h3.row (by omega) (ok13 h1.1) e e11 e14, h4.eq (e 12 (by decide) (by decide) (by decide) (by decide)) (e 13 (by decide) (by decide) (by decide) (by decide)), h5.eq (e 6 (by decide) (by decide) (by decide) (by decide)) (e 7 (by decide) (by decide) (by decide) (by decide)), h6.eq (e 16 (by decide) (by decide) (by decide) (by decide))⟩
/-- a call on the rail keeps all, if it keeps the rail -/
theorem Inv.step {us : A1} {ua : A2} {rs : A1} {ra ra2 sa : A2} {sl : L2} {ns : A1} {na : A2} {nl : L2} {yt : Int32} {im : Img} {ms : A1} {ma : A2} {ml : L2} (h : Inv us ua rs ra ra2 sa sl ns na nl yt im ms ma ml) {rs' : A1} {ra' ra2' : A2} {ns' : A1} {na' : A2} {nl' : L2} {mt : A1} {mb : A2} {mk : L2} (hG : MG ms ma ml mt mb mk) {v' : Rl} (hv' : okR v') (hC : RelC v' rs' ra') (hN : RelN v' 0 mb) (hT : RelT v' 0 mb) (hP : RelP v' 0 mb) (hY : RelY v' 0 mb) (hB : BOK ra2') (hK : NOK ns' na' nl') : Inv us ua rs' ra' ra2' sa sl ns' na' nl' yt im mt mb mk := by
  obtain ⟨⟨t1, t2, n, t3, t4, t5, t6⟩, -, -, -, hS, hI, ⟨h10, h11⟩, hy⟩ := h
  refine ⟨⟨t1.trans (hG.1 8 (by decide) (by decide) (by decide)).symm, t2.trans (hG.1 9 (by decide) (by decide) (by decide)).symm, n, t3, t4, (hG.1 1 (by decide) (by decide) (by decide)).trans t5, fun i hi => by rw [hG.2.1 2 (by decide) (by decide) (by decide) (by decide)]; exact t6 i hi⟩, ⟨v', hv', hC, hN, hT, hP, hY⟩, hB, hK, fun k hk => ?_, hI.g hG.2.1 hG.2.2.1 hG.2.2.2.1, ⟨(hG.1 10 (by decide) (by decide) (by decide)).trans h10, (hG.1 11 (by decide) (by decide) (by decide)).trans h11⟩, hy⟩
  rw [hG.2.1 0 (by decide) (by decide) (by decide) (by decide), hG.2.1 1 (by decide) (by decide) (by decide) (by decide), hG.2.2.2.2]
  exact hS k hk
/-- a call that leaves row 0's rail as it is -/
theorem Inv.same {us : A1} {ua : A2} {rs : A1} {ra ra2 sa : A2} {sl : L2} {ns : A1} {na : A2} {nl : L2} {yt : Int32} {im : Img} {ms : A1} {ma : A2} {ml : L2} (h : Inv us ua rs ra ra2 sa sl ns na nl yt im ms ma ml) {v : Rl} (hv : okR v) (hC : RelC v rs ra) (hT : RelT v 0 ma) (hP : RelP v 0 ma) (hY : RelY v 0 ma) {ra2' : A2} {ns' : A1} {na' : A2} {nl' : L2} {mt : A1} {mb : A2} {mk : L2} (hG : MG ms ma ml mt mb mk) (hN : RelN v 0 mb) (hB : BOK ra2') (hK : NOK ns' na' nl') : Inv us ua rs ra ra2' sa sl ns' na' nl' yt im mt mb mk :=
  h.step hG hv hC hN (hT.eq (hG.2.1 12 (by decide) (by decide) (by decide) (by decide)) (hG.2.1 13 (by decide) (by decide) (by decide) (by decide))) (hP.eq (hG.2.1 6 (by decide) (by decide) (by decide) (by decide)) (hG.2.1 7 (by decide) (by decide) (by decide) (by decide))) (hY.eq (hG.2.1 16 (by decide) (by decide) (by decide) (by decide))) hB hK
/-! tests of a number's bounds -/
theorem wide0 {p : Int32} : p.toInt64 < 0 ↔ p < 0 := fa_wide_lt p 0
theorem m_in_ok {j n : Nat} (h : j < n) (hn : n < 2 ^ 30) {post : Int32 → Prop} (hp : post 1) : P_X12_in (nI j).toInt64 0 ((nI n - 1).toInt64) post := by
  refine ⟨fun c => absurd (wide0.mp c) (nI_pos (by omega)), fun _ => ⟨fun c => absurd ((fa_wide_lt _ _).mp c) ?_, fun _ => hp⟩⟩
  rw [nI_pre (by omega)]
  exact nI_nlt (by omega) (by omega)
theorem m_in_bad {p : Int32} {n : Nat} (h : p < 0 ∨ nI n ≤ p) (hn : n < 2 ^ 30) {post : Int32 → Prop} (hp : post 0) : P_X12_in p.toInt64 0 ((nI n - 1).toInt64) post := by
  refine ⟨fun _ => hp, fun c => ⟨fun _ => hp, fun c2 => absurd ((fa_wide_lt _ _).mpr ?_) c2⟩⟩
  rw [wide0] at c
  have h2 : nI n ≤ p := h.resolve_left c
  rw [Int32.lt_iff_toInt_lt, show (1 : Int32) = nI 1 from rfl, nS (by omega) (by decide)]
  rw [Int32.le_iff_toInt_le, nI_toInt (by omega)] at h2
  omega
/-- bounds 0 .. m, as a literal -/
theorem m_inL_ok {j m : Nat} (h : j ≤ m) (hm : m < 2 ^ 30) {post : Int32 → Prop} (hp : post 1) : P_X12_in (nI j).toInt64 0 (lN m) post := by
  rw [nI_l (by omega)]
  refine ⟨fun c => absurd ((lN_lt (b := 0) (by omega) (by decide)).mp c) (by omega), fun _ => ⟨fun c => absurd ((lN_lt (by omega) (by omega)).mp c) (by omega), fun _ => hp⟩⟩
theorem m_inL_bad {p : Int32} {m : Nat} (h : p < 0 ∨ nI (m + 1) ≤ p) (hm : m < 2 ^ 30) {post : Int32 → Prop} (hp : post 0) : P_X12_in p.toInt64 0 (lN m) post := by
  refine ⟨fun _ => hp, fun c => ⟨fun _ => hp, fun c2 => absurd ?_ c2⟩⟩
  rw [wide0] at c
  have h2 : nI (m + 1) ≤ p := h.resolve_left c
  rw [← nI_l (by omega), fa_wide_lt, Int32.lt_iff_toInt_lt, nI_toInt (by omega)]
  rw [Int32.le_iff_toInt_le, nI_toInt (by omega)] at h2
  omega
section HAS
variable {v : Rl} {rs : A1} {ra ma : A2} {post : Int32 → Prop} {p : Int32} {j : Nat}
theorem c_hasP (hR : RelC v rs ra) (hv : okV v) (h : j < v 0 0) (hp : post 1) : P_X4_hasPlace rs (nI j) post := by
  have := ok0 hv
  exact ⟨fun c => absurd c (nI_pos (by omega)), fun _ => ⟨fun c => absurd ((cmp_le (rc_s hR 0) (by omega) (by omega)).mp c) (by omega), fun _ => hp⟩⟩
theorem c_hasP0 (hR : RelC v rs ra) (h : p < 0 ∨ nI (v 0 0) ≤ p) (hp : post 0) : P_X4_hasPlace rs p post :=
  ⟨fun _ => hp, fun c => ⟨fun _ => hp, fun c2 => absurd (by rw [rc_s hR 0]; exact h.resolve_left c) c2⟩⟩
theorem c_hasB (hR : RelC v rs ra) (hv : okV v) (h : j < v 13 0) (hp : post 1) : P_X4_hasBike rs (nI j) post := by
  have := ok13 hv
  exact ⟨fun c => absurd c (nI_pos (by omega)), fun _ => ⟨fun c => absurd ((cmp_le (rc_s hR 13) (by omega) (by omega)).mp c) (by omega), fun _ => hp⟩⟩
theorem c_hasB0 (hR : RelC v rs ra) (h : p < 0 ∨ nI (v 13 0) ≤ p) (hp : post 0) : P_X4_hasBike rs p post :=
  ⟨fun _ => hp, fun c => ⟨fun _ => hp, fun c2 => absurd (by rw [rc_s hR 13]; exact h.resolve_left c) c2⟩⟩
theorem c_hasT (hR : RelC v rs ra) (hv : okV v) (h : j < v 14 0) (hp : post 1) : P_X4_hasThief rs (nI j) post := by
  have := ok14 hv
  exact ⟨fun c => absurd c (nI_pos (by omega)), fun _ => ⟨fun c => absurd ((cmp_le (rc_s hR 14) (by omega) (by omega)).mp c) (by omega), fun _ => hp⟩⟩
theorem c_hasT0 (hR : RelC v rs ra) (h : p < 0 ∨ nI (v 14 0) ≤ p) (hp : post 0) : P_X4_hasThief rs p post :=
  ⟨fun _ => hp, fun c => ⟨fun _ => hp, fun c2 => absurd (by rw [rc_s hR 14]; exact h.resolve_left c) c2⟩⟩
theorem c_hasL (hR : RelC v rs ra) (hv : okV v) (h : j < v 12 0) (hp : post 1) : P_X4_hasLock rs (nI j) post := by
  have := ok12 hv
  exact ⟨fun c => absurd c (nI_pos (by omega)), fun _ => ⟨fun c => absurd ((cmp_le (rc_s hR 12) (by omega) (by omega)).mp c) (by omega), fun _ => hp⟩⟩
theorem c_hasL0 (hR : RelC v rs ra) (h : p < 0 ∨ nI (v 12 0) ≤ p) (hp : post 0) : P_X4_hasLock rs p post :=
  ⟨fun _ => hp, fun c => ⟨fun _ => hp, fun c2 => absurd (by rw [rc_s hR 12]; exact h.resolve_left c) c2⟩⟩
theorem c_told (hR : RelC v rs ra) (hv : okV v) (h : 0 < v 2 0) (hp : post 1) : P_X4_isTold rs post := by
  have := ok2 hv
  exact ⟨fun c => absurd ((cmp_le (i := 0) (rc_s hR 2) (by omega) (by decide)).mp c) (by omega), fun _ => hp⟩
theorem c_told0 (hR : RelC v rs ra) (h : v 2 0 = 0) (hp : post 0) : P_X4_isTold rs post :=
  ⟨fun _ => hp, fun c => absurd (by rw [rc_s hR 2, h]; decide) c⟩
theorem c_options (hR : RelC v rs ra) (hv : okV v) (h : 0 < v 2 0) (hp : post (nI (2 * (v 12 0 + 1)))) : P_X4_options rs post := by
  refine c_told hR hv h ⟨fun c => absurd c (by decide), fun _ => ?_⟩
  rw [rc_s hR 12, nI_1, show (2 : Int32) = nI 2 from rfl, pk_mul]
  exact hp
theorem c_hasO (hR : RelC v rs ra) (hv : okV v) (ht : 0 < v 2 0) (h : j < 2 * (v 12 0 + 1)) (hp : post 1) : P_X4_hasOption rs (nI j) post := by
  have := ok12 hv
  refine ⟨fun c => absurd c (nI_pos (by omega)), fun _ => c_options hR hv ht ⟨fun c => absurd ((nI_leI (by omega) (by omega)).mp c) (by omega), fun _ => hp⟩⟩
theorem c_hasO0 (hR : RelC v rs ra) (hv : okV v) (ht : 0 < v 2 0) (h : p < 0 ∨ nI (2 * (v 12 0 + 1)) ≤ p) (hp : post 0) : P_X4_hasOption rs p post :=
  ⟨fun _ => hp, fun c => c_options hR hv ht ⟨fun _ => hp, fun c2 => absurd (h.resolve_left c) c2⟩⟩
theorem c_hasS (hR : RelC v rs ra) (hv : okV v) (h : j < 2 ^ v 13 0) (hp : post 1) : P_X4_hasSet rs (nI j) post := by
  have h13 := ok13 hv
  have hn := pow13 h13
  unfold P_X4_hasSet
  rw [rc_s hR 13, sh1 (by omega)]
  exact ⟨fun c => absurd c (nI_pos (by omega)), fun _ => ⟨fun c => absurd ((nI_leI (by omega) (by omega)).mp c) (by omega), fun _ => hp⟩⟩
theorem c_hasS0 (hR : RelC v rs ra) (hv : okV v) (h : p < 0 ∨ nI (2 ^ v 13 0) ≤ p) (hp : post 0) : P_X4_hasSet rs p post := by
  have h13 := ok13 hv
  unfold P_X4_hasSet
  rw [rc_s hR 13, sh1 (by omega)]
  exact ⟨fun _ => hp, fun c => ⟨fun _ => hp, fun c2 => absurd (h.resolve_left c) c2⟩⟩
theorem m_rail (hN : RelN v 0 ma) (hv : okV v) (h : 0 < v 2 0) (hp : post 1) : P_X12_isRail ma post := by
  have h0 := ok0 hv
  have hz := hv.1.2.2.2.2.2.2.2.2.2.2.2.2.2.2.2.2
  have : 0 < v 0 0 := by omega
  exact ⟨fun c => absurd ((cmp_le (i := 0) (show ma 4 0 = nI (v 0 0) from hN.1.2.1) (by omega) (by decide)).mp c) (by omega), fun _ => hp⟩
theorem m_rail0 (hN : RelN v 0 ma) (hv : okV v) (h : v 2 0 = 0) (hp : post 0) : P_X12_isRail ma post := by
  have hz := hv.1.2.2.2.2.2.2.2.2.2.2.2.2.2.2.2.2
  have : v 0 0 = 0 := by omega
  exact ⟨fun _ => hp, fun c => absurd (by rw [show ma 4 0 = nI (v 0 0) from hN.1.2.1, this]; decide) c⟩
theorem m_isP (hN : RelN v 0 ma) (hv : okV v) (h : j < v 0 0) (hp : post 1) : P_X12_isPlace ma (nI j) post := by
  have := ok0 hv
  unfold P_X12_isPlace
  rw [show ma 4 0 = nI (v 0 0) from hN.1.2.1]
  exact m_in_ok h (by omega) ⟨Or.inr rfl, hp⟩
theorem m_isP0 (hN : RelN v 0 ma) (hv : okV v) (h : p < 0 ∨ nI (v 0 0) ≤ p) (hp : post 0) : P_X12_isPlace ma p post := by
  have := ok0 hv
  unfold P_X12_isPlace
  rw [show ma 4 0 = nI (v 0 0) from hN.1.2.1]
  exact m_in_bad h (by omega) ⟨Or.inl rfl, hp⟩
theorem m_isB (hN : RelN v 0 ma) (hv : okV v) (h : j < v 13 0) (hp : post 1) : P_X12_isBike ma (nI j) post := by
  have := ok13 hv
  unfold P_X12_isBike
  rw [show ma 10 0 = nI (v 13 0) from hN.1.2.2.2.2]
  exact m_in_ok h (by omega) ⟨Or.inr rfl, hp⟩
theorem m_isB0 (hN : RelN v 0 ma) (hv : okV v) (h : p < 0 ∨ nI (v 13 0) ≤ p) (hp : post 0) : P_X12_isBike ma p post := by
  have := ok13 hv
  unfold P_X12_isBike
  rw [show ma 10 0 = nI (v 13 0) from hN.1.2.2.2.2]
  exact m_in_bad h (by omega) ⟨Or.inl rfl, hp⟩
theorem m_isT (hT : RelT v 0 ma) (hv : okV v) (h : j < v 14 0) (hp : post 1) : P_X12_isThief ma (nI j) post := by
  have := ok14 hv
  unfold P_X12_isThief
  rw [show ma 12 0 = nI (v 14 0) from hT.1]
  exact m_in_ok h (by omega) ⟨Or.inr rfl, hp⟩
theorem m_isT0 (hT : RelT v 0 ma) (hv : okV v) (h : p < 0 ∨ nI (v 14 0) ≤ p) (hp : post 0) : P_X12_isThief ma p post := by
  have := ok14 hv
  unfold P_X12_isThief
  rw [show ma 12 0 = nI (v 14 0) from hT.1]
  exact m_in_bad h (by omega) ⟨Or.inl rfl, hp⟩
theorem m_optionMany (hN : RelN v 0 ma) (hp : post (nI (2 * (v 12 0 + 1)))) : P_X12_optionMany ma post := by
  unfold P_X12_optionMany
  rw [show ma 8 0 = nI (v 12 0) from hN.1.2.2.2.1, nI_1, show (2 : Int32) = nI 2 from rfl, pk_mul]
  exact hp
theorem m_isO (hN : RelN v 0 ma) (hv : okV v) (h : j < 2 * (v 12 0 + 1)) (hp : post 1) : P_X12_isOption ma (nI j) post := by
  have := ok12 hv
  exact m_optionMany hN (m_in_ok h (by omega) ⟨Or.inr rfl, hp⟩)
theorem m_isO0 (hN : RelN v 0 ma) (hv : okV v) (h : p < 0 ∨ nI (2 * (v 12 0 + 1)) ≤ p) (hp : post 0) : P_X12_isOption ma p post := by
  have := ok12 hv
  exact m_optionMany hN (m_in_bad h (by omega) ⟨Or.inl rfl, hp⟩)
theorem m_inS (hN : RelN v 0 ma) (hv : okV v) (h : j < 2 ^ v 13 0) (hp : post 1) : P_X12_in (nI j).toInt64 0 ((((1 : Int32) <<< ((ma 10 0) &&& 31)) - 1).toInt64) post := by
  have h13 := ok13 hv
  have hn := pow13 h13
  rw [show ma 10 0 = nI (v 13 0) from hN.1.2.2.2.2, sh1 (by omega)]
  exact m_in_ok h (by omega) hp
theorem m_inS0 (hN : RelN v 0 ma) (hv : okV v) (h : p < 0 ∨ nI (2 ^ v 13 0) ≤ p) (hp : post 0) : P_X12_in p.toInt64 0 ((((1 : Int32) <<< ((ma 10 0) &&& 31)) - 1).toInt64) post := by
  have h13 := ok13 hv
  have hn := pow13 h13
  rw [show ma 10 0 = nI (v 13 0) from hN.1.2.2.2.2, sh1 (by omega)]
  exact m_in_bad h (by omega) hp
end HAS
/-- a number is out of 0 .. n less 1, or in -/
theorem ixs (p : Int32) {n : Nat} (hn : n < 2 ^ 31) : (p < 0 ∨ nI n ≤ p) ∨ ∃ j, j < n ∧ p = nI j := by
  rcases pk_ix p hn with h | h | h
  · exact Or.inl (Or.inl h)
  · exact Or.inl (Or.inr h)
  · exact Or.inr h
theorem b1f {A B : Prop} (h : B) : ((1 : Int32) = 0 → A) ∧ ((¬ (1 : Int32) = 0) → B) := ⟨fun c => absurd c (by decide), fun _ => h⟩
theorem b1t {A B : Prop} (h : A) : ((¬ (1 : Int32) = 0) → A) ∧ ((1 : Int32) = 0 → B) := ⟨fun _ => h, fun c => absurd c (by decide)⟩
theorem b0f {A B : Prop} (h : A) : ((0 : Int32) = 0 → A) ∧ ((¬ (0 : Int32) = 0) → B) := ⟨fun _ => h, fun c => absurd rfl c⟩
theorem b0t {A B : Prop} (h : B) : ((¬ (0 : Int32) = 0) → A) ∧ ((0 : Int32) = 0 → B) := ⟨fun c => absurd rfl c, fun _ => h⟩
/-- the marks of the bikes are copied one by one -/
theorem c_cpMarks {ec : Int32} {ew es ep el em : Nat → Int32} (hm : ∀ i, i < 10 → em i = 0 ∨ em i = 1) {ac : Int32} {aw as_ ap al am : Nat → Int32} {post : Int32 → (Nat → Int32) → (Nat → Int32) → (Nat → Int32) → (Nat → Int32) → (Nat → Int32) → Prop} (h : ∀ mr : Nat → Int32, (∀ i, i < 10 → mr i = em i) → post ac aw as_ ap al mr) : ∃ n : Nat, P_X0_copyFrom_82 ec ew es ep el em post ac aw as_ ap al n 0 am := by
  have L : ∀ (d i : Nat) (mr : Nat → Int32), i + d = 10 → (∀ c, c < i → mr c = em c) → P_X0_copyFrom_82 ec ew es ep el em post ac aw as_ ap al (d + 1) (nI i) mr := by
    intro d
    induction d with
    | zero =>
      intro i mr hi r1
      obtain rfl : i = 10 := by omega
      exact ⟨fun _ => h mr r1, fun c => absurd (show (10 : Int32) ≤ nI 10 by decide) c⟩
    | succ d ih =>
      intro i mr hi r1
      have hlt : ¬ (10 : Int32) ≤ nI i := fun c => absurd ((nI_leI (a := 10) (b := i) (by decide) (by omega)).mp c) (by omega)
      refine ⟨fun c => absurd c hlt, fun _ => ⟨vp_in_nI (by omega) (by decide), vp_in_nI (by omega) (by decide), ?_⟩⟩
      rw [nI_1, nI_clamp (by omega)]
      refine ⟨hm i (by omega), ih (i + 1) _ (by omega) (fun c hc => ?_)⟩
      by_cases e : c = i
      · rw [e, u_at]
      · rw [u_ne e]; exact r1 c (by omega)
  exact ⟨11, L 10 0 am rfl (fun c hc => absurd hc (Nat.not_lt_zero _))⟩
/-- a copy of a rail -/
theorem c_copyFrom {v : Rl} {rs : A1} {ra : A2} (hR : RelC v rs ra) (hv : okV v) {rs2 : A1} {ra2 : A2} {post : A1 → A2 → Prop} (h : ∀ (rs' : A1) (ra' : A2), RelC v rs' ra' → BOK ra' → (∀ j, j < 16 → rs' j = rs j) → post rs' ra') : P_X4_copyFrom rs2 ra2 rs ra post := by
  have hb : ∀ j, j < 16 → v j 0 ≤ 1 → rs j = 0 ∨ rs j = 1 := fun j hj hle => by
    rw [hR.1 j hj]
    rcases Nat.lt_or_ge (v j 0) 1 with c | c
    · rw [show v j 0 = 0 by omega]; exact Or.inl rfl
    · rw [show v j 0 = 1 by omega]; exact Or.inr rfl
  have h13 := ok13 hv
  have h14 := ok14 hv
  have h12 := ok12 hv
  have h11 := ok11 hv
  obtain ⟨r0, r1, r2, r3, r4, r5, r6, r7⟩ := hR
  intro x1 e1 x2 e2 x3 e3
  refine c_cpMarks r7 (fun mr hmr => ?_)
  intro x22 e22
  refine ⟨by rw [e22]; exact hb 3 (by decide) hv.1.2.2.2.1, ?_⟩
  intro x23 e23 x24 e24 x25 e25
  refine ⟨by rw [e25]; exact hb 6 (by decide) (ok6 hv), ?_⟩
  intro x26 e26
  refine ⟨by rw [e26]; exact hb 7 (by decide) (ok7 hv), ?_⟩
  intro x27 e27 x28 e28 x29 e29
  refine ⟨by rw [e29]; exact hb 10 (by decide) (ok10 hv), hb 15 (by decide) (ok15 hv), ?_⟩
  subst e1 e2 e3 e22 e23 e24 e25 e26 e27 e28 e29
  have ers : ∀ j, j < 16 → (va_up (va_up (va_up (va_up (va_up (va_up (va_up (va_up (va_up (va_up (va_up (va_up (va_up (va_up (va_up (va_up rs2 0 (rs 0)) 1 (rs 1)) 2 (rs 2)) 3 (rs 3)) 4 (rs 4)) 5 (rs 5)) 6 (rs 6)) 7 (rs 7)) 8 (rs 8)) 9 (rs 9)) 10 (rs 10)) 11 (rs 11)) 12 (rs 12)) 13 (rs 13)) 14 (rs 14)) 15 (rs 15)) j = rs j := by
    intro j hj
    have : j = 0 ∨ j = 1 ∨ j = 2 ∨ j = 3 ∨ j = 4 ∨ j = 5 ∨ j = 6 ∨ j = 7 ∨ j = 8 ∨ j = 9 ∨ j = 10 ∨ j = 11 ∨ j = 12 ∨ j = 13 ∨ j = 14 ∨ j = 15 := by omega
    rcases this with rfl | rfl | rfl | rfl | rfl | rfl | rfl | rfl | rfl | rfl | rfl | rfl | rfl | rfl | rfl | rfl <;> simp [va_up]
  have cp : ∀ (f g : Nat → Int32) (n k : Nat), k < n → va_cpy f g 0 0 n k = f k := fun f g n k hk => by rw [pk_cpy_in (Nat.zero_le _) (by omega)]; congr 1; omega
  refine h _ _ ⟨fun j hj => (ers j hj).trans (r0 j hj), fun k hk => ?_, fun k hk => ?_, fun k hk => ?_, fun b hb => ?_, fun t ht => ?_, fun hy => ⟨fun b hb => ?_, fun t ht => ?_⟩, fun b hb => ?_⟩ (fun b hb => ?_) ers
  all_goals simp only [va_up]
  all_goals simp only [Nat.reduceEqDiff, if_false, if_true]
  · rw [cp _ _ _ _ (by omega), cp _ _ _ _ (by omega)]; exact r1 k hk
  · rw [cp _ _ _ _ (by omega)]; exact r2 k hk
  · rw [cp _ _ _ _ (by omega)]; exact r3 k hk
  · rw [cp _ _ _ _ (by omega), cp _ _ _ _ (by omega), cp _ _ _ _ (by omega), cp _ _ _ _ (by omega), hmr b (by omega)]; exact r4 b hb
  · rw [cp _ _ _ _ (by omega), cp _ _ _ _ (by omega), cp _ _ _ _ (by omega), cp _ _ _ _ (by omega), cp _ _ _ _ (by omega)]; exact r5 t ht
  · rw [cp _ _ _ _ hb]; exact (r6 hy).1 b hb
  · rw [cp _ _ _ _ ht]; exact (r6 hy).2 t ht
  · rw [hmr b hb]; exact r7 b hb
  · rw [hmr b hb]; exact r7 b hb
theorem RelC.bok {v : Rl} {rs : A1} {ra : A2} (h : RelC v rs ra) : BOK ra := h.2.2.2.2.2.2.2
/-! a bike's option -/
def vo (v : Rl) (b o : Nat) : Rl := fun f k => if f = 23 ∧ k = b then o / 2 else if f = 24 ∧ k = b then o % 2 else v f k
def opt (v : Rl) (b : Nat) : Nat := 2 * v 23 b + v 24 b
theorem vo_f {v : Rl} {b o f : Nat} (h1 : f ≠ 23) (h2 : f ≠ 24) : vo v b o f = v f := by
  funext k
  unfold vo
  rw [if_neg (by omega), if_neg (by omega)]
theorem vo_23 (v : Rl) (b o k : Nat) : vo v b o 23 k = if k = b then o / 2 else v 23 k := by
  unfold vo
  by_cases c : k = b
  · simp [c]
  · simp [c]
theorem vo_24 (v : Rl) (b o k : Nat) : vo v b o 24 k = if k = b then o % 2 else v 24 k := by
  unfold vo
  by_cases c : k = b
  · simp [c]
  · simp [c]
theorem vo_vo (v : Rl) (b o o' : Nat) : vo (vo v b o) b o' = vo v b o' := by
  funext f k
  unfold vo
  by_cases c1 : f = 23 ∧ k = b
  · rw [if_pos c1, if_pos c1]
  · rw [if_neg c1, if_neg c1, if_neg c1]
    by_cases c2 : f = 24 ∧ k = b
    · rw [if_pos c2, if_pos c2]
    · rw [if_neg c2, if_neg c2, if_neg c2]
theorem vo_opt {v : Rl} {b : Nat} (h : v 24 b ≤ 1) : vo v b (opt v b) = v := by
  funext f k
  unfold vo opt
  by_cases c1 : f = 23 ∧ k = b
  · rw [if_pos c1, c1.1, c1.2]; omega
  · rw [if_neg c1]
    by_cases c2 : f = 24 ∧ k = b
    · rw [if_pos c2, c2.1, c2.2]; omega
    · rw [if_neg c2]
theorem opt_vo (v : Rl) (b o : Nat) : opt (vo v b o) b = o := by
  unfold opt
  rw [vo_23, vo_24, if_pos rfl, if_pos rfl]
  omega
theorem opt_lt {v : Rl} (hv : okV v) {b : Nat} (hb : b < v 13 0) : opt v b < 2 * (v 12 0 + 1) := by
  obtain ⟨-, -, -, b23, b24⟩ := hv.2.2.2.2.1 b hb
  unfold opt
  omega
theorem okV.vo {v : Rl} (hv : okV v) {b o : Nat} (ho : o < 2 * (v 12 0 + 1)) : okV (vo v b o) := by
  obtain ⟨h0, h1, h2, h3, h4, h5, h6⟩ := hv
  unfold okV
  simp only [vo_f (v := v) (b := b) (o := o) (f := 0) (by decide) (by decide), vo_f (v := v) (b := b) (o := o) (f := 1) (by decide) (by decide), vo_f (v := v) (b := b) (o := o) (f := 2) (by decide) (by decide), vo_f (v := v) (b := b) (o := o) (f := 3) (by decide) (by decide), vo_f (v := v) (b := b) (o := o) (f := 4) (by decide) (by decide), vo_f (v := v) (b := b) (o := o) (f := 5) (by decide) (by decide), vo_f (v := v) (b := b) (o := o) (f := 6) (by decide) (by decide), vo_f (v := v) (b := b) (o := o) (f := 7) (by decide) (by decide), vo_f (v := v) (b := b) (o := o) (f := 8) (by decide) (by decide), vo_f (v := v) (b := b) (o := o) (f := 9) (by decide) (by decide), vo_f (v := v) (b := b) (o := o) (f := 10) (by decide) (by decide), vo_f (v := v) (b := b) (o := o) (f := 11) (by decide) (by decide), vo_f (v := v) (b := b) (o := o) (f := 12) (by decide) (by decide), vo_f (v := v) (b := b) (o := o) (f := 13) (by decide) (by decide), vo_f (v := v) (b := b) (o := o) (f := 14) (by decide) (by decide), vo_f (v := v) (b := b) (o := o) (f := 15) (by decide) (by decide), vo_f (v := v) (b := b) (o := o) (f := 16) (by decide) (by decide), vo_f (v := v) (b := b) (o := o) (f := 17) (by decide) (by decide), vo_f (v := v) (b := b) (o := o) (f := 18) (by decide) (by decide), vo_f (v := v) (b := b) (o := o) (f := 19) (by decide) (by decide), vo_f (v := v) (b := b) (o := o) (f := 20) (by decide) (by decide), vo_f (v := v) (b := b) (o := o) (f := 21) (by decide) (by decide), vo_f (v := v) (b := b) (o := o) (f := 22) (by decide) (by decide), vo_f (v := v) (b := b) (o := o) (f := 25) (by decide) (by decide), vo_f (v := v) (b := b) (o := o) (f := 26) (by decide) (by decide), vo_f (v := v) (b := b) (o := o) (f := 27) (by decide) (by decide), vo_f (v := v) (b := b) (o := o) (f := 28) (by decide) (by decide), vo_f (v := v) (b := b) (o := o) (f := 29) (by decide) (by decide)]
  refine ⟨h0, h1, h2, h3, fun k hk => ?_, h5, h6⟩
  obtain ⟨a, b', c, d, e⟩ := h4 k hk
  rw [vo_23, vo_24]
  refine ⟨a, b', c, ?_, ?_⟩ <;> split <;> omega
theorem okR.vo {v : Rl} (hv : okR v) {b o : Nat} (ho : o < 2 * (v 12 0 + 1)) : okR (vo v b o) := by
  refine ⟨hv.1.vo ho, fun t ht => ?_, fun h => ?_⟩
  · rw [vo_f (by decide) (by decide), vo_f (by decide) (by decide)]
    rw [vo_f (by decide) (by decide)] at ht
    exact hv.2.1 t ht
  · rw [vo_f (by decide) (by decide)] at h ⊢
    exact hv.2.2 h
