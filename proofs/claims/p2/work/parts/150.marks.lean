/-! promises 40, 41: marks -/
def vm (v : Rl) (S : Nat → Bool) : Rl := fun f k => if f = 24 ∧ k < v 13 0 then (if S k then 1 else 0) else v f k
theorem vm_f {v : Rl} {S : Nat → Bool} {f : Nat} (h : f ≠ 24) : vm v S f = v f := by
  funext k
  unfold vm
  rw [if_neg (fun q => h q.1)]
theorem vm_24 {v : Rl} {S : Nat → Bool} {k : Nat} (h : k < v 13 0) : vm v S 24 k = if S k then 1 else 0 := by
  unfold vm
  rw [if_pos ⟨rfl, h⟩]
theorem vm_so (v : Rl) (S : Nat → Bool) : SO (vm v S) v := fun f k q => by
  unfold vm
  rw [if_neg (by omega)]
theorem okR.m {v : Rl} (hv : okR v) (S : Nat → Bool) : okR (vm v S) := by
  obtain ⟨⟨h0, h1, h2, h3, h4, h5, h6⟩, hJ, hT⟩ := hv
  unfold okR okV okJ
  simp only [vm_f (v := v) (S := S) (f := 0) (by decide), vm_f (v := v) (S := S) (f := 1) (by decide), vm_f (v := v) (S := S) (f := 2) (by decide), vm_f (v := v) (S := S) (f := 3) (by decide), vm_f (v := v) (S := S) (f := 4) (by decide), vm_f (v := v) (S := S) (f := 5) (by decide), vm_f (v := v) (S := S) (f := 6) (by decide), vm_f (v := v) (S := S) (f := 7) (by decide), vm_f (v := v) (S := S) (f := 8) (by decide), vm_f (v := v) (S := S) (f := 9) (by decide), vm_f (v := v) (S := S) (f := 10) (by decide), vm_f (v := v) (S := S) (f := 11) (by decide), vm_f (v := v) (S := S) (f := 12) (by decide), vm_f (v := v) (S := S) (f := 13) (by decide), vm_f (v := v) (S := S) (f := 14) (by decide), vm_f (v := v) (S := S) (f := 15) (by decide), vm_f (v := v) (S := S) (f := 16) (by decide), vm_f (v := v) (S := S) (f := 17) (by decide), vm_f (v := v) (S := S) (f := 18) (by decide), vm_f (v := v) (S := S) (f := 19) (by decide), vm_f (v := v) (S := S) (f := 20) (by decide), vm_f (v := v) (S := S) (f := 21) (by decide), vm_f (v := v) (S := S) (f := 22) (by decide), vm_f (v := v) (S := S) (f := 23) (by decide), vm_f (v := v) (S := S) (f := 25) (by decide), vm_f (v := v) (S := S) (f := 26) (by decide), vm_f (v := v) (S := S) (f := 27) (by decide), vm_f (v := v) (S := S) (f := 28) (by decide), vm_f (v := v) (S := S) (f := 29) (by decide)]
  refine ⟨⟨h0, h1, h2, h3, fun k hk => ?_, h5, h6⟩, hJ, hT⟩
  obtain ⟨a, b', c, d, e⟩ := h4 k hk
  rw [vm_24 hk]
  refine ⟨a, b', c, d, ?_⟩
  split <;> omega
theorem RelC.m {u v : Rl} {rs : A1} {rx ry : A2} (hR : RelC u rs rx) (hu : ∀ f, f ≠ 24 → u f = v f) {S : Nat → Bool} (hj : ∀ j, j ≠ 8 → ry j = rx j) (hm : ∀ k, k < v 13 0 → ry 8 k = nI (if S k then 1 else 0)) (hb : BOK ry) : RelC (vm v S) rs ry := by
  obtain ⟨r0, r1, r2, r3, r4, r5, r6, r7⟩ := hR
  simp only [hu 11 (by decide), hu 12 (by decide), hu 13 (by decide), hu 14 (by decide), hu 15 (by decide), hu 16 (by decide), hu 17 (by decide), hu 18 (by decide), hu 19 (by decide), hu 20 (by decide), hu 21 (by decide), hu 22 (by decide), hu 23 (by decide), hu 25 (by decide), hu 26 (by decide), hu 27 (by decide), hu 28 (by decide), hu 29 (by decide), hu 30 (by decide), hu 31 (by decide)] at r1 r2 r3 r4 r5 r6
  unfold RelC
  simp only [vm_f (v := v) (S := S) (f := 11) (by decide), vm_f (v := v) (S := S) (f := 12) (by decide), vm_f (v := v) (S := S) (f := 13) (by decide), vm_f (v := v) (S := S) (f := 14) (by decide), vm_f (v := v) (S := S) (f := 15) (by decide), vm_f (v := v) (S := S) (f := 16) (by decide), vm_f (v := v) (S := S) (f := 17) (by decide), vm_f (v := v) (S := S) (f := 18) (by decide), vm_f (v := v) (S := S) (f := 19) (by decide), vm_f (v := v) (S := S) (f := 20) (by decide), vm_f (v := v) (S := S) (f := 21) (by decide), vm_f (v := v) (S := S) (f := 22) (by decide), vm_f (v := v) (S := S) (f := 23) (by decide), vm_f (v := v) (S := S) (f := 25) (by decide), vm_f (v := v) (S := S) (f := 26) (by decide), vm_f (v := v) (S := S) (f := 27) (by decide), vm_f (v := v) (S := S) (f := 28) (by decide), vm_f (v := v) (S := S) (f := 29) (by decide), vm_f (v := v) (S := S) (f := 30) (by decide), vm_f (v := v) (S := S) (f := 31) (by decide)]
  simp only [hj 0 (by decide), hj 1 (by decide), hj 2 (by decide), hj 3 (by decide), hj 4 (by decide), hj 5 (by decide), hj 6 (by decide), hj 7 (by decide), hj 9 (by decide), hj 10 (by decide), hj 11 (by decide), hj 12 (by decide), hj 13 (by decide), hj 14 (by decide), hj 15 (by decide)]
  refine ⟨fun j h => by rw [vm_f (by omega), ← hu j (by omega)]; exact r0 j h, r1, r2, r3, fun k hk => ?_, r5, r6, hb⟩
  obtain ⟨a, b', c, d, -⟩ := r4 k hk
  rw [vm_24 hk]
  exact ⟨a, b', c, d, hm k hk⟩
theorem RelN.m {u v : Rl} {ma mb : A2} (hN : RelN u 0 ma) (hu : ∀ f, f ≠ 24 → u f = v f) {S : Nat → Bool} (hj : ∀ j, j ≠ 11 → mb j = ma j) (hx : ∀ x, (∀ b, b < v 13 0 → x ≠ 5 * (10 * 0 + b) + 4) → mb 11 x = ma 11 x) (hm : ∀ k, k < v 13 0 → mb 11 (5 * (10 * 0 + k) + 4) = nI (if S k then 1 else 0)) : RelN (vm v S) 0 mb := by
  obtain ⟨r0, r1, r2, r3, r4⟩ := hN
  simp only [hu 0 (by decide), hu 1 (by decide), hu 2 (by decide), hu 4 (by decide), hu 5 (by decide), hu 6 (by decide), hu 7 (by decide), hu 8 (by decide), hu 9 (by decide), hu 10 (by decide), hu 12 (by decide), hu 13 (by decide), hu 18 (by decide), hu 19 (by decide), hu 20 (by decide), hu 21 (by decide), hu 22 (by decide), hu 23 (by decide)] at r0 r1 r2 r3 r4
  unfold RelN
  simp only [vm_f (v := v) (S := S) (f := 0) (by decide), vm_f (v := v) (S := S) (f := 1) (by decide), vm_f (v := v) (S := S) (f := 2) (by decide), vm_f (v := v) (S := S) (f := 4) (by decide), vm_f (v := v) (S := S) (f := 5) (by decide), vm_f (v := v) (S := S) (f := 6) (by decide), vm_f (v := v) (S := S) (f := 7) (by decide), vm_f (v := v) (S := S) (f := 8) (by decide), vm_f (v := v) (S := S) (f := 9) (by decide), vm_f (v := v) (S := S) (f := 10) (by decide), vm_f (v := v) (S := S) (f := 12) (by decide), vm_f (v := v) (S := S) (f := 13) (by decide), vm_f (v := v) (S := S) (f := 18) (by decide), vm_f (v := v) (S := S) (f := 19) (by decide), vm_f (v := v) (S := S) (f := 20) (by decide), vm_f (v := v) (S := S) (f := 21) (by decide), vm_f (v := v) (S := S) (f := 22) (by decide), vm_f (v := v) (S := S) (f := 23) (by decide)]
  simp only [hj 3 (by decide), hj 4 (by decide), hj 5 (by decide), hj 8 (by decide), hj 9 (by decide), hj 10 (by decide), hj 14 (by decide)]
  refine ⟨r0, r1, r2, fun k hk => ?_, r4⟩
  obtain ⟨a, b', c, d, -⟩ := r3 k hk
  rw [vm_24 hk, hx _ (fun b _ => by omega), hx _ (fun b _ => by omega), hx _ (fun b _ => by omega), hx _ (fun b _ => by omega)]
  exact ⟨a, b', c, d, hm k hk⟩
theorem RelT.so {u v : Rl} (hu : ∀ f, f ≠ 24 → u f = v f) {j : Nat} {ma : A2} (hT : RelT u j ma) (S : Nat → Bool) : RelT (vm v S) j ma := by
  unfold RelT at hT ⊢
  simp only [hu 14 (by decide), hu 25 (by decide), hu 26 (by decide), hu 27 (by decide), hu 28 (by decide), hu 29 (by decide)] at hT
  simp only [vm_f (v := v) (S := S) (f := 14) (by decide), vm_f (v := v) (S := S) (f := 25) (by decide), vm_f (v := v) (S := S) (f := 26) (by decide), vm_f (v := v) (S := S) (f := 27) (by decide), vm_f (v := v) (S := S) (f := 28) (by decide), vm_f (v := v) (S := S) (f := 29) (by decide)]
  exact hT
theorem LX.so {u v : Rl} (hu : ∀ f, f ≠ 24 → u f = v f) {j : Nat} {ms : A1} {ma : A2} (hX : LX u j ms ma) (S : Nat → Bool) : LX (vm v S) j ms ma := by
  unfold LX at hX ⊢
  simp only [hu 11 (by decide), hu 16 (by decide), hu 17 (by decide)] at hX
  simp only [vm_f (v := v) (S := S) (f := 11) (by decide), vm_f (v := v) (S := S) (f := 16) (by decide), vm_f (v := v) (S := S) (f := 17) (by decide)]
  exact hX
theorem bitv {g c : Nat} (hg : g < 2 ^ 31) (hc : c < 32) : ((nI g >>> (nI c &&& 31)) &&& 1) = nI (if g.testBit c then 1 else 0) := by
  rw [pk_shrN hg _ c (sh_c c hc), bit_and1 (Nat.lt_of_le_of_lt (Nat.div_le_self _ _) hg), Nat.testBit_eq_decide_div_mod_eq]
  congr 1
  by_cases h : g / 2 ^ c % 2 = 1
  · simp [h]
  · have : g / 2 ^ c % 2 = 0 := by omega
    simp [this]
section MK
variable {us : A1} {ua : A2} {rs : A1} {ra ra2 sa : A2} {sl : L2} {ns : A1} {na : A2} {nl : L2} {yt : Int32} {im : Img} {ms : A1} {ma : A2} {ml : L2}
theorem m_marksSet {u v : Rl} (h13 : v 13 0 ≤ 10) (hM : RM u 0 ms ma) (hu : ∀ f, f ≠ 24 → u f = v f) {s : Nat} (hs : s < 2 ^ 31) {S : Nat → Bool} (hS : ∀ b, b < v 13 0 → s.testBit b = S b) {post : A2 → Prop} (h : ∀ mb : A2, RM (vm v S) 0 ms mb → (∀ (ms : A1) (ml : L2), MG ms ma ml ms mb ml) → mb 20 = ma 20 → post mb) : P_X12_marksSet ma (nI s) post := by
  have e13 : ma 10 0 = nI (v 13 0) := by rw [hM.1.1.2.2.2.2, hu 13 (by decide)]
  have L : ∀ (k i : Nat) (mb : A2), i + k = v 13 0 → (∀ j, j ≠ 11 → mb j = ma j) → (∀ x, (∀ b, b < v 13 0 → x ≠ 5 * (10 * 0 + b) + 4) → mb 11 x = ma 11 x) → (∀ c, c < i → mb 11 (5 * (10 * 0 + c) + 4) = nI (if S c then 1 else 0)) → P_X12_marksSet_2 (nI s) post (k + 1) (nI i) mb := by
    intro k
    induction k with
    | zero =>
      intro i mb hi q1 q2 q3
      obtain rfl : i = v 13 0 := by omega
      refine ⟨fun _ => h mb ⟨hM.1.m hu q1 q2 q3, (hM.2.1.so hu S).eq (q1 12 (by decide)) (q1 13 (by decide)), ?_⟩ (fun a b => ⟨fun _ _ _ _ => rfl, fun j _ h11 _ _ => q1 j h11, fun x hx => q2 x (fun b hb => by omega), fun x _ => by rw [q1 14 (by decide)], rfl⟩) (q1 20 (by decide)), fun c => absurd ((cmp_le ((congrFun (q1 10 (by decide)) 0).trans e13) (by omega) (by omega)).mpr (Nat.le_refl _)) c⟩
      have := hM.2.2.so hu S
      unfold LX at this ⊢
      rw [q1 6 (by decide), q1 7 (by decide)]
      exact this
    | succ k ih =>
      intro i mb hi q1 q2 q3
      refine ⟨fun c => absurd ((cmp_le ((congrFun (q1 10 (by decide)) 0).trans e13) (by omega) (by omega)).mp c) (by omega), fun _ => ?_⟩
      show vp_in ((5 : Int32) * ((10 : Int32) * nI 0 + nI i) + 4) 250 ∧ (P_X12_marksSet_2 (nI s) post (k + 1) (nI i + 1) (va_up mb 11 (upd (mb 11) (((5 : Int32) * ((10 : Int32) * nI 0 + nI i) + 4).toNatClampNeg) ((nI s >>> (nI i &&& 31)) &&& 1))))
      rw [show (5 : Int32) * ((10 : Int32) * nI 0 + nI i) + 4 = nI (5 * (10 * 0 + i) + 4) from ix5 0 i 4, nI_clamp (by omega), bitv hs (by omega), hS i (by omega), nI_1]
      refine ⟨vp_in_nI (by omega) (by decide), ih (i + 1) _ (by omega) (fun j hj => by rw [up_ne hj, q1 j hj]) (fun x hx => ?_) (fun c hc => ?_)⟩
      · rw [up_at, u_ne (hx i (by omega))]
        exact q2 x hx
      · rw [up_at]
        by_cases e : c = i
        · rw [e, u_at]
        · rw [u_ne (by omega)]; exact q3 c (by omega)
  exact ⟨v 13 0 + 1, L (v 13 0) 0 ma (by omega) (fun _ _ => rfl) (fun _ _ => rfl) (fun c hc => by omega)⟩
/-- does some thief want one -/
def awF (u : Rl) : Nat := fa_first (fun t => decide (0 < wantN u t)) (u 14 0)
def aw (u : Rl) : Bool := decide (awF u < u 14 0)
theorem awF_at {u : Rl} {i : Nat} (hi : i ≤ awF u) (hn : i < u 14 0) : (0 < wantN u i → awF u = i) ∧ (¬ 0 < wantN u i → i + 1 ≤ awF u) := by
  refine ⟨fun e => ?_, fun e => ?_⟩
  · rcases Nat.lt_or_ge i (awF u) with q | q
    · have := fa_first_no (fun t => decide (0 < wantN u t)) (u 14 0) i q
      simp at this
      omega
    · omega
  · rcases Nat.lt_or_ge i (awF u) with q | q
    · exact q
    · exfalso
      have e2 : awF u = i := by omega
      have := fa_first_yes (fun t => decide (0 < wantN u t)) (u 14 0) (by unfold awF at e2; omega)
      rw [show fa_first (fun t => decide (0 < wantN u t)) (u 14 0) = i from e2] at this
      simp at this
      exact e this
theorem want_le (u : Rl) (h13 : u 13 0 ≤ 10) (t : Nat) : wantN u t ≤ 10 := by
  have := sumN_le (f := fun b => if 0 < net u t b then 1 else 0) (c := 1) (n := u 13 0) (fun b _ => by split <;> omega)
  unfold wantN
  omega
theorem c_anyWanted {u : Rl} (hu : okR u) {rx : A2} {rs0 : A1} (hC : RelC u rs0 rx) {post : Int32 → A1 → A2 → Prop} (h : ∀ nb : A2, (∀ j, 5 ≤ j → nb j = na j) → post (bI (aw u)) (va_up ns 0 (nI (u 13 0))) nb) : P_X11_anyWanted rs0 rx ns na post := by
  have h14 := ok14 hu.1
  have h13 := ok13 hu.1
  have hle : awF u ≤ u 14 0 := fa_first_le _ _
  refine c_lookAt hC hu.1 (fun nb hN hb => ?_)
  have hh := h nb hb
  have L : ∀ k i, i + k = u 14 0 → i ≤ awF u → P_X11_anyWanted_10 rs0 rx post (va_up ns 0 (nI (u 13 0))) nb (k + 1) (nI i) := by
    intro k
    induction k with
    | zero =>
      intro i hi hs
      obtain rfl : i = u 14 0 := by omega
      have e : aw u = false := by unfold aw; simp; omega
      rw [e] at hh
      exact ⟨fun _ => hh, fun c => absurd ((cmp_le (rc_s hC 14) (by omega) (by omega)).mpr (Nat.le_refl _)) c⟩
    | succ k ih =>
      intro i hi hs
      obtain ⟨e1, e2⟩ := awF_at hs (by omega)
      have hw := want_le u h13 i
      refine ⟨fun c => absurd ((cmp_le (rc_s hC 14) (by omega) (by omega)).mp c) (by omega), fun _ => c_wantedBy hC hu.1 hN (by omega) ?_⟩
      rw [show (0 : Int32) = nI 0 from rfl, nI_leI (by omega) (by decide), nI_1]
      refine ⟨fun c => ih (i + 1) (by omega) (e2 (by omega)), fun c => ?_⟩
      have e : aw u = true := by unfold aw; rw [e1 (by omega)]; simp; omega
      rw [e] at hh
      exact hh
  exact ⟨u 14 0 + 1, L (u 14 0) 0 (by omega) (Nat.zero_le _)⟩
theorem m_isWanted {u : Rl} (hu : okR u) (hM : RM u 0 ms ma) {post : Int32 → A1 → A2 → Prop} (h : ∀ mt mb, RM u 0 mt mb → (∀ ml : L2, MG ms ma ml mt mb ml) → mb 20 = ma 20 → post (bI (aw u)) mt mb) : P_X12_isWanted ms ma post := by
  have h14 := ok14 hu.1
  have h13 := ok13 hu.1
  have hle : awF u ≤ u 14 0 := fa_first_le _ _
  refine m_lays hu.1 hM none (by decide) (fun mb hL hmb => ?_)
  have hF : ∀ ml : L2, MF ms ma ml (va_up ms 12 (nI (thO u none))) mb ml := fun ml => ⟨fun j hj => up_ne hj, hmb, fun _ _ _ _ => rfl⟩
  have hM2 := (hF (fun _ _ => 0)).rm hM
  have hh := h _ mb hM2 (fun ml => (hF ml).g) (hmb 20 (by decide) (by decide))
  have L : ∀ k i, i + k = u 14 0 → i ≤ awF u → P_X12_isWanted_7 post (va_up ms 12 (nI (thO u none))) mb (k + 1) (nI i) := by
    intro k
    induction k with
    | zero =>
      intro i hi hs
      obtain rfl : i = u 14 0 := by omega
      have e : aw u = false := by unfold aw; simp; omega
      rw [e] at hh
      exact ⟨fun _ => hh, fun c => absurd ((cmp_le hM2.2.1.1 (by omega) (by omega)).mpr (Nat.le_refl _)) c⟩
    | succ k ih =>
      intro i hi hs
      obtain ⟨e1, e2⟩ := awF_at hs (by omega)
      have hw := want_le u h13 i
      refine ⟨fun c => absurd ((cmp_le hM2.2.1.1 (by omega) (by omega)).mp c) (by omega), fun _ => m_wantsOf (s := 0) hu.1 (by decide) hM2.1 hL (by omega) ?_⟩
      rw [show (0 : Int32) = nI 0 from rfl, nI_leI (by omega) (by decide), nI_1]
      refine ⟨fun c => ih (i + 1) (by omega) (e2 (by omega)), fun c => ?_⟩
      have e : aw u = true := by unfold aw; rw [e1 (by omega)]; simp; omega
      rw [e] at hh
      exact hh
  exact ⟨u 14 0 + 1, L (u 14 0) 0 (by omega) (Nat.zero_le _)⟩
def sK (k : Nat) : Nat → Bool := fun b => decide (b < k)
def mkF (v : Rl) : Nat := fa_first (fun k => !aw (vm v (sK k))) (v 13 0 + 1)
def mkI (v : Rl) : Int32 := if mkF v ≤ v 13 0 then nI (mkF v) else -1
theorem mkF_at {v : Rl} {i : Nat} (hi : i ≤ mkF v) (hn : i ≤ v 13 0) : (aw (vm v (sK i)) = false → mkF v = i) ∧ (aw (vm v (sK i)) = true → i + 1 ≤ mkF v) := by
  refine ⟨fun e => ?_, fun e => ?_⟩
  · rcases Nat.lt_or_ge i (mkF v) with q | q
    · have := fa_first_no (fun k => !aw (vm v (sK k))) (v 13 0 + 1) i q
      simp [e] at this
    · omega
  · rcases Nat.lt_or_ge i (mkF v) with q | q
    · exact q
    · exfalso
      have e2 : mkF v = i := by omega
      have := fa_first_yes (fun k => !aw (vm v (sK k))) (v 13 0 + 1) (by unfold mkF at e2; omega)
      rw [show fa_first (fun k => !aw (vm v (sK k))) (v 13 0 + 1) = i from e2] at this
      simp [e] at this
theorem q_marks (hI : Inv us ua rs ra ra2 sa sl ns na nl yt im ms ma ml) (rs2 : A1) : P_X11_marks rs ra rs2 ra2 ns na (fun r _ ra2' ns' na' => P_X12_marks ms ma (fun r' mt mb => r = r' ∧ Inv us ua rs ra ra2' sa sl ns' na' nl yt im mt mb ml)) := by
  obtain ⟨v, hv, hC, hM, hP, hY, hK, hB, F⟩ := hI.get
  have h13 := ok13 hv.1
  have fin := F ra2 ns na nl _ _ _ (MG.refl _ _ _) hM.1 hB hK
  have hle : mkF v ≤ v 13 0 + 1 := fa_first_le _ _
  rcases Nat.eq_zero_or_pos (v 2 0) with z | z
  · exact c_told0 hC z (b0t (m_rail0 hM.1 hv.1 z (b0t ⟨rfl, fin⟩)))
  · refine c_told hC hv.1 z (b1t (c_copyFrom hC hv.1 (fun rs' ra' hC1 hB1 _ => ?_)))
    have M : ∀ (ra3 : A2) (ns' : A1) (na' : A2), BOK ra3 → NOK ns' na' nl → P_X12_marks ms ma (fun r' mt mb => mkI v = r' ∧ Inv us ua rs ra ra3 sa sl ns' na' nl yt im mt mb ml) := by
      intro ra3 ns' na' hB3 hK3
      refine m_rail hM.1 hv.1 z (b1t (m_laysAside hv.1 hM (fun m0 h1 h2 => ?_)))
      have E : ∀ (x : Int32) (mt : A1) (mb : A2) (u : Rl), x = mkI v → RM u 0 mt mb → SO u v → MG (va_up ms 0 0) ma ml mt mb ml → mb 20 = m0 20 → P_X12_marks_66 (fun r' mt mb => mkI v = r' ∧ Inv us ua rs ra ra3 sa sl ns' na' nl yt im mt mb ml) x mt mb := by
        intro x mt mb u hx q1 q2 q3 q4
        refine m_takesBack hv.1 q2 q1 (fun b hb => by rw [q4]; exact h2 b hb) (fun md hMd hGd => ⟨hx.symm, F _ _ _ _ _ _ _ (q3.trans (hGd _ _)) hMd.1 hB3 hK3⟩)
      have L : ∀ (d k : Nat) (mt : A1) (mb : A2) (u : Rl), k + d = v 13 0 + 1 → k ≤ mkF v → RM u 0 mt mb → (∀ f, f ≠ 24 → u f = v f) → SO u v → MG (va_up ms 0 0) ma ml mt mb ml → mb 20 = m0 20 → P_X12_marks_23 (fun r' mt mb => mkI v = r' ∧ Inv us ua rs ra ra3 sa sl ns' na' nl yt im mt mb ml) (fun (x1_ : Int32) (ms : Nat → Int32) (ma : Nat → Nat → Int32) => P_X12_marks_66 (fun r' mt mb => mkI v = r' ∧ Inv us ua rs ra ra3 sa sl ns' na' nl yt im mt mb ml) x1_ ms ma) (d + 2) (-1) (nI k) mt mb := by
        intro d
        induction d with
        | zero =>
          intro k mt mb u hk hs q1 q2 q3 q4 q5
          obtain rfl : k = v 13 0 + 1 := by omega
          have e13 : mb 10 0 = nI (v 13 0) := by rw [q1.1.1.2.2.2.2, q3.n]
          refine ⟨fun _ => E _ mt mb u ?_ q1 q3 q4 q5, fun c => absurd (by rw [e13]; exact nI_lt (by omega) (by omega)) c⟩
          unfold mkI
          rw [if_neg (by omega)]
        | succ d ih =>
          intro k mt mb u hk hs q1 q2 q3 q4 q5
          have e13 : mb 10 0 = nI (v 13 0) := by rw [q1.1.1.2.2.2.2, q3.n]
          obtain ⟨e1, e2⟩ := mkF_at hs (by omega)
          have hpk : 2 ^ k ≤ 2 ^ 10 := Nat.pow_le_pow_right (by decide) (by omega)
          have hp0 : 0 < 2 ^ k := Nat.two_pow_pos _
          refine ⟨fun c => absurd (by rw [e13] at c; exact (nI_ltI (by omega) (by omega)).mp c) (by omega), fun _ => ⟨fun c => absurd rfl c, fun _ => ?_⟩⟩
          rw [sh1 (by omega), nI_pre hp0]
          refine m_marksSet h13 q1 q2 (s := 2 ^ k - 1) (by omega) (S := sK k) (fun b _ => by rw [Nat.testBit_two_pow_sub_one]; rfl) (fun mc r1 r2 r3 => ?_)
          have hu' := hv.m (sK k)
          refine m_isWanted hu' r1 (fun mt2 md s1 s2 s3 => ?_)
          rw [nI_1]
          have hG2 := (q4.trans (r2 _ _)).trans (s2 ml)
          have h20 := (s3.trans r3).trans q5
          cases hst : aw (vm v (sK k)) with
          | true =>
            refine ⟨fun c => absurd c (by decide), fun _ => ih (k + 1) mt2 md (vm v (sK k)) (by omega) (e2 hst) s1 (fun f hf => vm_f hf) (vm_so v _) hG2 h20⟩
          | false =>
            refine ⟨fun _ => ?_, fun c => absurd rfl c⟩
            have hE := E (nI k) mt2 md (vm v (sK k)) (by unfold mkI; rw [e1 hst, if_pos (by omega)]) s1 (vm_so v _) hG2 h20
            exact ⟨fun _ => hE, fun _ => ⟨fun _ => hE, fun c => absurd c (nI_nm1 (by omega))⟩⟩
      exact ⟨v 13 0 + 1 + 2, L (v 13 0 + 1) 0 _ m0 v (by omega) (Nat.zero_le _) (hM.fr (fun i _ _ => h1 i (by omega)) rfl rfl) (fun _ _ => rfl) (SO.refl v) (MG.of20 h1) rfl⟩
    -- marks on the trial
    have I : ∀ (k : Nat), k ≤ v 13 0 → ∀ (K84 : Int32 → A2 → A1 → A2 → Prop) (rx : A2) (nx : A1) (ax : A2) (u : Rl), RelC u rs' rx → (∀ f, f ≠ 24 → u f = v f) → (∀ ry, RelC (vm v (sK k)) rs' ry → K84 (nI k) ry nx ax) → ∃ m, P_X11_marks_42 rs ra rs' (fun r _ ra2' ns' na' => P_X12_marks ms ma (fun r' mt mb => r = r' ∧ Inv us ua rs ra ra2' sa sl ns' na' nl yt im mt mb ml)) K84 (nI k) nx ax m 0 rx := by
      intro k hk K84 rx nx ax u q1 q2 kk
      have L : ∀ (d i : Nat) (ry : A2), i + d = v 13 0 → (∀ j, j ≠ 8 → ry j = rx j) → (∀ c, c < i → ry 8 c = nI (if sK k c then 1 else 0)) → BOK ry → P_X11_marks_42 rs ra rs' (fun r _ ra2' ns' na' => P_X12_marks ms ma (fun r' mt mb => r = r' ∧ Inv us ua rs ra ra2' sa sl ns' na' nl yt im mt mb ml)) K84 (nI k) nx ax (d + 1) (nI i) ry := by
        intro d
        induction d with
        | zero =>
          intro i ry hi r1 r2 r3
          obtain rfl : i = v 13 0 := by omega
          exact ⟨fun _ => kk ry (q1.m q2 r1 r2 r3), fun c => absurd ((cmp_le (rc_s hC1 13) (by omega) (by omega)).mpr (Nat.le_refl _)) c⟩
        | succ d ih =>
          intro i ry hi r1 r2 r3
          refine ⟨fun c => absurd ((cmp_le (rc_s hC1 13) (by omega) (by omega)).mp c) (by omega), fun _ => ?_⟩
          rw [nI_leI (by omega) (by omega), nI_1, nI_clamp (by omega)]
          have st : ∀ y : Int32, (y = 0 ∨ y = 1) → y = nI (if sK k i then 1 else 0) → P_X11_marks_42 rs ra rs' (fun r _ ra2' ns' na' => P_X12_marks ms ma (fun r' mt mb => r = r' ∧ Inv us ua rs ra ra2' sa sl ns' na' nl yt im mt mb ml)) K84 (nI k) nx ax (d + 1) (nI (i + 1)) (va_up ry 8 (upd (ry 8) i y)) := by
            intro y hy01 hy
            refine ih (i + 1) _ (by omega) (fun j hj => by rw [up_ne hj, r1 j hj]) (fun c hc => ?_) (fun c hc => ?_)
            · rw [up_at]
              by_cases e : c = i
              · rw [e, u_at, hy]
              · rw [u_ne e]; exact r2 c (by omega)
            · rw [up_at]
              by_cases e : c = i
              · rw [e, u_at]; exact hy01
              · rw [u_ne e]; exact r3 c hc
          refine ⟨fun c => ⟨vp_in_nI (by omega) (by decide), st 0 (Or.inl rfl) ?_⟩, fun c => ⟨vp_in_nI (by omega) (by decide), st 1 (Or.inr rfl) ?_⟩⟩
          · unfold sK
            rw [if_neg (by simp; omega)]
            rfl
          · unfold sK
            rw [if_pos (by simp; omega)]
            rfl
      exact ⟨v 13 0 + 1, L (v 13 0) 0 rx (by omega) (fun _ _ => rfl) (fun c hc => by omega) q1.bok⟩
    have L : ∀ (d k : Nat) (rx : A2) (nx : A1) (ax : A2) (u : Rl), k + d = v 13 0 + 1 → k ≤ mkF v → RelC u rs' rx → (∀ f, f ≠ 24 → u f = v f) → NOK nx ax nl → P_X11_marks_26 rs ra (fun r _ ra2' ns' na' => P_X12_marks ms ma (fun r' mt mb => r = r' ∧ Inv us ua rs ra ra2' sa sl ns' na' nl yt im mt mb ml)) rs' (d + 1) (nI k) rx nx ax := by
      intro d
      induction d with
      | zero =>
        intro k rx nx ax u hk hs q1 q2 q3
        obtain rfl : k = v 13 0 + 1 := by omega
        refine ⟨fun _ => ?_, fun c => absurd (by rw [rc_s hC1 13]; exact nI_lt (by omega) (by omega)) c⟩
        have := M rx nx ax q1.bok q3
        unfold mkI at this
        rw [if_neg (by omega)] at this
        exact this
      | succ d ih =>
        intro k rx nx ax u hk hs q1 q2 q3
        obtain ⟨e1, e2⟩ := mkF_at hs (by omega)
        refine ⟨fun c => absurd (by rw [rc_s hC1 13] at c; exact (nI_ltI (by omega) (by omega)).mp c) (by omega), fun _ => ?_⟩
        refine I k (by omega) _ rx nx ax u q1 q2 (fun ry hCy => ?_)
        have hu' := hv.m (sK k)
        refine c_anyWanted hu' hCy (fun nb hb => ?_)
        rw [nI_1]
        have hK' := q3.look hb (nI (vm v (sK k) 13 0))
        cases hst : aw (vm v (sK k)) with
        | true => exact ⟨fun _ => ih (k + 1) ry _ nb (vm v (sK k)) (by omega) (e2 hst) hCy (fun f hf => vm_f hf) hK', fun c => absurd c (by decide)⟩
        | false =>
          refine ⟨fun c => absurd rfl c, fun _ => ?_⟩
          have := M ry _ nb hCy.bok hK'
          unfold mkI at this
          rw [e1 hst, if_pos (by omega)] at this
          exact this
    exact ⟨v 13 0 + 1 + 1, L (v 13 0 + 1) 0 ra' ns na v (by omega) (Nat.zero_le _) hC1 (fun _ _ => rfl) hK⟩
/-! hides -/
theorem c_markOthers {u v : Rl} (h13 : v 13 0 ≤ 10) {rs0 : A1} {rx : A2} (hC : RelC u rs0 rx) (hu : ∀ f, f ≠ 24 → u f = v f) {b : Nat} (hb : b < v 13 0) {x : Nat} (hx : x ≤ 1) {post : (Nat → Int32) → Prop} (h : ∀ mar, RelC (vm v (fun c => decide (x = 1) && decide (c ≠ b))) rs0 (va_up rx 8 mar) → post mar) : P_X0_markOthers (rs0 13) (rx 8) (nI b) (nI x) post := by
  have e13 : rs0 13 = nI (v 13 0) := by rw [rc_s hC 13, hu 13 (by decide)]
  have L : ∀ (d i : Nat) (mar : Nat → Int32), i + d = v 13 0 → (∀ c, c < i → mar c = nI (if (decide (x = 1) && decide (c ≠ b)) then 1 else 0)) → (∀ c, c < 10 → mar c = 0 ∨ mar c = 1) → P_X0_markOthers_2 (rs0 13) (nI b) (nI x) post (d + 1) (nI i) mar := by
    intro d
    induction d with
    | zero =>
      intro i mar hi r1 r2
      obtain rfl : i = v 13 0 := by omega
      exact ⟨fun _ => h mar (hC.m hu (fun j hj => up_ne hj) (fun k hk => by rw [up_at]; exact r1 k hk) (fun c hc => by rw [up_at]; exact r2 c hc)), fun c => absurd ((cmp_le e13 (by omega) (by omega)).mpr (Nat.le_refl _)) c⟩
    | succ d ih =>
      intro i mar hi r1 r2
      have st : ∀ y : Int32, (y = 0 ∨ y = 1) → y = nI (if (decide (x = 1) && decide (i ≠ b)) then 1 else 0) → P_X0_markOthers_2 (rs0 13) (nI b) (nI x) post (d + 1) (nI (i + 1)) (upd mar i y) := by
        intro y hy01 hy
        refine ih (i + 1) _ (by omega) (fun c hc => ?_) (fun c hc => ?_)
        · by_cases e : c = i
          · rw [e, u_at, hy]
          · rw [u_ne e]; exact r1 c (by omega)
        · by_cases e : c = i
          · rw [e, u_at]; exact hy01
          · rw [u_ne e]; exact r2 c hc
      refine ⟨fun c => absurd ((cmp_le e13 (by omega) (by omega)).mp c) (by omega), fun _ => ?_⟩
      rw [nI_1, nI_clamp (by omega), show (nI x = (0 : Int32)) = (nI x = nI 0) from rfl, nI_eq (by omega) (by decide), nI_eq (by omega) (by omega)]
      refine ⟨fun c => ⟨vp_in_nI (by omega) (by decide), st 0 (Or.inl rfl) (by simp [c]; rfl)⟩, fun c => ⟨fun c2 => ⟨vp_in_nI (by omega) (by decide), st 0 (Or.inl rfl) (by simp [c2]; rfl)⟩, fun c2 => ⟨vp_in_nI (by omega) (by decide), st 1 (Or.inr rfl) ?_⟩⟩⟩
      have : x = 1 := by omega
      simp [this, c2]
      rfl
  exact ⟨v 13 0 + 1, L (v 13 0) 0 (rx 8) (by omega) (fun c hc => by omega) hC.bok⟩
theorem hid_dec : ∀ n, n ≤ 10 → ∀ b, b < n → (nI (2 ^ n) - 1) &&& (nI (2 ^ b) ^^^ (-1)) = nI (2 ^ n - 1 - 2 ^ b) := by decide
theorem hid_bit : ∀ n, n ≤ 10 → ∀ b, b < n → ∀ c, c < n → (2 ^ n - 1 - 2 ^ b).testBit c = decide (c ≠ b) := by decide
theorem q_hides (hI : Inv us ua rs ra ra2 sa sl ns na nl yt im ms ma ml) (rs2 : A1) (p : Int32) : P_X11_hides rs ra rs2 ra2 ns na nl p (fun r _ ra2' ns' na' nl' => P_X12_hides ms ma ml p (fun r' mt mb mk => r = r' ∧ Inv us ua rs ra ra2' sa sl ns' na' nl' yt im mt mb mk)) := by
  obtain ⟨v, hv, hC, hM, hP, hY, hK, hB, F⟩ := hI.get
  have h13 := ok13 hv.1
  have fin := F ra2 ns na nl _ _ _ (MG.refl _ _ _) hM.1 hB hK
  rcases ixs p (n := v 13 0) (by omega) with h | ⟨b, hb, rfl⟩
  · exact c_hasB0 hC h (b0t (m_isB0 hM.1 hv.1 h (b0t ⟨rfl, fin⟩)))
  · have hp13 := pow13 h13
    have hp0 : 0 < 2 ^ v 13 0 := Nat.two_pow_pos _
    refine c_hasB hC hv.1 hb (b1t (c_copyFrom hC hv.1 (fun rs' ra' hC1 hB1 _ => ?_)))
    refine c_markOthers (x := 0) h13 hC1 (fun _ _ => rfl) hb (by decide) (fun mar hC2 => ?_)
    have hv2 := hv.m (fun c => decide (0 = 1) && decide (c ≠ b))
    refine c_lossOn hC2 hv2.1 hK (by rw [vm_f (by decide)]; exact hb) (fun n1 a1 l1 hK1 => ?_)
    have e8 : (va_up ra' 8 mar) 8 = mar := up_at
    have hmk := c_markOthers (x := 1) (rx := va_up ra' 8 mar) h13 hC2 (fun f hf => vm_f hf) hb (by decide) (post := fun mar_11 => P_X11_lossOn rs' (va_up ra' 8 mar_11) n1 a1 l1 (nI b) (fun (r16 : Int64) (ns_13 : Nat → Int32) (na_14 : Nat → Nat → Int32) (nl_15 : Nat → Nat → Int64) => P_X12_hides ms ma ml (nI b) (fun r' mt mb mk => lossL (vm v (fun c => decide (0 = 1) && decide (c ≠ b))) b - r16 = r' ∧ Inv us ua rs ra (va_up ra' 8 mar_11) sa sl ns_13 na_14 nl_15 yt im mt mb mk)))
    rw [e8] at hmk
    refine hmk (fun mar2 hC3 => ?_)
    rw [bx_uu] at hC3
    have hv3 := hv.m (fun c => decide (1 = 1) && decide (c ≠ b))
    refine c_lossOn hC3 hv3.1 hK1 (by rw [vm_f (by decide)]; exact hb) (fun n2 a2 l2 hK2 => ?_)
    refine m_isB hM.1 hv.1 hb (b1t (m_laysAside hv.1 hM (fun m0 h1 h2 => ?_)))
    have hM0 : RM v 0 (va_up ms 0 0) m0 := hM.fr (fun i _ _ => h1 i (by omega)) rfl rfl
    refine m_marksSet (s := 0) h13 hM0 (fun _ _ => rfl) (by decide) (S := fun c => decide (0 = 1) && decide (c ≠ b)) (fun c _ => by simp) (fun m1 r1 r2 r3 => ?_)
    refine m_nightF hv2.1 hv2.2.1 r1 (fun mt3 m3 l3 hF3 hP3 => m_lossOf hv2.1 (hF3.rm r1).1 hP3 (by rw [vm_f (by decide)]; exact hb) ?_)
    have hM3 := hF3.rm r1
    rw [show m3 10 0 = nI (v 13 0) by rw [hM3.1.1.2.2.2.2, vm_f (by decide)], sh1 (by omega), sh1 (by omega), hid_dec _ h13 b hb]
    refine m_marksSet (u := vm v (fun c => decide (0 = 1) && decide (c ≠ b))) h13 hM3 (fun f hf => vm_f hf) (s := 2 ^ v 13 0 - 1 - 2 ^ b) (Nat.lt_of_le_of_lt (Nat.le_trans (Nat.sub_le _ _) (Nat.sub_le _ _)) (by omega)) (S := fun c => decide (1 = 1) && decide (c ≠ b)) (fun c hc => by rw [hid_bit _ h13 b hb c hc]; simp) (fun m4 s1 s2 s3 => ?_)
    refine m_nightF hv3.1 hv3.2.1 s1 (fun mt5 m5 l5 hF5 hP5 => m_lossOf hv3.1 (hF5.rm s1).1 hP5 (by rw [vm_f (by decide)]; exact hb) (fun x hx => ?_))
    refine m_takesBack hv.1 (vm_so v _) (hF5.rm s1) (fun c hc => by rw [hF5.2.1 20 (by decide) (by decide), s3, hF3.2.1 20 (by decide) (by decide), r3]; exact h2 c hc) (fun md hMd hGd => ?_)
    exact ⟨hx.symm, F _ _ _ _ _ _ _ ((((((MG.of20 h1).trans (r2 _ _)).trans hF3.g).trans (s2 _ _)).trans hF5.g).trans (hGd _ _)) hMd.1 hC3.bok hK2⟩
end MK

