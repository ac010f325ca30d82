/-! promises 35 to 38: one lamp more, the watchman -/
def xl (v : Rl) (p r : Nat) : Rl := fun f k => if f = 11 ∧ k = 0 then v 11 0 + 1 else if f = 16 ∧ k = v 11 0 then p else if f = 17 ∧ k = v 11 0 then r else v f k
theorem xl_f {v : Rl} {p r f : Nat} (h1 : f ≠ 11) (h2 : f ≠ 16) (h3 : f ≠ 17) : xl v p r f = v f := by
  funext k
  unfold xl
  rw [if_neg (fun q => h1 q.1), if_neg (fun q => h2 q.1), if_neg (fun q => h3 q.1)]
theorem xl_11 (v : Rl) (p r : Nat) : xl v p r 11 0 = v 11 0 + 1 := by unfold xl; simp
theorem xl_16 (v : Rl) (p r k : Nat) : xl v p r 16 k = if k = v 11 0 then p else v 16 k := by
  unfold xl
  by_cases c : k = v 11 0
  · simp [c]
  · simp [c]
theorem xl_17 (v : Rl) (p r k : Nat) : xl v p r 17 k = if k = v 11 0 then r else v 17 k := by
  unfold xl
  by_cases c : k = v 11 0
  · simp [c]
  · simp [c]
theorem okR.x {v : Rl} (hv : okR v) (h4 : v 11 0 ≤ 4) {p r : Nat} (hp : p < 20) (hr : r ≤ 99) : okR (xl v p r) := by
  obtain ⟨⟨h0, h1, h2, h3, h5, h6, h7⟩, hJ, hT⟩ := hv
  unfold okR okV okJ
  simp only [xl_f (v := v) (p := p) (r := r) (f := 0) (by decide) (by decide) (by decide), xl_f (v := v) (p := p) (r := r) (f := 1) (by decide) (by decide) (by decide), xl_f (v := v) (p := p) (r := r) (f := 2) (by decide) (by decide) (by decide), xl_f (v := v) (p := p) (r := r) (f := 3) (by decide) (by decide) (by decide), xl_f (v := v) (p := p) (r := r) (f := 4) (by decide) (by decide) (by decide), xl_f (v := v) (p := p) (r := r) (f := 5) (by decide) (by decide) (by decide), xl_f (v := v) (p := p) (r := r) (f := 6) (by decide) (by decide) (by decide), xl_f (v := v) (p := p) (r := r) (f := 7) (by decide) (by decide) (by decide), xl_f (v := v) (p := p) (r := r) (f := 8) (by decide) (by decide) (by decide), xl_f (v := v) (p := p) (r := r) (f := 9) (by decide) (by decide) (by decide), xl_f (v := v) (p := p) (r := r) (f := 10) (by decide) (by decide) (by decide), xl_f (v := v) (p := p) (r := r) (f := 12) (by decide) (by decide) (by decide), xl_f (v := v) (p := p) (r := r) (f := 13) (by decide) (by decide) (by decide), xl_f (v := v) (p := p) (r := r) (f := 14) (by decide) (by decide) (by decide), xl_f (v := v) (p := p) (r := r) (f := 15) (by decide) (by decide) (by decide), xl_f (v := v) (p := p) (r := r) (f := 18) (by decide) (by decide) (by decide), xl_f (v := v) (p := p) (r := r) (f := 19) (by decide) (by decide) (by decide), xl_f (v := v) (p := p) (r := r) (f := 20) (by decide) (by decide) (by decide), xl_f (v := v) (p := p) (r := r) (f := 21) (by decide) (by decide) (by decide), xl_f (v := v) (p := p) (r := r) (f := 22) (by decide) (by decide) (by decide), xl_f (v := v) (p := p) (r := r) (f := 23) (by decide) (by decide) (by decide), xl_f (v := v) (p := p) (r := r) (f := 24) (by decide) (by decide) (by decide), xl_f (v := v) (p := p) (r := r) (f := 25) (by decide) (by decide) (by decide), xl_f (v := v) (p := p) (r := r) (f := 26) (by decide) (by decide) (by decide), xl_f (v := v) (p := p) (r := r) (f := 27) (by decide) (by decide) (by decide), xl_f (v := v) (p := p) (r := r) (f := 28) (by decide) (by decide) (by decide), xl_f (v := v) (p := p) (r := r) (f := 29) (by decide) (by decide) (by decide), xl_11]
  obtain ⟨a0, a1, a2, a3, a4, a5, a6, a7, a8, a9, a10, a11, a12⟩ := h0
  refine ⟨⟨⟨a0, a1, a2, a3, a4, a5, a6, a7, a8, a9, a10, by omega, a12⟩, fun k hk => ?_, h2, h3, h5, h6, h7⟩, hJ, hT⟩
  rw [xl_16, xl_17]
  by_cases c : k = v 11 0
  · rw [if_pos c, if_pos c]; exact ⟨hp, hr⟩
  · rw [if_neg c, if_neg c]; exact h1 k (by omega)
theorem RelC.x {v : Rl} {rs : A1} {ra : A2} (hR : RelC v rs ra) (p r : Nat) : RelC (xl v p r) (va_up rs 11 (nI (v 11 0 + 1))) (va_up (va_up ra 0 (upd (ra 0) (v 11 0) (nI p))) 1 (upd (ra 1) (v 11 0) (nI r))) := by
  obtain ⟨r0, r1, r2, r3, r4, r5, r6, r7⟩ := hR
  unfold RelC
  simp only [xl_f (v := v) (p := p) (r := r) (f := 12) (by decide) (by decide) (by decide), xl_f (v := v) (p := p) (r := r) (f := 13) (by decide) (by decide) (by decide), xl_f (v := v) (p := p) (r := r) (f := 14) (by decide) (by decide) (by decide), xl_f (v := v) (p := p) (r := r) (f := 15) (by decide) (by decide) (by decide), xl_f (v := v) (p := p) (r := r) (f := 18) (by decide) (by decide) (by decide), xl_f (v := v) (p := p) (r := r) (f := 19) (by decide) (by decide) (by decide), xl_f (v := v) (p := p) (r := r) (f := 20) (by decide) (by decide) (by decide), xl_f (v := v) (p := p) (r := r) (f := 21) (by decide) (by decide) (by decide), xl_f (v := v) (p := p) (r := r) (f := 22) (by decide) (by decide) (by decide), xl_f (v := v) (p := p) (r := r) (f := 23) (by decide) (by decide) (by decide), xl_f (v := v) (p := p) (r := r) (f := 24) (by decide) (by decide) (by decide), xl_f (v := v) (p := p) (r := r) (f := 25) (by decide) (by decide) (by decide), xl_f (v := v) (p := p) (r := r) (f := 26) (by decide) (by decide) (by decide), xl_f (v := v) (p := p) (r := r) (f := 27) (by decide) (by decide) (by decide), xl_f (v := v) (p := p) (r := r) (f := 28) (by decide) (by decide) (by decide), xl_f (v := v) (p := p) (r := r) (f := 29) (by decide) (by decide) (by decide), xl_f (v := v) (p := p) (r := r) (f := 30) (by decide) (by decide) (by decide), xl_f (v := v) (p := p) (r := r) (f := 31) (by decide) (by decide) (by decide), xl_11]
  refine ⟨fun j hj => ?_, fun k hk => ?_, ?_⟩
  · by_cases q : j = 11
    · rw [q, up_at, xl_11]
    · rw [up_ne q, xl_f q (by omega) (by omega)]; exact r0 j hj
  · rw [xl_16, xl_17, up_ne (by decide), up_at, up_at]
    by_cases c : k = v 11 0
    · rw [if_pos c, if_pos c, c, u_at, u_at]; exact ⟨rfl, rfl⟩
    · rw [if_neg c, if_neg c, u_ne c, u_ne c]; exact r1 k (by omega)
  · simp only [va_up]
    simp only [Nat.reduceEqDiff, if_false]
    exact ⟨r2, r3, r4, r5, r6, r7⟩
theorem RelN.x {v : Rl} {j : Nat} {ma : A2} (hN : RelN v j ma) (p r : Nat) : RelN (xl v p r) j ma := by
  unfold RelN at hN ⊢
  simp only [xl_f (v := v) (p := p) (r := r) (f := 0) (by decide) (by decide) (by decide), xl_f (v := v) (p := p) (r := r) (f := 1) (by decide) (by decide) (by decide), xl_f (v := v) (p := p) (r := r) (f := 2) (by decide) (by decide) (by decide), xl_f (v := v) (p := p) (r := r) (f := 4) (by decide) (by decide) (by decide), xl_f (v := v) (p := p) (r := r) (f := 5) (by decide) (by decide) (by decide), xl_f (v := v) (p := p) (r := r) (f := 6) (by decide) (by decide) (by decide), xl_f (v := v) (p := p) (r := r) (f := 7) (by decide) (by decide) (by decide), xl_f (v := v) (p := p) (r := r) (f := 8) (by decide) (by decide) (by decide), xl_f (v := v) (p := p) (r := r) (f := 9) (by decide) (by decide) (by decide), xl_f (v := v) (p := p) (r := r) (f := 10) (by decide) (by decide) (by decide), xl_f (v := v) (p := p) (r := r) (f := 12) (by decide) (by decide) (by decide), xl_f (v := v) (p := p) (r := r) (f := 13) (by decide) (by decide) (by decide), xl_f (v := v) (p := p) (r := r) (f := 18) (by decide) (by decide) (by decide), xl_f (v := v) (p := p) (r := r) (f := 19) (by decide) (by decide) (by decide), xl_f (v := v) (p := p) (r := r) (f := 20) (by decide) (by decide) (by decide), xl_f (v := v) (p := p) (r := r) (f := 21) (by decide) (by decide) (by decide), xl_f (v := v) (p := p) (r := r) (f := 22) (by decide) (by decide) (by decide), xl_f (v := v) (p := p) (r := r) (f := 23) (by decide) (by decide) (by decide), xl_f (v := v) (p := p) (r := r) (f := 24) (by decide) (by decide) (by decide)]
  exact hN
theorem RelT.x {v : Rl} {j : Nat} {ma : A2} (hT : RelT v j ma) (p r : Nat) : RelT (xl v p r) j ma := by
  unfold RelT at hT ⊢
  simp only [xl_f (v := v) (p := p) (r := r) (f := 14) (by decide) (by decide) (by decide), xl_f (v := v) (p := p) (r := r) (f := 25) (by decide) (by decide) (by decide), xl_f (v := v) (p := p) (r := r) (f := 26) (by decide) (by decide) (by decide), xl_f (v := v) (p := p) (r := r) (f := 27) (by decide) (by decide) (by decide), xl_f (v := v) (p := p) (r := r) (f := 28) (by decide) (by decide) (by decide), xl_f (v := v) (p := p) (r := r) (f := 29) (by decide) (by decide) (by decide)]
  exact hT
theorem LX.x {v : Rl} (hv : okV v) {j : Nat} {ms : A1} {ma : A2} (hP : RelP v j ma) {p r : Nat} (hp : p < 20) (hr : r ≤ 99) (h10 : ms 10 = nI p) (h11 : ms 11 = nI r) : LX (xl v p r) j ms ma := by
  obtain ⟨h1, h2, h3⟩ := hP
  refine ⟨v 11 0, v 16, v 17, p, r, h1, h2, fun k hk => ⟨(h3 k hk).1, (h3 k hk).2, hv.2.1 k hk⟩, h10, h11, hp, hr, fun q _ => ?_⟩
  rw [xl_11, sumN, xl_16, xl_17, if_pos rfl, if_pos rfl]
  congr 1
  exact sumN_cong (fun k hk => by rw [xl_16, xl_17, if_neg (by omega), if_neg (by omega)])
section LA
variable {us : A1} {ua : A2} {rs : A1} {ra ra2 sa : A2} {sl : L2} {ns : A1} {na : A2} {nl : L2} {yt : Int32} {im : Img} {ms : A1} {ma : A2} {ml : L2}
theorem c_lossLit {v : Rl} (hv : okR v) (h4 : v 11 0 ≤ 4) (hC : RelC v rs ra) (hK : NOK ns na nl) (rs2 : A1) {p r : Nat} (hp : p < 20) (hr : r ≤ 99) {post : Int64 → A1 → A2 → A1 → A2 → L2 → Prop} (h : ∀ rs' ra' ns' na' nl', BOK ra' → NOK ns' na' nl' → post (allL (xl v p r) 1) rs' ra' ns' na' nl') : P_X11_lossLit rs ra rs2 ra2 ns na nl (nI p) (nI r) post := by
  refine c_copyFrom hC hv.1 (fun rs' ra' hC1 hB1 _ => ?_)
  unfold P_X1_add
  rw [rc_s hC1 11]
  refine ⟨fun c => absurd ((nI_ltI (a := 4) (by decide) (by omega)).mp c) (by omega), fun _ => ⟨vp_in_nI (by omega) (by decide), vp_in_nI (by omega) (by decide), fun x hx => ?_⟩⟩
  rw [nI_1] at hx
  subst hx
  rw [nI_clamp (by omega)]
  have hC2 := hC1.x p r
  exact c_allOn (w := 1) hC2 (hv.x h4 hp hr).1 hK (by decide) (fun n1 a1 l1 hK1 => h _ _ _ _ _ hC2.bok hK1)
theorem m_litBy {v : Rl} (hv : okR v) (hM : RM v 0 ms ma) (hP : RelP v 0 ma) (h10 : ms 10 = 0) (h11 : ms 11 = 0) {p r : Nat} (hp : p < 20) (hr : r ≤ 99) {post : Int64 → A1 → A2 → L2 → Prop} (h : ∀ mt mb mk, RM v 0 mt mb → MG ms ma ml mt mb mk → post (allL (xl v p r) 1) mt mb mk) : P_X12_litBy ms ma ml (nI p) (nI r) post := by
  have hv' := hv.x hP.2.1 hp hr
  have hM2 : RM (xl v p r) 0 (va_up (va_up ms 10 (nI p)) 11 (nI r)) ma := ⟨hM.1.x p r, hM.2.1.x p r, LX.x hv.1 hP hp hr (by rw [up_ne (by decide), up_at]) up_at⟩
  refine m_allNow (w := 1) hv'.1 hv'.2.1 hM2 (by decide) (fun mt mb mk hF => h _ _ _ ⟨hM.1.fr (fun i _ _ => hF.2.1 i (by omega) (by omega)), hM.2.1.fr (fun i _ _ => hF.2.1 i (by omega) (by omega)), LX.of hv.1 (hP.fr (fun i _ _ => hF.2.1 i (by omega) (by omega))) (by rw [up_ne (by decide), up_at]) up_at⟩ ⟨fun j j0 j12 j13 => ?_, hF.g.2⟩)
  by_cases c11 : j = 11
  · rw [c11, up_at, h11]
  · rw [up_ne c11]
    by_cases c10 : j = 10
    · rw [c10, up_at, h10]
    · rw [up_ne c10, hF.1 j j12, up_ne c11, up_ne c10]
theorem c_bright {r : Nat} (h : r < 100) {post : Int32 → Prop} (hp : post 1) : P_X11_isBright (nI r) post := ⟨fun c => absurd c (nI_pos (by omega)), fun _ => ⟨fun c => absurd ((nI_ltI (a := 99) (by decide) (by omega)).mp c) (by omega), fun _ => hp⟩⟩
theorem c_bright0 {x : Int32} (h : x < 0 ∨ nI 100 ≤ x) {post : Int32 → Prop} (hp : post 0) : P_X11_isBright x post := by
  refine ⟨fun _ => hp, fun c => ⟨fun _ => hp, fun c2 => absurd ?_ c2⟩⟩
  have h2 := h.resolve_left c
  rw [Int32.le_iff_toInt_le, nI_toInt (by decide)] at h2
  rw [Int32.lt_iff_toInt_lt, show (99 : Int32).toInt = 99 from rfl]
  omega
theorem m_bright {r : Nat} (h : r < 100) {post : Int32 → Prop} (hp : post 1) : P_X12_isBright (nI r) post := m_inL_ok (m := 99) (by omega) (by decide) ⟨Or.inr rfl, hp⟩
theorem m_bright0 {x : Int32} (h : x < 0 ∨ nI 100 ≤ x) {post : Int32 → Prop} (hp : post 0) : P_X12_isBright x post := m_inL_bad (m := 99) h (by decide) ⟨Or.inl rfl, hp⟩
theorem q_lit (hI : Inv us ua rs ra ra2 sa sl ns na nl yt im ms ma ml) (rs2 : A1) (p w : Int32) : P_X11_lit rs ra rs2 ra2 ns na nl p w (fun r _ ra2' ns' na' nl' => P_X12_lit ms ma ml p w (fun r' mt mb mk => r = r' ∧ Inv us ua rs ra ra2' sa sl ns' na' nl' yt im mt mb mk)) := by
  have h1011 := hI.2.2.2.2.2.2.1
  obtain ⟨v, hv, hC, hM, hP, hY, hK, hB, F⟩ := hI.get
  have h0 := ok0 hv.1
  have fin := F ra2 ns na nl _ _ _ (MG.refl _ _ _) hM.1 hB hK
  rcases ixs p (n := v 0 0) (by omega) with h | ⟨q, hq, rfl⟩
  · exact c_hasP0 hC h (b0f (m_isP0 hM.1 hv.1 h (b0f ⟨rfl, fin⟩)))
  · rcases ixs w (n := 100) (by decide) with h | ⟨r, hr, rfl⟩
    · exact c_hasP hC hv.1 hq (b1f (c_bright0 h (b0f (m_isP hM.1 hv.1 hq (b1f (m_bright0 h (b0f ⟨rfl, fin⟩)))))))
    · refine c_hasP hC hv.1 hq (b1f (c_bright hr (b1f (c_lossLit hv hP.2.1 hC hK rs2 (by omega) (by omega) (fun rs' ra' ns' na' nl' hB' hK' => ?_)))))
      exact m_isP hM.1 hv.1 hq (b1f (m_bright hr (b1f (m_litBy hv hM hP (by rw [up_ne (by decide)]; exact h1011.1) (by rw [up_ne (by decide)]; exact h1011.2) (by omega) (by omega) (fun mt mb mk hM' hG => ⟨rfl, F _ _ _ _ _ _ _ hG hM'.1 hB' hK'⟩)))))
def lpI (v : Rl) (r : Nat) : Nat → Option (Nat × Int64)
  | 0 => none
  | p + 1 => mn (lpI v r p) p (allL (xl v p r) 1)
theorem lpI_le (v : Rl) (r : Nat) : ∀ p, ∀ q, lpI v r p = some q → q.1 < p
  | 0 => by intro q hq; simp [lpI] at hq
  | p + 1 => by
    rw [lpI]
    exact mn_le (fun q hq => Nat.lt_succ_of_lt (lpI_le v r p q hq)) (Nat.lt_succ_self p)
theorem q_lamp (hI : Inv us ua rs ra ra2 sa sl ns na nl yt im ms ma ml) (rs2 : A1) (w : Int32) : P_X11_lamp rs ra rs2 ra2 ns na nl w (fun r _ ra2' ns' na' nl' => P_X12_lamp ms ma ml w (fun r' mt mb mk => r = r' ∧ Inv us ua rs ra ra2' sa sl ns' na' nl' yt im mt mb mk)) := by
  have h1011 := hI.2.2.2.2.2.2.1
  obtain ⟨v, hv, hC, hM, hP, hY, hK, hB, F⟩ := hI.get
  have h0 := ok0 hv.1
  have fin := F ra2 ns na nl _ _ _ (MG.refl _ _ _) hM.1 hB hK
  rcases Nat.eq_zero_or_pos (v 2 0) with z | z
  · exact c_told0 hC z (b0f (m_rail0 hM.1 hv.1 z (b0f ⟨rfl, fin⟩)))
  · rcases ixs w (n := 100) (by decide) with h | ⟨r, hr, rfl⟩
    · exact c_told hC hv.1 z (b1f (c_bright0 h (b0t (m_rail hM.1 hv.1 z (b1f (m_bright0 h (b0t ⟨rfl, fin⟩)))))))
    · have M : ∀ (ra3 : A2) (ns' : A1) (na' : A2) (nl' : L2), BOK ra3 → NOK ns' na' nl' → P_X12_lamp ms ma ml (nI r) (fun r' mt mb mk => oN (-1) (lpI v r (v 0 0)) = r' ∧ Inv us ua rs ra ra3 sa sl ns' na' nl' yt im mt mb mk) := by
        intro ra3 ns' na' nl' hB3 hK3
        have L : ∀ (k i : Nat) (my : A1) (ay : A2) (ly : L2), i + k = v 0 0 → RM v 0 my ay → MG (va_up ms 0 0) ma ml my ay ly → P_X12_lamp_29 (nI r) (fun r' mt mb mk => oN (-1) (lpI v r (v 0 0)) = r' ∧ Inv us ua rs ra ra3 sa sl ns' na' nl' yt im mt mb mk) (k + 1) (oN (-1) (lpI v r i)) (oV 0 (lpI v r i)) (nI i) my ay ly := by
          intro k
          induction k with
          | zero =>
            intro i my ay ly hi r1 r2
            obtain rfl : i = v 0 0 := by omega
            exact ⟨fun _ => ⟨rfl, F _ _ _ _ _ _ _ r2 r1.1 hB3 hK3⟩, fun c => absurd ((cmp_le r1.1.1.2.1 (by omega) (by omega)).mpr (Nat.le_refl _)) c⟩
          | succ k ih =>
            intro i my ay ly hi r1 r2
            refine ⟨fun c => absurd ((cmp_le r1.1.1.2.1 (by omega) (by omega)).mp c) (by omega), fun _ => ?_⟩
            refine m_litBy hv r1 (hP.eq (r2.2.1 6 (by decide) (by decide) (by decide) (by decide)) (r2.2.1 7 (by decide) (by decide) (by decide) (by decide))) (by rw [r2.1 10 (by decide) (by decide) (by decide), up_ne (by decide)]; exact h1011.1) (by rw [r2.1 11 (by decide) (by decide) (by decide), up_ne (by decide)]; exact h1011.2) (by omega) (by omega) (fun mt mb mk hM' hG => ?_)
            have go := ih (i + 1) mt mb mk (by omega) hM' (r2.trans hG)
            rw [lpI] at go
            rw [nI_1]
            exact mn_m (A := fun n l => P_X12_lamp_29 (nI r) (fun r' mt mb mk => oN (-1) (lpI v r (v 0 0)) = r' ∧ Inv us ua rs ra ra3 sa sl ns' na' nl' yt im mt mb mk) (k + 1) n l (nI (i + 1)) mt mb mk) (fun q hq => by have := lpI_le v r i q hq; omega) 0 go
        exact m_rail hM.1 hv.1 z (b1f (m_bright hr (b1t ⟨v 0 0 + 1, L (v 0 0) 0 _ _ _ (by omega) hM (MG.refl _ _ _)⟩)))
      have L : ∀ (k i : Nat) (sx : A1) (ry : A2) (ny : A1) (ay : A2) (ly : L2), i + k = v 0 0 → BOK ry → NOK ny ay ly → P_X11_lamp_29 rs ra (nI r) (fun r' _ ra2' ns' na' nl' => P_X12_lamp ms ma ml (nI r) (fun r'' mt mb mk => r' = r'' ∧ Inv us ua rs ra ra2' sa sl ns' na' nl' yt im mt mb mk)) (k + 1) (oN (-1) (lpI v r i)) (oV 9223372036854775807 (lpI v r i)) (nI i) sx ry ny ay ly := by
        intro k
        induction k with
        | zero =>
          intro i sx ry ny ay ly hi r1 r2
          obtain rfl : i = v 0 0 := by omega
          exact ⟨fun _ => M ry ny ay ly r1 r2, fun c => absurd ((cmp_le (rc_s hC 0) (by omega) (by omega)).mpr (Nat.le_refl _)) c⟩
        | succ k ih =>
          intro i sx ry ny ay ly hi r1 r2
          refine ⟨fun c => absurd ((cmp_le (rc_s hC 0) (by omega) (by omega)).mp c) (by omega), fun _ => ?_⟩
          refine c_lossLit hv hP.2.1 hC r2 sx (by omega) (by omega) (fun rs' ra' ns' na' nl' hB' hK' => ?_)
          have go := ih (i + 1) rs' ra' ns' na' nl' (by omega) hB' hK'
          rw [lpI] at go
          rw [nI_1]
          exact mn_c (lt_top (by have := all_rng (hv.x hP.2.1 (show i < 20 by omega) (show r ≤ 99 by omega)).1 1; omega)) (-1) (A := fun n l => P_X11_lamp_29 rs ra (nI r) (fun r' _ ra2' ns' na' nl' => P_X12_lamp ms ma ml (nI r) (fun r'' mt mb mk => r' = r'' ∧ Inv us ua rs ra ra2' sa sl ns' na' nl' yt im mt mb mk)) (k + 1) n l (nI (i + 1)) rs' ra' ns' na' nl') go
      exact c_told hC hv.1 z (b1f (c_bright hr (b1t ⟨v 0 0 + 1, L (v 0 0) 0 rs2 ra2 ns na nl (by omega) hB hK⟩)))
/-! the watchman -/
theorem q_watch (hI : Inv us ua rs ra ra2 sa sl ns na nl yt im ms ma ml) (p : Int32) (hp : p = 0 ∨ p = 1) : P_X11_watch rs p (fun r rs' => P_X12_watch ms ma p (fun r' mt mb => r = r' ∧ Inv us ua rs' ra ra2 sa sl ns na nl yt im mt mb ml)) := by
  obtain ⟨v, hv, hC, hM, hP, hY, hK, hB, F⟩ := hI.get
  have h7 := ok7 hv.1
  have h10 := ok10 hv.1
  have fin := F ra2 ns na nl _ _ _ (MG.refl _ _ _) hM.1 hB hK
  have e7 : ma 14 3 = nI (v 7 0) := hM.1.2.2.2.2.2.2.2.1
  have e10 : ma 14 6 = nI (v 10 0) := hM.1.2.2.2.2.2.2.2.2.2.2
  obtain ⟨x, hx1, hx⟩ : ∃ x, x ≤ 1 ∧ p = nI x := by
    rcases hp with h | h
    · exact ⟨0, by decide, h⟩
    · exact ⟨1, by decide, h⟩
  have FF : Inv us ua (va_up rs 10 p) ra ra2 sa sl ns na nl yt im (va_up ms 0 0) (va_up ma 14 (upd (ma 14) 6 p)) ml := by
    rw [hx]
    have hM' := hM.w x
    have hG : MG (va_up ms 0 0) ma ml (va_up ms 0 0) (va_up ma 14 (upd (ma 14) 6 (nI x))) ml := MG.s _
    exact hI.step ((MG.z ms ma ml).trans hG) (hv.w hx1) (hC.w x) hM'.1 hM'.2.1 ((hP.vs 0 x (by decide) (by decide) (by decide)).eq (up_ne (by decide)) (up_ne (by decide))) ((hY.vs 0 x (by decide) (by decide) (by decide)).eq (up_ne (by decide))) hB hK
  have M : ¬ v 7 0 = 0 → ∀ r : Int32, r = nI (v 10 0) → P_X12_watch ms ma p (fun r' mt mb => r = r' ∧ Inv us ua (va_up rs 10 p) ra ra2 sa sl ns na nl yt im mt mb ml) := by
    intro h7n r hr
    refine ⟨fun _ y hy => ⟨fun c => ?_, fun c => ?_⟩, fun c => absurd ((cmp_eq (i := 0) e7 (by omega) (by decide)).mp c) h7n⟩
    · rw [e10] at hy
      rw [c] at FF ⊢
      exact ⟨hr.trans hy.symm, FF⟩
    · rw [e10] at hy
      have : p = 1 := hp.resolve_left c
      rw [this] at FF ⊢
      exact ⟨hr.trans hy.symm, FF⟩
  unfold P_X11_watch
  rw [rc_s hC 7, rc_s hC 10, show (0 : Int32) = nI 0 from rfl, nI_eq (by omega) (by decide), nI_eq (by omega) (by decide)]
  refine ⟨fun c => ⟨fun c2 => ⟨hp, M c _ (by rw [c2])⟩, fun c2 => ⟨hp, M c _ ?_⟩⟩, fun c => ?_⟩
  · have : v 10 0 = 1 := by omega
    rw [this]
    rfl
  · exact ⟨fun c2 => absurd (by rw [e7, c]; rfl) c2, fun _ => ⟨rfl, fin⟩⟩
/-! his penny -/
theorem sumL_sub (f g : Nat → Int64) : ∀ n : Nat, sumL (fun k => f k - g k) n = sumL f n - sumL g n
  | 0 => by simp [sumL]
  | n + 1 => by rw [sumL, sumL, sumL, sumL_sub f g n]; grind
def lsW (v : Rl) (b : Nat) : Int64 := lossL (vs v 10 0 0) b - lossL (vs v 10 0 1) b
theorem MG.l6 (x : Nat → Int64) : MG ms ma ml ms ma (va_up ml 6 x) := ⟨fun _ _ _ _ => rfl, fun _ _ _ _ _ => rfl, fun _ _ => rfl, fun _ _ => rfl, up_ne (by decide)⟩
theorem vs_ww (v : Rl) (x y : Nat) : vs (vs v 10 0 x) 10 0 y = vs v 10 0 y := vs_vs v 10 0 x y
theorem m_laysWatch {v : Rl} (hv : okR v) (hM : RM v 0 ms ma) {post : A1 → A2 → L2 → Prop} (h : ∀ mt mb mk, RM v 0 mt mb → MG ms ma ml mt mb mk → (∀ b, b < v 13 0 → mk 6 b = lsW v b) → post mt mb mk) : P_X12_laysWatch ms ma ml post := by
  have h13 := ok13 hv.1
  have hv0 := hv.w (x := 0) (by decide)
  have hv1 := hv.w (x := 1) (by decide)
  intro x8 h8
  rw [show ma 14 6 = nI (v 10 0) from hM.1.2.2.2.2.2.2.2.2.2.2] at h8
  subst h8
  have hMa := hM.w 0
  refine m_nightF hv0.1 hv0.2.1 hMa (fun m1 a1 l1 hF1 hP1 => ?_)
  have hM1 := hF1.rm hMa
  have hG1 : MG ms ma ml m1 a1 l1 := (MG.s _).trans hF1.g
  have LL : ∀ (m2 : A1) (a2 : A2), RM (vs v 10 0 1) 0 m2 a2 → ∀ (k i : Nat) (lx : L2), i + k = v 13 0 → MP (vs v 10 0 1) lx → MG ms ma ml m2 a2 lx → (∀ x, x < i → lx 6 x = lsW v x) → (∀ x, i ≤ x → x < v 13 0 → lx 6 x = lossL (vs v 10 0 0) x) → P_X12_laysWatch_63 post (nI (v 10 0)) m2 a2 (k + 1) (nI i) lx := by
    intro m2 a2 hM2 k
    have e : a2 10 0 = nI (v 13 0) := by rw [hM2.1.1.2.2.2.2, vs_f (by decide)]
    induction k with
    | zero =>
      intro i lx hi q0 qG q1 q2
      obtain rfl : i = v 13 0 := by omega
      refine ⟨fun _ => ?_, fun c => absurd ((cmp_le e (by omega) (by omega)).mpr (Nat.le_refl _)) c⟩
      have hM3 := hM2.w (v 10 0)
      rw [vs_ww, vs_self] at hM3
      exact h _ _ _ hM3 (qG.trans (MG.s _)) q1
    | succ k ih =>
      intro i lx hi q0 qG q1 q2
      refine ⟨fun c => absurd ((cmp_le e (by omega) (by omega)).mp c) (by omega), fun _ => ⟨vp_in_nI (by omega) (by decide), ?_⟩⟩
      refine m_lossOf hv1.1 hM2.1 q0 (by rw [vs_f (by decide)]; omega) ⟨vp_in_nI (by omega) (by decide), ?_⟩
      rw [nI_1, nI_clamp (by omega), q2 i (Nat.le_refl _) (by omega)]
      refine ih (i + 1) _ (by omega) ?_ (qG.trans (MG.l6 _)) (fun x hx => ?_) (fun x h1 h2 => by rw [up_at, uL_ne (by omega)]; exact q2 x (by omega) h2)
      · unfold MP at q0 ⊢
        rw [up_ne (by decide), up_ne (by decide)]
        exact q0
      · rw [up_at]
        by_cases c : x = i
        · rw [c, uL_at]; rfl
        · rw [uL_ne c]; exact q1 x (by omega)
  have e1 : a1 10 0 = nI (v 13 0) := by rw [hM1.1.1.2.2.2.2, vs_f (by decide)]
  have L1 : ∀ (k i : Nat) (lx : L2), i + k = v 13 0 → MP (vs v 10 0 0) lx → MG ms ma ml m1 a1 lx → (∀ x, x < i → lx 6 x = lossL (vs v 10 0 0) x) → P_X12_laysWatch_22 post (fun (x1_ : Int32) (ms : Nat → Int32) (ma : Nat → Nat → Int32) (ml : Nat → Nat → Int64) => P_X12_laysWatch_49 post x1_ ms ma ml) (nI (v 10 0)) m1 a1 (k + 1) (nI i) lx := by
    intro k
    induction k with
    | zero =>
      intro i lx hi q0 qG q1
      obtain rfl : i = v 13 0 := by omega
      refine ⟨fun _ => ?_, fun c => absurd ((cmp_le e1 (by omega) (by omega)).mpr (Nat.le_refl _)) c⟩
      have hMb := hM1.w 1
      rw [vs_ww] at hMb
      refine m_nightF hv1.1 hv1.2.1 hMb (fun m3 a3 l3 hF3 hP3 => ?_)
      exact ⟨v 13 0 + 1, LL m3 a3 (hF3.rm hMb) (v 13 0) 0 l3 (by omega) hP3 ((qG.trans (MG.s _)).trans hF3.g) (fun x hx => by omega) (fun x _ hx => by rw [hF3.2.2 6 (by decide) (by decide) (by decide)]; exact q1 x hx)⟩
    | succ k ih =>
      intro i lx hi q0 qG q1
      refine ⟨fun c => absurd ((cmp_le e1 (by omega) (by omega)).mp c) (by omega), fun _ => ?_⟩
      refine m_lossOf hv0.1 hM1.1 q0 (by rw [vs_f (by decide)]; omega) ⟨vp_in_nI (by omega) (by decide), ?_⟩
      rw [nI_1, nI_clamp (by omega)]
      refine ih (i + 1) _ (by omega) ?_ (qG.trans (MG.l6 _)) (fun x hx => ?_)
      · unfold MP at q0 ⊢
        rw [up_ne (by decide), up_ne (by decide)]
        exact q0
      · rw [up_at]
        by_cases c : x = i
        · rw [c, uL_at]
        · rw [uL_ne c]; exact q1 x (by omega)
  exact ⟨v 13 0 + 1, L1 (v 13 0) 0 l1 (by omega) hP1 hG1 (fun x hx => by omega)⟩
theorem q_penny (hI : Inv us ua rs ra ra2 sa sl ns na nl yt im ms ma ml) (rs2 : A1) : P_X11_penny rs ra rs2 ra2 ns na nl (fun r _ ra2' ns' na' nl' => P_X12_penny ms ma ml (fun r' mt mb mk => r = r' ∧ Inv us ua rs ra ra2' sa sl ns' na' nl' yt im mt mb mk)) := by
  obtain ⟨v, hv, hC, hM, hP, hY, hK, hB, F⟩ := hI.get
  have h7 := ok7 hv.1
  have h13 := ok13 hv.1
  have hv0 := hv.w (x := 0) (by decide)
  have hv1 := hv.w (x := 1) (by decide)
  have fin := F ra2 ns na nl _ _ _ (MG.refl _ _ _) hM.1 hB hK
  have e7 : ma 14 3 = nI (v 7 0) := hM.1.2.2.2.2.2.2.2.1
  unfold P_X11_penny
  rw [rc_s hC 7, show (0 : Int32) = nI 0 from rfl, nI_eq (by omega) (by decide)]
  refine ⟨fun c => c_copyFrom hC hv.1 (fun rs' ra' hC1 hB1 _ => ?_), fun c => ⟨fun c2 => absurd (by rw [e7, c]; rfl) c2, fun _ => ⟨rfl, fin⟩⟩⟩
  have hC1a := hC1.w 0
  have hC1b := hC1.w 1
  refine c_allOn (w := 1) hC1a hv0.1 hK (by decide) (fun n1 a1 l1 hK1 => c_allOn (w := 1) hC1b hv1.1 hK1 (by decide) (fun n2 a2 l2 hK2 => c_wages hC hv.1 ?_))
  have e0 : allL (vs v 10 0 0) 1 = sumL (fun b => lossL (vs v 10 0 0) b) (v 13 0) := by unfold allL; rw [vs_f (by decide)]; rfl
  have e1 : allL (vs v 10 0 1) 1 = sumL (fun b => lossL (vs v 10 0 1) b) (v 13 0) := by unfold allL; rw [vs_f (by decide)]; rfl
  have eS : sumL (fun b => lsW v b) (v 13 0) = allL (vs v 10 0 0) 1 - allL (vs v 10 0 1) 1 := by rw [e0, e1, ← sumL_sub]; rfl
  refine ⟨fun _ => m_laysWatch hv hM (fun mt mb mk hM' hG h6 => m_wages hv.1 hM'.1 (fun x hx => ?_)), fun c2 => absurd ((cmp_eq (i := 0) e7 (by omega) (by decide)).mp c2) c⟩
  have e13 : mb 10 0 = nI (v 13 0) := hM'.1.1.2.2.2.2
  have fin2 := F ra' n2 a2 l2 mt mb mk hG hM'.1 hB1 hK2
  have L : ∀ k i, i + k = v 13 0 → P_X12_penny_30 (fun r' mt mb mk => allL (vs v 10 0 0) 1 - allL (vs v 10 0 1) 1 - lN (wagesZ v) = r' ∧ Inv us ua rs ra ra' sa sl n2 a2 l2 yt im mt mb mk) mt mb mk (k + 1) (x + sumL (fun b => lsW v b) i) (nI i) := by
    intro k
    induction k with
    | zero =>
      intro i hi
      obtain rfl : i = v 13 0 := by omega
      refine ⟨fun _ => ⟨?_, fin2⟩, fun c => absurd ((cmp_le e13 (by omega) (by omega)).mpr (Nat.le_refl _)) c⟩
      rw [eS, hx]
      grind
    | succ k ih =>
      intro i hi
      have go := ih (i + 1) (by omega)
      rw [sumL, ← Int64.add_assoc] at go
      refine ⟨fun c => absurd ((cmp_le e13 (by omega) (by omega)).mp c) (by omega), fun _ => ⟨vp_in_nI (by omega) (by decide), fun y hy => ?_⟩⟩
      rw [nI_clamp (by omega), h6 i (by omega)] at hy
      rw [hy, nI_1]
      exact go
  have := L (v 13 0) 0 (by omega)
  rw [show sumL (fun b => lsW v b) 0 = 0 from rfl, Int64.add_zero] at this
  exact ⟨v 13 0 + 1, this⟩
end LA

