/-! images: keep, back, rather: what the class's calls must come to, and that it is the reference's -/
def imS (im : Img) (k : Nat) : A1 × A2 := match im k with
  | none => (fun _ => 0, fun _ _ => 0)
  | some q => q
def P_X11_keep (rs : A1) (ra : A2) (im : Img) (p1 : Int32) (post : Int32 → Img → Prop) : Prop := P_X11_isImage p1 (fun r => ((¬ r = 0) → ∃ k, k < 3 ∧ p1 = nI k ∧ P_X4_copyFrom (imS im k).1 (imS im k).2 rs ra (fun rs' ra' => post 0 (fun i => if i = k then some (rs', ra') else im i))) ∧ ((r = 0) → post (-2) im))
def P_X11_back (rs : A1) (ra : A2) (im : Img) (p1 : Int32) (post : Int32 → A1 → A2 → Prop) : Prop := P_X11_isImage p1 (fun r => ((¬ r = 0) → ∃ k, k < 3 ∧ p1 = nI k ∧ (im k = none → post (-6) rs ra) ∧ ∀ q, im k = some q → P_X4_copyFrom rs ra q.1 q.2 (fun rs' ra' => post 0 rs' ra')) ∧ ((r = 0) → post (-2) rs ra))
abbrev rtS (rs : A1) (c : Int32) : A1 := va_up rs 14 c
abbrev rtA (ra : A2) (t1 t2 t3 t4 t5 : A1) : A2 := va_up (va_up (va_up (va_up (va_up ra 9 t1) 10 t2) 11 t3) 12 t4) 13 t5
def P_rtE (hr tr : Int32) (P : Int32 → Prop) : Prop := ((¬ hr = 0) → ((tr ≤ hr) → P 0) ∧ ((¬ tr ≤ hr) → P 1)) ∧ ((hr = 0) → ((¬ tr = 0) → ((tr ≤ hr) → P 0) ∧ ((¬ tr ≤ hr) → P 1)) ∧ ((tr = 0) → P (-1)))
def P_X11_rather (rs : A1) (ra : A2) (rs2 : A1) (ra2 : A2) (ns : A1) (na : A2) (im : Img) (p1 p2 : Int32) (post : Int32 → A1 → A2 → A1 → A2 → Prop) : Prop := P_X4_hasThief rs p1 (fun r1 => ((r1 = 0) → post (-2) rs2 ra2 ns na) ∧ ((¬ r1 = 0) → P_X11_isImage p2 (fun r2 => ((¬ r2 = 0) → ∃ k, k < 3 ∧ p2 = nI k ∧ (im k = none → post (-2) rs2 ra2 ns na) ∧ ∀ q, im k = some q → P_X4_isTold q.1 (fun r3 => ((r3 = 0) → post (-2) rs2 ra2 ns na) ∧ ((¬ r3 = 0) → P_X11_netTaken rs ra ns na p1 (fun hr ns1 na1 => P_X4_copyFrom rs2 ra2 q.1 q.2 (fun rs3 ra3 => P_X9_copyFrom (rs3 14) (ra3 9) (ra3 10) (ra3 11) (ra3 12) (ra3 13) (rs 14) (ra 9) (ra 10) (ra 11) (ra 12) (ra 13) (fun c t1 t2 t3 t4 t5 => P_X11_netTaken (rtS rs3 c) (rtA ra3 t1 t2 t3 t4 t5) ns1 na1 p1 (fun tr ns2 na2 => P_rtE hr tr (fun r => post r (rtS rs3 c) (rtA ra3 t1 t2 t3 t4 t5) ns2 na2)))))))) ∧ ((r2 = 0) → post (-2) rs2 ra2 ns na))))
section KB2
variable {us : A1} {ua : A2} {rs : A1} {ra ra2 sa : A2} {sl : L2} {ns : A1} {na : A2} {nl : L2} {yt : Int32} {im : Img} {ms : A1} {ma : A2} {ml : L2}
theorem c_isImg {p : Int32} {post : Int32 → Prop} (h0 : (p < 0 ∨ nI 3 ≤ p) → post 0) (h1 : ∀ k, k < 3 → p = nI k → post 1) : P_X11_isImage p post := by
  refine ⟨fun c => h0 (Or.inl c), fun c => ⟨fun c2 => h0 (Or.inr c2), fun c2 => ?_⟩⟩
  obtain ⟨j, hj, rfl⟩ := nI_of c
  exact h1 j (Nat.lt_of_not_le (fun g => c2 (nI_le (a := 3) g hj))) rfl
theorem m_keepF (hI : Inv us ua rs ra ra2 sa sl ns na nl yt im ms ma ml) {k : Nat} (hk : k < 3) : ∃ v, okR v ∧ RelC v rs ra ∧ ∀ rs' ra', RelC v rs' ra' → P_X12_keep ms ma (nI k) (fun r mt mb => 0 = r ∧ Inv us ua rs ra ra2 sa sl ns na nl yt (fun i => if i = k then some (rs', ra') else im i) mt mb ml) := by
  obtain ⟨hTp, ⟨v, hv, hC, hN, hT, hP, hY⟩, hB, hK, hS, hIm, h10, hy⟩ := hI
  refine ⟨v, hv, hC, fun rs' ra' hC' => m_inL_ok (m := 2) (by omega) (by decide) (b1t ?_)⟩
  rw [show (1 : Int32) + nI k = nI (k + 1) by rw [show (1 : Int32) = nI 1 from rfl, nI_add, Nat.add_comm]]
  refine m_copyRail (a := 0) (by decide) (by omega) (by omega) ⟨vp_in_nI hk (by decide), rfl, ?_⟩
  rw [nI_clamp (by omega)]
  have e : ∀ j, j ≠ 17 → va_up (cpA ma 0 (k + 1)) 17 (upd (cpA ma 0 (k + 1) 17) k 1) j = cpA ma 0 (k + 1) j := fun j hj => up_ne hj
  have t2 : va_up (cpA ma 0 (k + 1)) 17 (upd (cpA ma 0 (k + 1) 17) k 1) 2 = ma 2 := by rw [e 2 (by decide)]; exact cpA_ne (by decide)
  refine ⟨hTp.z t2, ⟨v, hv, hC, (hN.cpo hv.1 (by omega)).fr (fun i _ _ => e i (by omega)), (hT.cpo hv.1 (by omega)).eq (e 12 (by decide)) (e 13 (by decide)), (hP.cpo (by omega)).eq (e 6 (by decide)) (e 7 (by decide)), (hY.cpo (by omega)).eq (e 16 (by decide))⟩, hB, hK, fun i hi => ?_, fun i hi => ?_, ⟨by rw [up_ne (by decide)]; exact h10.1, by rw [up_ne (by decide)]; exact h10.2⟩, hy⟩
  · rw [e 0 (by decide), e 1 (by decide), cpA_ne (by decide), cpA_ne (by decide)]
    exact hS i hi
  · rw [up_at, cpA_ne (show 17 < 3 ∨ 17 = 15 ∨ 16 < 17 by decide)]
    by_cases c : i = k
    · subst c
      simp only [if_true]
      rw [u_at]
      exact ⟨rfl, v, hv, hC', (hN.cp hv.1).fr (fun i _ _ => e i (by omega)), (hT.cp hv.1).eq (e 12 (by decide)) (e 13 (by decide)), hP.cp.eq (e 6 (by decide)) (e 7 (by decide)), hY.cp.eq (e 16 (by decide))⟩
    · simp only [if_neg c]
      rw [u_ne c]
      have hh := hIm i hi
      cases hm : im i with
      | none =>
        rw [hm] at hh
        exact hh
      | some q =>
        rw [hm] at hh
        simp only at hh ⊢
        obtain ⟨g0, w, g1, g2, g3, g4, g5, g6⟩ := hh
        exact ⟨g0, w, g1, g2, (g3.cpo g1.1 (by omega)).fr (fun i _ _ => e i (by omega)), (g4.cpo g1.1 (by omega)).eq (e 12 (by decide)) (e 13 (by decide)), (g5.cpo (by omega)).eq (e 6 (by decide)) (e 7 (by decide)), (g6.cpo (by omega)).eq (e 16 (by decide))⟩
theorem m_backF (hI : Inv us ua rs ra ra2 sa sl ns na nl yt im ms ma ml) {k : Nat} (hk : k < 3) {q : A1 × A2} (hm : im k = some q) : ∃ v, okR v ∧ RelC v q.1 q.2 ∧ ∀ rs' ra', RelC v rs' ra' → P_X12_back ms ma (nI k) (fun r mt mb => 0 = r ∧ Inv us ua rs' ra' ra2 sa sl ns na nl yt im mt mb ml) := by
  obtain ⟨hTp, -, hB, hK, hS, hIm, h10, hy⟩ := hI
  have hh := hIm k hk
  rw [hm] at hh
  simp only at hh
  obtain ⟨h17, v, hv, hC, hN, hT, hP, hY⟩ := hh
  refine ⟨v, hv, hC, fun rs' ra' hC' => m_inL_ok (m := 2) (by omega) (by decide) (b1t ⟨vp_in_nI hk (by decide), ?_⟩)⟩
  rw [nI_clamp (by omega), h17, show (1 : Int32) + nI k = nI (k + 1) by rw [show (1 : Int32) = nI 1 from rfl, nI_add, Nat.add_comm]]
  refine b1t (m_copyRail (b := 0) (by omega) (by decide) (by omega) ⟨rfl, ?_⟩)
  refine ⟨hTp.z (cpA_ne (by decide)), ⟨v, hv, hC', hN.cp hv.1, hT.cp hv.1, hP.cp, hY.cp⟩, hB, hK, fun i hi => ?_, fun i hi => ?_, ⟨by rw [up_ne (by decide)]; exact h10.1, by rw [up_ne (by decide)]; exact h10.2⟩, hy⟩
  · rw [cpA_ne (by decide), cpA_ne (by decide)]
    exact hS i hi
  · have hh := hIm i hi
    rw [cpA_ne (show 17 < 3 ∨ 17 = 15 ∨ 16 < 17 by decide)]
    cases hm : im i with
    | none =>
      rw [hm] at hh
      exact hh
    | some q =>
      rw [hm] at hh
      simp only at hh ⊢
      obtain ⟨g0, w, g1, g2, g3, g4, g5, g6⟩ := hh
      exact ⟨g0, w, g1, g2, g3.cpo g1.1 (by omega), g4.cpo g1.1 (by omega), g5.cpo (by omega), g6.cpo (by omega)⟩
theorem q_keep (hI : Inv us ua rs ra ra2 sa sl ns na nl yt im ms ma ml) (p : Int32) : P_X11_keep rs ra im p (fun r im' => P_X12_keep ms ma p (fun r' mt mb => r = r' ∧ Inv us ua rs ra ra2 sa sl ns na nl yt im' mt mb ml)) := by
  refine c_isImg (fun g => ⟨fun c => absurd rfl c, fun _ => m_keep0 hI g⟩) (fun k hk e => ⟨fun _ => ?_, fun c => absurd c (by decide)⟩)
  subst e
  obtain ⟨v, hv, hC, hM⟩ := m_keepF hI hk
  exact ⟨k, hk, rfl, c_copyFrom hC hv.1 (fun rs' ra' hC' _ _ => hM rs' ra' hC')⟩
theorem q_back (hI : Inv us ua rs ra ra2 sa sl ns na nl yt im ms ma ml) (p : Int32) : P_X11_back rs ra im p (fun r rs' ra' => P_X12_back ms ma p (fun r' mt mb => r = r' ∧ Inv us ua rs' ra' ra2 sa sl ns na nl yt im mt mb ml)) := by
  refine c_isImg (fun g => ⟨fun c => absurd rfl c, fun _ => m_back0 hI g⟩) (fun k hk e => ⟨fun _ => ?_, fun c => absurd c (by decide)⟩)
  subst e
  refine ⟨k, hk, rfl, fun hm => m_backN hI hk hm, fun q hm => ?_⟩
  obtain ⟨v, hv, hC, hM⟩ := m_backF hI hk hm
  exact c_copyFrom hC hv.1 (fun rs' ra' hC' _ _ => hM rs' ra' hC')
/-- the image's rail, with the thieves from here -/
def mxv (v w : Rl) : Rl := fun f k => if f = 14 then v 14 k else if f = 25 then v 25 k else if f = 26 then v 26 k else if f = 27 then v 27 k else if f = 28 then v 28 k else if f = 29 then v 29 k else w f k
theorem mxv_ok {v w : Rl} (hv : okV v) (hw : okV w) : okV (mxv v w) := by
  have h14 : v 14 0 ≤ 6 := ok14 hv
  obtain ⟨⟨a0, a1, a2, a3, a4, a5, a6, a7, a8, a9, a10, a11, a12, a13, a14, a15, a16⟩, w1, w2, w3, w4, w5, w6⟩ := hw
  exact ⟨⟨a0, a1, a2, a3, a4, a5, a6, a7, a8, a9, a10, a11, a12, a13, h14, a15, a16⟩, w1, w2, w3, w4, hv.2.2.2.2.2.1, trivial⟩
theorem cpy6 {f g : Nat → Int32} {t : Nat} (ht : t < 6) : va_cpy f g 0 0 6 t = f t := by
  rw [pk_cpy_in (Nat.zero_le _) (by omega)]
  simp
theorem mxv_C {v w : Rl} {rs3 : A1} {ra3 : A2} (hv : okV v) (hC : RelC v rs ra) (h3 : RelC w rs3 ra3) : RelC (mxv v w) (rtS rs3 (rs 14)) (rtA ra3 (va_cpy (ra 9) (ra3 9) 0 0 6) (va_cpy (ra 10) (ra3 10) 0 0 6) (va_cpy (ra 11) (ra3 11) 0 0 6) (va_cpy (ra 12) (ra3 12) 0 0 6) (va_cpy (ra 13) (ra3 13) 0 0 6)) := by
  have h14 := ok14 hv
  obtain ⟨b0, b1, b2, b3, b4, b5, b6, b7⟩ := h3
  refine ⟨fun j hj => ?_, b1, b2, b3, b4, fun t ht => ?_, b6, b7⟩
  · by_cases z : j = 14
    · subst z
      exact hC.1 14 (by decide)
    · show va_up rs3 14 (rs 14) j = _
      rw [up_ne z, b0 j hj]
      unfold mxv
      rw [if_neg z, if_neg (by omega), if_neg (by omega), if_neg (by omega), if_neg (by omega), if_neg (by omega)]
  · have ht : t < v 14 0 := ht
    obtain ⟨c1, c2, c3, c4, c5⟩ := hC.2.2.2.2.2.1 t ht
    exact ⟨(cpy6 (by omega)).trans c1, (cpy6 (by omega)).trans c2, (cpy6 (by omega)).trans c3, (cpy6 (by omega)).trans c4, (cpy6 (by omega)).trans c5⟩
theorem rt_E {x y : Int32} {P P' : Int32 → Prop} (g : ∀ r, P r → P' r) (hp : P_rtE x y P) : P_rtE x y P' := ⟨fun c => ⟨fun d => g _ ((hp.1 c).1 d), fun d => g _ ((hp.1 c).2 d)⟩, fun c => ⟨fun d => ⟨fun k => g _ (((hp.2 c).1 d).1 k), fun k => g _ (((hp.2 c).1 d).2 k)⟩, fun d => g _ ((hp.2 c).2 d)⟩⟩
theorem rt_all {x y : Int32} {P : Int32 → Prop} (g : ∀ r, P r) : P_rtE x y P := ⟨fun _ => ⟨fun _ => g _, fun _ => g _⟩, fun _ => ⟨fun _ => ⟨fun _ => g _, fun _ => g _⟩, fun _ => g _⟩⟩
/-- two ends alike -/
theorem rt_two {x y : Int32} {G : Int32 → Int32 → Prop} (g : ∀ r, G r r) : P_rtE x y (fun r => P_rtE x y (fun r' => G r r')) := by
  refine ⟨fun c => ⟨fun d => ⟨fun _ => ⟨fun _ => g _, fun k => absurd d k⟩, fun k => absurd k c⟩, fun d => ⟨fun _ => ⟨fun k => absurd k d, fun _ => g _⟩, fun k => absurd k c⟩⟩, fun c => ⟨fun d => ⟨fun k => ⟨fun n => absurd c n, fun _ => ⟨fun _ => ⟨fun _ => g _, fun n => absurd k n⟩, fun n => absurd n d⟩⟩, fun k => ⟨fun n => absurd c n, fun _ => ⟨fun _ => ⟨fun n => absurd n k, fun _ => g _⟩, fun n => absurd n d⟩⟩⟩, fun d => ⟨fun n => absurd c n, fun _ => ⟨fun n => absurd d n, fun _ => g _⟩⟩⟩⟩
/-- the class answers -2 where the image's rail isn't there, the reference doesn't: their answers are alike where there are no thieves here (the state is alike in any case) -/
theorem q_rather (hI : Inv us ua rs ra ra2 sa sl ns na nl yt im ms ma ml) (rs2 : A1) (p w : Int32) : P_X11_rather rs ra rs2 ra2 ns na im p w (fun r _ ra2' ns' na' => P_X12_rather ms ma p w (fun r' mt => (rs 14 = 0 → r = r') ∧ Inv us ua rs ra ra2' sa sl ns' na' nl yt im mt ma ml)) := by
  have hIm := hI.2.2.2.2.2.1
  have h1011 := hI.2.2.2.2.2.2.1
  obtain ⟨v, hv, hC, hM, hP, hY, hK, hB, F⟩ := hI.get
  have h13 := ok13 hv.1
  have h14 := ok14 hv.1
  have fin := F ra2 ns na nl _ _ _ (MG.refl _ _ _) hM.1 hB hK
  rcases ixs p (n := v 14 0) (by omega) with h | ⟨t, ht, rfl⟩
  · exact c_hasT0 hC h (b0f (m_isT0 hM.2.1 hv.1 h (b0f ⟨fun _ => rfl, fin⟩)))
  · have hn : ¬ rs 14 = 0 := fun z => by
      have g := congrArg Int32.toInt ((rc_s hC 14).symm.trans z)
      rw [nI_toInt (by omega)] at g
      have g2 : (0 : Int32).toInt = 0 := rfl
      omega
    refine c_hasT hC hv.1 ht (b1f (c_isImg (fun g => b0t (m_isT hM.2.1 hv.1 ht (b1f (m_inL_bad (m := 2) g (by decide) (b0f ⟨fun _ => rfl, fin⟩))))) (fun k hk e => b1t ?_)))
    subst e
    have hh := hIm k hk
    refine ⟨k, hk, rfl, fun hm => ?_, fun q hm => ?_⟩
    · rw [hm] at hh
      refine m_isT hM.2.1 hv.1 ht (b1f (m_inL_ok (m := 2) (by omega) (by decide) (b1f ⟨vp_in_nI hk (by decide), ?_⟩)))
      rw [nI_clamp (by omega)]
      exact ⟨fun c => absurd hh c, fun _ => ⟨fun _ => rfl, fin⟩⟩
    · rw [hm] at hh
      simp only at hh
      obtain ⟨h17, u, hu, hCu, hNu, hTu, hPu, hYu⟩ := hh
      have hMu : RM (mxv v u) (k + 1) (va_up ms 0 0) ma := ⟨hNu, hM.2.1, LX.of (mxv_ok hv.1 hu.1) hPu (by rw [up_ne (by decide)]; exact h1011.1) (by rw [up_ne (by decide)]; exact h1011.2)⟩
      have M : ∀ G : Int32 → A1 → Prop, P_rtE (ntI v t) (ntI (mxv v u) t) (fun r' => G r' (va_up ms 0 0)) → P_X12_rather ms ma (nI t) (nI k) G := by
        intro G hG
        refine m_isT hM.2.1 hv.1 ht (b1f (m_inL_ok (m := 2) (by omega) (by decide) (b1f ⟨vp_in_nI hk (by decide), ?_⟩)))
        rw [nI_clamp (by omega), h17, show (1 : Int32) + nI k = nI (k + 1) by rw [show (1 : Int32) = nI 1 from rfl, nI_add, Nat.add_comm]]
        exact b1t (m_netOn (j := 0) hv.1 (by decide) hM ht (m_netOn (v := mxv v u) (mxv_ok hv.1 hu.1) (by omega) hMu ht hG))
      rcases Nat.eq_zero_or_pos (u 2 0) with h2 | h2
      · exact c_told0 hCu h2 ⟨fun _ => M _ (rt_all (fun r => ⟨fun z => absurd z hn, F ra2 _ _ nl _ _ _ (MG.refl _ _ _) hM.1 hB hK⟩)), fun c => absurd rfl c⟩
      refine c_told hCu hu.1 h2 (b1f ?_)
      refine c_netTaken hC hv.1 ht (fun nb hb => c_copyFrom hCu hu.1 (fun rs3 ra3 h3 hB3 _ => c_netTaken (v := mxv v u) (mxv_C hv.1 hC h3) (mxv_ok hv.1 hu.1) ht (fun nc hc => ?_)))
      have fin2 : ∀ ra2', BOK ra2' → Inv us ua rs ra ra2' sa sl (va_up (va_up ns 0 (nI (v 13 0))) 0 (nI (mxv v u 13 0))) nc nl yt im (va_up ms 0 0) ma ml := fun ra2' h => F ra2' _ _ nl _ _ _ (MG.refl _ _ _) hM.1 h (((hK.look hb _)).look hc _)
      exact rt_E (fun r hr => M _ hr) (rt_two (fun r => ⟨fun _ => rfl, fin2 _ hB3⟩))
end KB2
