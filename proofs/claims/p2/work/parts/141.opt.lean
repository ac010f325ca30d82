/-! options on both sides; the invariant, taken apart -/
theorem c_optionOf {v : Rl} {rs : A1} {ra : A2} (hR : RelC v rs ra) (hv : okV v) {b : Nat} (hb : b < v 13 0) {post : Int32 → Prop} (h : post (nI (opt v b))) : P_X0_optionOf (ra 7) (ra 8) (nI b) post := by
  have h13 := ok13 hv
  obtain ⟨-, -, -, e7, e8⟩ := hR.2.2.2.2.1 b hb
  obtain ⟨-, -, -, b23, b24⟩ := hv.2.2.2.2.1 b hb
  unfold P_X0_optionOf
  rw [nI_clamp (by omega), e7, e8, Int32.sub_add_cancel, show (2 : Int32) = nI 2 from rfl, pk_mul]
  unfold opt at h
  refine ⟨vp_in_nI (by omega) (by decide), vp_in_nI (by omega) (by decide), fun c => ?_, fun c => ?_⟩
  · have z : v 24 b = 0 := (nI_eq (b := 0) (by omega) (by decide)).mp c
    rw [z] at h
    rw [show (0 : Int32) = nI 0 from rfl, nI_add]
    exact h
  · have z : v 24 b = 1 := by
      have : v 24 b ≠ 0 := fun q => c (by rw [q]; rfl)
      omega
    rw [z] at h
    rw [nI_1]
    exact h
theorem RelC.vo {v : Rl} {rs : A1} {ra : A2} (hR : RelC v rs ra) {b o : Nat} (hb : b < 10) {loc mar : Nat → Int32} (hl : loc = upd (ra 7) b (nI (o / 2) - 1)) (hm : mar = upd (ra 8) b (nI (o % 2))) : RelC (vo v b o) rs (va_up (va_up ra 7 loc) 8 mar) := by
  obtain ⟨r0, r1, r2, r3, r4, r5, r6, r7⟩ := hR
  unfold RelC
  simp only [vo_f (v := v) (b := b) (o := o) (f := 11) (by decide) (by decide), vo_f (v := v) (b := b) (o := o) (f := 12) (by decide) (by decide), vo_f (v := v) (b := b) (o := o) (f := 13) (by decide) (by decide), vo_f (v := v) (b := b) (o := o) (f := 14) (by decide) (by decide), vo_f (v := v) (b := b) (o := o) (f := 15) (by decide) (by decide), vo_f (v := v) (b := b) (o := o) (f := 16) (by decide) (by decide), vo_f (v := v) (b := b) (o := o) (f := 17) (by decide) (by decide), vo_f (v := v) (b := b) (o := o) (f := 18) (by decide) (by decide), vo_f (v := v) (b := b) (o := o) (f := 19) (by decide) (by decide), vo_f (v := v) (b := b) (o := o) (f := 20) (by decide) (by decide), vo_f (v := v) (b := b) (o := o) (f := 21) (by decide) (by decide), vo_f (v := v) (b := b) (o := o) (f := 22) (by decide) (by decide), vo_f (v := v) (b := b) (o := o) (f := 25) (by decide) (by decide), vo_f (v := v) (b := b) (o := o) (f := 26) (by decide) (by decide), vo_f (v := v) (b := b) (o := o) (f := 27) (by decide) (by decide), vo_f (v := v) (b := b) (o := o) (f := 28) (by decide) (by decide), vo_f (v := v) (b := b) (o := o) (f := 29) (by decide) (by decide), vo_f (v := v) (b := b) (o := o) (f := 30) (by decide) (by decide), vo_f (v := v) (b := b) (o := o) (f := 31) (by decide) (by decide)]
  refine ⟨fun j hj => by rw [vo_f (by omega) (by omega)]; exact r0 j hj, r1, r2, r3, fun k hk => ?_, r5, r6, fun k hk => ?_⟩
  · obtain ⟨a, b', c, d, e⟩ := r4 k hk
    simp only [va_up]
    simp only [Nat.reduceEqDiff, if_false, if_true]
    rw [vo_23, vo_24, hl, hm]
    refine ⟨a, b', c, ?_, ?_⟩
    · by_cases q : k = b
      · rw [q, u_at, if_pos rfl]
      · rw [u_ne q, if_neg q]; exact d
    · by_cases q : k = b
      · rw [q, u_at, if_pos rfl]
      · rw [u_ne q, if_neg q]; exact e
  · rw [up_at, hm]
    by_cases q : k = b
    · rw [q, u_at]
      rcases Nat.mod_two_eq_zero_or_one o with z | z <;> rw [z]
      · exact Or.inl rfl
      · exact Or.inr rfl
    · rw [u_ne q]; exact r7 k hk
theorem c_setOption {v : Rl} {rs : A1} {ra : A2} (hR : RelC v rs ra) {b o : Nat} (hb : b < 10) (ho : o < 2 ^ 30) {post : (Nat → Int32) → (Nat → Int32) → Prop} (h : ∀ loc mar, RelC (vo v b o) rs (va_up (va_up ra 7 loc) 8 mar) → post loc mar) : P_X0_setOption (ra 7) (ra 8) (nI b) (nI o) post := by
  unfold P_X0_setOption
  rw [show (2 : Int32) = nI 2 from rfl, pk_rem (by omega) (by decide) (by decide), pk_div (by omega) (by decide) (by decide), nI_clamp (by omega)]
  refine ⟨vp_in_nI hb (by decide), fun c => ⟨vp_in_nI hb (by decide), ?_⟩, fun c => ⟨vp_in_nI hb (by decide), ?_⟩⟩
  · have z : o % 2 = 0 := by
      have : o % 2 ≠ 1 := fun q => c (by rw [q]; rfl)
      omega
    exact h _ _ (hR.vo hb rfl (by rw [z]; rfl))
  · have z : o % 2 = 1 := (nI_eq (b := 1) (by omega) (by decide)).mp c
    exact h _ _ (hR.vo hb rfl (by rw [z]; rfl))
theorem m_optionOf {v : Rl} {ma : A2} (hN : RelN v 0 ma) (hv : okV v) {b : Nat} (hb : b < v 13 0) {post : Int32 → Prop} (h : post (nI (opt v b))) : P_X12_optionOf ma (nI b) post := by
  have h13 := ok13 hv
  obtain ⟨-, -, -, e3, e4⟩ := hN.2.2.2.1 b hb
  show vp_in ((5 : Int32) * ((10 : Int32) * nI 0 + nI b) + 3) 250 ∧ (vp_in ((5 : Int32) * ((10 : Int32) * nI 0 + nI b) + 4) 250 ∧ (post ((2 * ((ma 11 (((5 : Int32) * ((10 : Int32) * nI 0 + nI b) + 3).toNatClampNeg)) + 1)) + (ma 11 (((5 : Int32) * ((10 : Int32) * nI 0 + nI b) + 4).toNatClampNeg)))))
  rw [show (5 : Int32) * ((10 : Int32) * nI 0 + nI b) + 3 = nI (5 * (10 * 0 + b) + 3) from ix5 0 b 3, show (5 : Int32) * ((10 : Int32) * nI 0 + nI b) + 4 = nI (5 * (10 * 0 + b) + 4) from ix5 0 b 4, nI_clamp (by omega), nI_clamp (by omega), e3, e4, Int32.sub_add_cancel, show (2 : Int32) = nI 2 from rfl, pk_mul, nI_add]
  exact ⟨vp_in_nI (by omega) (by decide), vp_in_nI (by omega) (by decide), h⟩
theorem m_hasOption {v : Rl} {ma : A2} (hN : RelN v 0 ma) {b o : Nat} (hb : b < 10) (ho : o < 2 ^ 30) {post : A2 → Prop} (h : ∀ mb : A2, RelN (vo v b o) 0 mb → (∀ j, j ≠ 11 → mb j = ma j) → (∀ x, 50 ≤ x → mb 11 x = ma 11 x) → post mb) : P_X12_hasOption ma (nI b) (nI o) post := by
  show vp_in ((5 : Int32) * ((10 : Int32) * nI 0 + nI b) + 3) 250 ∧ (vp_in ((5 : Int32) * ((10 : Int32) * nI 0 + nI b) + 4) 250 ∧ (post (va_up ma 11 (upd (upd (ma 11) (((5 : Int32) * ((10 : Int32) * nI 0 + nI b) + 3).toNatClampNeg) ((nI o / 2) - 1)) (((5 : Int32) * ((10 : Int32) * nI 0 + nI b) + 4).toNatClampNeg) (nI o - nI o / 2 * 2)))))
  rw [show (5 : Int32) * ((10 : Int32) * nI 0 + nI b) + 3 = nI (5 * (10 * 0 + b) + 3) from ix5 0 b 3, show (5 : Int32) * ((10 : Int32) * nI 0 + nI b) + 4 = nI (5 * (10 * 0 + b) + 4) from ix5 0 b 4, nI_clamp (by omega), nI_clamp (by omega), show (2 : Int32) = nI 2 from rfl, pk_rem (by omega) (by decide) (by decide), pk_div (by omega) (by decide) (by decide)]
  refine ⟨vp_in_nI (by omega) (by decide), vp_in_nI (by omega) (by decide), h _ ?_ (fun j hj => up_ne hj) (fun x hx => by rw [up_at, u_ne (by omega), u_ne (by omega)])⟩
  obtain ⟨r0, r1, r2, r3, r4⟩ := hN
  unfold RelN
  simp only [vo_f (v := v) (b := b) (o := o) (f := 0) (by decide) (by decide), vo_f (v := v) (b := b) (o := o) (f := 1) (by decide) (by decide), vo_f (v := v) (b := b) (o := o) (f := 2) (by decide) (by decide), vo_f (v := v) (b := b) (o := o) (f := 4) (by decide) (by decide), vo_f (v := v) (b := b) (o := o) (f := 5) (by decide) (by decide), vo_f (v := v) (b := b) (o := o) (f := 6) (by decide) (by decide), vo_f (v := v) (b := b) (o := o) (f := 7) (by decide) (by decide), vo_f (v := v) (b := b) (o := o) (f := 8) (by decide) (by decide), vo_f (v := v) (b := b) (o := o) (f := 9) (by decide) (by decide), vo_f (v := v) (b := b) (o := o) (f := 10) (by decide) (by decide), vo_f (v := v) (b := b) (o := o) (f := 12) (by decide) (by decide), vo_f (v := v) (b := b) (o := o) (f := 13) (by decide) (by decide), vo_f (v := v) (b := b) (o := o) (f := 18) (by decide) (by decide), vo_f (v := v) (b := b) (o := o) (f := 19) (by decide) (by decide), vo_f (v := v) (b := b) (o := o) (f := 20) (by decide) (by decide), vo_f (v := v) (b := b) (o := o) (f := 21) (by decide) (by decide), vo_f (v := v) (b := b) (o := o) (f := 22) (by decide) (by decide)]
  refine ⟨r0, r1, r2, fun k hk => ?_, r4⟩
  obtain ⟨a, b', c, d, e⟩ := r3 k hk
  rw [up_at, vo_23, vo_24]
  refine ⟨by rw [u_ne (by omega), u_ne (by omega)]; exact a, by rw [u_ne (by omega), u_ne (by omega)]; exact b', by rw [u_ne (by omega), u_ne (by omega)]; exact c, ?_, ?_⟩
  · by_cases q : k = b
    · rw [q, u_ne (by omega), u_at, if_pos rfl]
    · rw [u_ne (by omega), u_ne (by omega), if_neg q]; exact d
  · by_cases q : k = b
    · rw [q, u_at, if_pos rfl]
    · rw [u_ne (by omega), u_ne (by omega), if_neg q]; exact e
theorem RelT.vo {v : Rl} {j : Nat} {ma : A2} (h : RelT v j ma) (b o : Nat) : RelT (vo v b o) j ma := by
  unfold RelT at h ⊢
  simp only [vo_f (v := v) (b := b) (o := o) (f := 14) (by decide) (by decide), vo_f (v := v) (b := b) (o := o) (f := 25) (by decide) (by decide), vo_f (v := v) (b := b) (o := o) (f := 26) (by decide) (by decide), vo_f (v := v) (b := b) (o := o) (f := 27) (by decide) (by decide), vo_f (v := v) (b := b) (o := o) (f := 28) (by decide) (by decide), vo_f (v := v) (b := b) (o := o) (f := 29) (by decide) (by decide)]
  exact h
theorem RelP.vo {v : Rl} {j : Nat} {ma : A2} (h : RelP v j ma) (b o : Nat) : RelP (vo v b o) j ma := by
  unfold RelP at h ⊢
  simp only [vo_f (v := v) (b := b) (o := o) (f := 11) (by decide) (by decide), vo_f (v := v) (b := b) (o := o) (f := 16) (by decide) (by decide), vo_f (v := v) (b := b) (o := o) (f := 17) (by decide) (by decide)]
  exact h
theorem LX.vo {v : Rl} {j : Nat} {ms : A1} {ma : A2} (h : LX v j ms ma) (b o : Nat) : LX (vo v b o) j ms ma := by
  unfold LX at h ⊢
  simp only [vo_f (v := v) (b := b) (o := o) (f := 11) (by decide) (by decide), vo_f (v := v) (b := b) (o := o) (f := 16) (by decide) (by decide), vo_f (v := v) (b := b) (o := o) (f := 17) (by decide) (by decide)]
  exact h
theorem RelY.vo {v : Rl} {j : Nat} {ma : A2} (h : RelY v j ma) (b o : Nat) : RelY (vo v b o) j ma := by
  unfold RelY at h ⊢
  simp only [vo_f (v := v) (b := b) (o := o) (f := 15) (by decide) (by decide), vo_f (v := v) (b := b) (o := o) (f := 30) (by decide) (by decide), vo_f (v := v) (b := b) (o := o) (f := 31) (by decide) (by decide)]
  exact h
/-- the option of a bike of the reference's row 0 -/
theorem m_setO {v : Rl} {ms : A1} {ma : A2} (hM : RM v 0 ms ma) {b o : Nat} (hb : b < 10) (ho : o < 2 ^ 30) {post : A2 → Prop} (h : ∀ mb : A2, RM (vo v b o) 0 ms mb → (∀ (ms : A1) (ml : L2), MG ms ma ml ms mb ml) → (∀ j, j ≠ 11 → mb j = ma j) → post mb) : P_X12_hasOption ma (nI b) (nI o) post := by
  refine m_hasOption hM.1 hb ho (fun mb h1 h2 h3 => h mb ⟨h1, (hM.2.1.vo b o).eq (h2 12 (by decide)) (h2 13 (by decide)), ?_⟩ (fun ms ml => ⟨fun _ _ _ _ => rfl, fun j _ h11 _ _ => h2 j h11, h3, fun x _ => by rw [h2 14 (by decide)], rfl⟩) h2)
  have := hM.2.2.vo b o
  unfold LX at this ⊢
  rw [h2 6 (by decide), h2 7 (by decide)]
  exact this
section GET
variable {us : A1} {ua : A2} {rs : A1} {ra ra2 sa : A2} {sl : L2} {ns : A1} {na : A2} {nl : L2} {yt : Int32} {im : Img} {ms : A1} {ma : A2} {ml : L2}
theorem Inv.get (hI : Inv us ua rs ra ra2 sa sl ns na nl yt im ms ma ml) : ∃ v, okR v ∧ RelC v rs ra ∧ RM v 0 (va_up ms 0 0) ma ∧ RelP v 0 ma ∧ RelY v 0 ma ∧ NOK ns na nl ∧ BOK ra2 ∧ (∀ (ra2' : A2) (ns' : A1) (na' : A2) (nl' : L2) (mt : A1) (mb : A2) (mk : L2), MG (va_up ms 0 0) ma ml mt mb mk → RelN v 0 mb → BOK ra2' → NOK ns' na' nl' → Inv us ua rs ra ra2' sa sl ns' na' nl' yt im mt mb mk) := by
  obtain ⟨v, hv, hC, hN, hT, hP, hY⟩ := hI.2.1
  have h10 := hI.2.2.2.2.2.2.1
  exact ⟨v, hv, hC, ⟨hN, hT, (LX.of hv.1 hP (by rw [up_ne (by decide)]; exact h10.1) (by rw [up_ne (by decide)]; exact h10.2))⟩, hP, hY, hI.2.2.2.1, hI.2.2.1, fun ra2' ns' na' nl' mt mb mk hG hN' hB hK => hI.same hv hC hT hP hY ((MG.z ms ma ml).trans hG) hN' hB hK⟩
end GET
theorem NOK.look {ns : A1} {na nb : A2} {nl : L2} (h : NOK ns na nl) (hb : ∀ j, 5 ≤ j → nb j = na j) (x : Int32) : NOK (va_up ns 0 x) nb nl := by
  unfold NOK at h ⊢
  rw [up_ne (by decide), up_ne (by decide), hb 5 (by omega), hb 6 (by omega), hb 7 (by omega), hb 8 (by omega), hb 9 (by omega), hb 10 (by omega)]
  exact h
