/-! promises 42, 43: the reference with a bait -/
def SUP (v : Rl) (D : Nat → Int64) : Prop := ∀ q, (2 ^ (v 13 0 + 1) ≤ q % 2048 ∨ 2 ^ v 14 0 ≤ q / 2048) → D q = 0
def BR (v : Rl) (D f : Nat → Int64) : Prop := ∀ g c, g < 2 ^ (v 13 0 + 1) → c < 2 ^ v 14 0 → f (64 * g + c) = D (g + 2048 * c)
theorem G_le {v : Rl} (h13 : v 13 0 ≤ 10) : 2 ^ (v 13 0 + 1) ≤ 2048 := Nat.pow_le_pow_right (n := 2) (by decide) (by omega : v 13 0 + 1 ≤ 11)
theorem C_le {v : Rl} (h14 : v 14 0 ≤ 6) : 2 ^ v 14 0 ≤ 64 := Nat.pow_le_pow_right (n := 2) (by decide) h14
theorem en_tb {g c t : Nat} (hg : g < 2048) : (g + 2048 * c).testBit (11 + t) = c.testBit t := by
  rw [Nat.add_comm, show 2048 * c = 2 ^ 11 * c from rfl, Nat.testBit_two_pow_mul_add c (show g < 2 ^ 11 from hg), if_neg (by omega)]
  congr 1
  omega
theorem en_or {g c b : Nat} (hg : g < 2048) (hb : b < 11) : (g + 2048 * c) ||| 2 ^ b = (g ||| 2 ^ b) + 2048 * c := by
  have h1 : g ||| 2 ^ b < 2 ^ 11 := or_ltN (n := 11) hg hb
  have e1 := Nat.two_pow_add_eq_or_of_lt (i := 11) (b := g) hg c
  have e2 := Nat.two_pow_add_eq_or_of_lt (i := 11) (b := g ||| 2 ^ b) h1 c
  rw [Nat.add_comm g, Nat.add_comm (g ||| 2 ^ b), show 2048 * c = 2 ^ 11 * c from rfl, e1, e2, Nat.or_assoc]
theorem en_orc {g c t : Nat} (hg : g < 2048) : (g + 2048 * c) ||| 2 ^ (11 + t) = g + 2048 * (c ||| 2 ^ t) := by
  have e1 := Nat.two_pow_add_eq_or_of_lt (i := 11) (b := g) hg c
  have e2 := Nat.two_pow_add_eq_or_of_lt (i := 11) (b := g) hg (c ||| 2 ^ t)
  rw [Nat.add_comm g, Nat.add_comm g, show 2048 * c = 2 ^ 11 * c from rfl, show 2048 * (c ||| 2 ^ t) = 2 ^ 11 * (c ||| 2 ^ t) from rfl, e1, e2]
  have e3 : 2 ^ 11 * (c ||| 2 ^ t) = 2 ^ 11 * c ||| 2 ^ (11 + t) := by
    apply Nat.eq_of_testBit_eq
    intro i
    rw [Nat.testBit_or, Nat.testBit_two_pow_mul, Nat.testBit_two_pow_mul, Nat.testBit_two_pow, Nat.testBit_or, Nat.testBit_two_pow]
    by_cases h : 11 ≤ i
    · simp [h]
      congr 1
      simp
      omega
    · simp [h]
      omega
  rw [e3, Nat.or_assoc, Nat.or_assoc, Nat.or_comm g]
theorem en_who {v : Rl} {s t g c : Nat} (hg : g < 2048) : who v s t (g + 2048 * c) = if c.testBit t then none else tk v s t g := by
  unfold who
  rw [en_tb hg, show (g + 2048 * c) % 2048 = g by omega]
theorem stp_sup {v : Rl} (h13 : v 13 0 ≤ 10) {s ct t : Nat} (ht : t < v 14 0) {D : Nat → Int64} (hD : SUP v D) : SUP v (stp v s ct t D) := by
  intro x hx
  unfold stp
  rw [hD x hx, sumL_zero (fun q _ => ?_)]
  · rfl
  · by_cases hq : 2 ^ (v 13 0 + 1) ≤ q % 2048 ∨ 2 ^ v 14 0 ≤ q / 2048
    · rw [hD q hq, chg_0]
    · have hG := G_le h13
      obtain ⟨g, c, hg, rfl⟩ : ∃ g c, g < 2048 ∧ q = g + 2048 * c := ⟨q % 2048, q / 2048, Nat.mod_lt _ (by decide), by omega⟩
      have hg2 : g < 2 ^ (v 13 0 + 1) := by omega
      have hc2 : c < 2 ^ v 14 0 := by omega
      unfold chg
      rw [en_who hg]
      cases hct : c.testBit t with
      | true => rfl
      | false =>
        simp only [Bool.false_eq_true, if_false]
        cases htk : tk v s t g with
        | none => rfl
        | some b =>
          have hb := (tk_some htk).1
          have o1 := or_ltN (b := b) hg2 (by omega)
          have o2 := or_ltN (b := t) hc2 ht
          have n1 : x ≠ g + 2048 * c := by omega
          have n2 : x ≠ (g + 2048 * c) ||| 2 ^ b := by rw [en_or hg (by omega)]; omega
          have n3 : x ≠ (g + 2048 * c) ||| 2 ^ b ||| 2 ^ (11 + t) := by rw [en_or hg (by omega), en_orc (by omega)]; omega
          simp only
          split
          · simp only [evl]
            rw [if_neg n1, if_neg n2, if_neg n3]
            rfl
          · simp only [evl]
            rw [if_neg n1, if_neg n2]
            rfl
theorem nD_sup {v : Rl} (h13 : v 13 0 ≤ 10) {s ct : Nat} {D : Nat → Int64} (hD : SUP v D) : ∀ t, t ≤ v 14 0 → SUP v (nD v s ct D t)
  | 0, _ => hD
  | t + 1, h => stp_sup h13 (by omega) (nD_sup h13 hD t (by omega))
theorem Dn_g {v : Rl} {s ct i g c : Nat} (h0 : 0 < g) (hg : g < 2048) : Dn v s ct i (g + 2048 * c) = 0 := by
  cases i with
  | zero =>
    unfold Dn D1
    rw [if_neg (by omega)]
  | succ i =>
    rw [Dn]
    exact brg_out _ (by omega)
theorem Dn_sup {v : Rl} (h13 : v 13 0 ≤ 10) {s ct : Nat} : ∀ i, SUP v (Dn v s ct i)
  | 0 => by
    intro q hq
    have h1 : 0 < 2 ^ (v 13 0 + 1) := Nat.two_pow_pos _
    have h2 : 0 < 2 ^ v 14 0 := Nat.two_pow_pos _
    unfold Dn D1
    rw [if_neg]
    intro e
    subst e
    simp at hq
  | i + 1 => by
    intro q hq
    rw [Dn]
    by_cases e : q % 2048 = 0
    · have h1 : 0 < 2 ^ (v 13 0 + 1) := Nat.two_pow_pos _
      unfold brg
      refine sumL_zero (fun y _ => ?_)
      split
      · rename_i c
        exact nD_sup h13 (Dn_sup h13 i) _ (Nat.le_refl _) y (Or.inr (by omega))
      · rfl
    · exact brg_out _ e
/-- a sum over all states, by the reference's two loops -/
theorem sum_gc {v : Rl} (h13 : v 13 0 ≤ 10) (h14 : v 14 0 ≤ 6) (f : Nat → Int64) (hf : ∀ q, (2 ^ (v 13 0 + 1) ≤ q % 2048 ∨ 2 ^ v 14 0 ≤ q / 2048) → f q = 0) : sumL f N17 = sumL (fun g => sumL (fun c => f (g + 2048 * c)) (2 ^ v 14 0)) (2 ^ (v 13 0 + 1)) := by
  rw [sumL_17', sumL_ext (G_le h13) (fun g h1 h2 => sumL_zero (fun c _ => hf _ (Or.inl (by omega))))]
  exact sumL_cong (fun g hg => sumL_ext (C_le h14) (fun c h1 h2 => hf _ (Or.inr (by have := G_le h13; omega))))
theorem sh2 {n : Nat} (h : n < 29) : ((2 : Int32) <<< (nI n &&& 31)) = nI (2 ^ (n + 1)) := by
  have := pk_shlN (n := 2) (nI n &&& 31) n (sh_c n (by omega)) (by
    have : 2 ^ n ≤ 2 ^ 28 := Nat.pow_le_pow_right (by decide) (by omega)
    omega)
  rw [Nat.mul_comm, ← Nat.pow_succ] at this
  exact this
def evg (v : Rl) (s ct t : Nat) (D : Nat → Int64) (g c x : Nat) : Int64 := evl (chg v s ct t (g + 2048 * c) (D (g + 2048 * c))) x
section MB
variable {us : A1} {ua : A2} {rs : A1} {ra ra2 sa : A2} {sl : L2} {ns : A1} {na : A2} {nl : L2} {yt : Int32} {im : Img} {ms : A1} {ma : A2} {ml : L2}
theorem st64 (g c : Nat) : (64 : Int32) * nI g + nI c = nI (64 * g + c) := by simp only [fa_lit, pk_mul, nI_add]
theorem m_thiefGoes {v : Rl} (hv : okV v) (hJ : okJ v) {s ct t : Nat} (hs : s ≤ 9999) (hct : ct ≤ 100) (ht : t < v 14 0) {j : Nat} (hM : RM v 0 ms ma) (hL : LR v s (v 13 0 + 1) ms ma) {D : Nat → Int64} (hD : SUP v D) (hB : BR v D (ml 7)) {post : L2 → Prop} (h : ∀ mk : L2, BR v (stp v s ct t D) (mk 7) → (∀ j, j ≠ 7 → j ≠ 8 → mk j = ml j) → post mk) : P_X12_thiefGoes ms ma ml (nI t) (nI ct) post := by
  have h13 := ok13 hv
  have h14 := ok14 hv
  have hG := G_le h13
  have hC := C_le h14
  have e13 : ma 10 0 = nI (v 13 0) := hM.1.1.2.2.2.2
  have e14 : ma 12 0 = nI (v 14 0) := hM.2.1.1
  have hcm : v 26 t ≤ 100 := (hv.2.2.2.2.2.1 t ht).2.1
  have eT := hM.2.1.2 t ht
  simp only [Nat.mul_zero, Nat.zero_add] at eT
  intro x17 h17 x18 h18
  rw [e13, sh2 (by omega)] at h17
  rw [e14, sh1 (by omega)] at h18
  subst h17 h18
  -- the second loops
  have I2 : ∀ (g b : Nat), g < 2 ^ (v 13 0 + 1) → tk v s t g = some b → ∀ (R107 : Int32 → L2 → Prop) (lx : L2), (∀ g c, g < 2 ^ (v 13 0 + 1) → c < 2 ^ v 14 0 → lx 8 (64 * g + c) = if c.testBit t then 0 else cmP v t (D (g + 2048 * c))) → (∀ gx cx, gx < 2 ^ (v 13 0 + 1) → cx < 2 ^ v 14 0 → lx 7 (64 * gx + cx) = D (gx + 2048 * cx) + sumL (fun g => sumL (fun c => evg v s ct t D g c (gx + 2048 * cx)) (2 ^ v 14 0)) g) → (∀ j, j ≠ 7 → j ≠ 8 → lx j = ml j) → (∀ ly : L2, ly 8 = lx 8 → (∀ gx cx, gx < 2 ^ (v 13 0 + 1) → cx < 2 ^ v 14 0 → ly 7 (64 * gx + cx) = D (gx + 2048 * cx) + sumL (fun g => sumL (fun c => evg v s ct t D g c (gx + 2048 * cx)) (2 ^ v 14 0)) (g + 1)) → (∀ j, j ≠ 7 → j ≠ 8 → ly j = ml j) → R107 (nI (g + 1)) ly) → ∃ n, P_X12_thiefGoes_134 ms ma (nI t) (nI ct) (nI (2 ^ (v 13 0 + 1))) (nI (2 ^ v 14 0)) post R107 (nI g) (nI b) n 0 lx := by
    intro g b hg htk R107 lx q8 q7 qj kk
    obtain ⟨hb1, hb2, hb3⟩ := tk_some htk
    have L : ∀ (d c : Nat) (ly : L2), c + d = 2 ^ v 14 0 → ly 8 = lx 8 → (∀ gx cx, gx < 2 ^ (v 13 0 + 1) → cx < 2 ^ v 14 0 → ly 7 (64 * gx + cx) = D (gx + 2048 * cx) + sumL (fun g => sumL (fun c => evg v s ct t D g c (gx + 2048 * cx)) (2 ^ v 14 0)) g + sumL (fun c => evg v s ct t D g c (gx + 2048 * cx)) c) → (∀ j, j ≠ 7 → j ≠ 8 → ly j = ml j) → P_X12_thiefGoes_134 ms ma (nI t) (nI ct) (nI (2 ^ (v 13 0 + 1))) (nI (2 ^ v 14 0)) post R107 (nI g) (nI b) (d + 1) (nI c) ly := by
      intro d
      induction d with
      | zero =>
        intro c ly hc r8 r7 rj
        obtain rfl : c = 2 ^ v 14 0 := by omega
        refine ⟨fun _ => ?_, fun z => absurd (nI_le (Nat.le_refl _) (by omega)) z⟩
        rw [nI_1]
        refine kk ly r8 (fun gx cx h1 h2 => ?_) rj
        rw [r7 gx cx h1 h2, sumL, Int64.add_assoc]
      | succ d ih =>
        intro c ly hc r8 r7 rj
        have hcc : c < 2 ^ v 14 0 := by omega
        refine ⟨fun z => absurd ((nI_leI (by omega) (by omega)).mp z) (by omega), fun _ => ?_⟩
        show vp_in ((64 : Int32) * nI g + nI c) 131072 ∧ _
        rw [st64, nI_clamp (by omega), r8, q8 g c hg hcc, e13, nI_1]
        refine ⟨vp_in_nI (by omega) (by decide), fun x hx => ?_⟩
        have skip : (∀ y, evg v s ct t D g c y = 0) → P_X12_thiefGoes_134 ms ma (nI t) (nI ct) (nI (2 ^ (v 13 0 + 1))) (nI (2 ^ v 14 0)) post R107 (nI g) (nI b) (d + 1) (nI (c + 1)) ly := fun z => ih (c + 1) ly (by omega) r8 (fun gx cx h1 h2 => by rw [r7 gx cx h1 h2, sumL, z, Int64.add_zero]) rj
        cases hbt : c.testBit t with
        | true =>
          rw [hbt] at hx
          simp only [if_true] at hx
          refine ⟨fun z => absurd hx z, fun _ => skip (fun y => ?_)⟩
          unfold evg chg
          rw [en_who (by omega), hbt]
          rfl
        | false =>
          rw [hbt] at hx
          simp only [Bool.false_eq_true, if_false] at hx
          have hwho : who v s t (g + 2048 * c) = some b := by rw [en_who (by omega), hbt]; simpa using htk
          have o1 := or_ltN (b := b) hg (by omega)
          have o2 := or_ltN (b := t) hcc ht
          have hgb : g ||| 2 ^ b ≠ g := by
            intro e
            have : (g ||| 2 ^ b).testBit b = g.testBit b := by rw [e]
            rw [tb_or, hb3] at this
            simp at this
          have hcb : c ||| 2 ^ t ≠ c := by
            intro e
            have : (c ||| 2 ^ t).testBit t = c.testBit t := by rw [e]
            rw [tb_or, hbt] at this
            simp at this
          have K : ∀ k0 : Int64, (∀ y, y < 131072 → evg v s ct t D g c y = (if y = g + 2048 * c then -x else 0) + ((if y = (g ||| 2 ^ b) + 2048 * (c ||| 2 ^ t) then k0 else 0) + (if y = (g ||| 2 ^ b) + 2048 * c then x - k0 else 0))) → P_X12_thiefGoes_189 ms ma (nI t) (nI ct) (nI (2 ^ (v 13 0 + 1))) (nI (2 ^ v 14 0)) (nI g) (nI b) post (P_X12_thiefGoes_134 ms ma (nI t) (nI ct) (nI (2 ^ (v 13 0 + 1))) (nI (2 ^ v 14 0)) post R107 (nI g) (nI b) (d + 1)) (nI c) x k0 ly := by
            intro k0 hk0
            unfold P_X12_thiefGoes_189
            rw [sh1 (by omega), sh1 (by omega), fa_or, fa_or, nI_1]
            simp only [P_X12_state, st64]
            rw [nI_clamp (by omega), nI_clamp (by omega), nI_clamp (by omega)]
            refine ⟨vp_in_nI (by omega) (by decide), vp_in_nI (by omega) (by decide), vp_in_nI (by omega) (by decide), vp_in_nI (by omega) (by decide), vp_in_nI (by omega) (by decide), vp_in_nI (by omega) (by decide), ?_⟩
            refine ih (c + 1) _ (by omega) (by rw [up_ne (by decide)]; exact r8) (fun gx cx h1 h2 => ?_) (fun j j7 j8 => by rw [up_ne j7]; exact rj j j7 j8)
            have rx := r7 gx cx h1 h2
            rw [up_at, sumL, hk0 _ (by omega), ← Int64.add_assoc, ← rx]
            by_cases c3 : 64 * gx + cx = 64 * (g ||| 2 ^ b) + c
            · have eg : gx = g ||| 2 ^ b := by omega
              have ec : cx = c := by omega
              rw [c3, uL_at, uL_ne (by omega), uL_ne (by omega), if_neg (by omega), if_neg (by omega), if_pos (by rw [eg, ec])]
              grind
            · rw [uL_ne c3]
              by_cases c2 : 64 * gx + cx = 64 * (g ||| 2 ^ b) + (c ||| 2 ^ t)
              · have eg : gx = g ||| 2 ^ b := by omega
                have ec : cx = c ||| 2 ^ t := by omega
                rw [c2, uL_at, uL_ne (by omega), if_neg (by omega), if_pos (by rw [eg, ec]), if_neg (by omega)]
                grind
              · rw [uL_ne c2]
                by_cases c1 : 64 * gx + cx = 64 * g + c
                · have eg : gx = g := by omega
                  have ec : cx = c := by omega
                  rw [c1, uL_at, if_pos (by rw [eg, ec]), if_neg (by omega), if_neg (by omega)]
                  grind
                · rw [uL_ne c1, if_neg (by omega), if_neg (by omega), if_neg (by omega)]
                  grind
          refine ⟨fun hx0 => ⟨fun cb => K 0 (fun y _ => ?_), fun cb => K _ (fun y _ => ?_)⟩, fun hx0 => skip (fun y => ?_)⟩
          · have hbn : b ≠ v 13 0 := fun e => cb (by rw [e])
            unfold evg chg
            rw [hwho]
            simp only
            rw [if_neg hbn, ← hx, en_or (by omega) (by omega)]
            simp only [evl]
            split <;> split <;> split <;> grind
          · have hbn : b = v 13 0 := (nI_eq (by omega) (by omega)).mp cb
            unfold evg chg
            rw [hwho]
            simp only
            rw [if_pos hbn, ← hx, en_or (by omega) (by omega), en_orc (by omega), nI_l (by omega), show x * lN ct / 100 = ctP ct x from rfl]
            simp only [evl]
            grind
          · unfold evg
            exact chg_c0 (by rw [← hx]; exact hx0) y
    exact ⟨2 ^ v 14 0 + 1, L (2 ^ v 14 0) 0 lx (by omega) rfl (fun gx cx h1 h2 => by rw [q7 gx cx h1 h2]; simp [sumL]) qj⟩
  have L2' : ∀ (d g : Nat) (lx : L2), g + d = 2 ^ (v 13 0 + 1) → (∀ g c, g < 2 ^ (v 13 0 + 1) → c < 2 ^ v 14 0 → lx 8 (64 * g + c) = if c.testBit t then 0 else cmP v t (D (g + 2048 * c))) → (∀ gx cx, gx < 2 ^ (v 13 0 + 1) → cx < 2 ^ v 14 0 → lx 7 (64 * gx + cx) = D (gx + 2048 * cx) + sumL (fun g => sumL (fun c => evg v s ct t D g c (gx + 2048 * cx)) (2 ^ v 14 0)) g) → (∀ j, j ≠ 7 → j ≠ 8 → lx j = ml j) → P_X12_thiefGoes_107 ms ma (nI t) (nI ct) post (nI (2 ^ (v 13 0 + 1))) (nI (2 ^ v 14 0)) (d + 1) (nI g) lx := by
    intro d
    induction d with
    | zero =>
      intro g lx hg q8 q7 qj
      obtain rfl : g = 2 ^ (v 13 0 + 1) := by omega
      refine ⟨fun _ => h lx (fun gx cx h1 h2 => ?_) qj, fun z => absurd (nI_le (Nat.le_refl _) (by omega)) z⟩
      rw [q7 gx cx h1 h2]
      unfold stp
      rw [sum_gc h13 h14 _ (fun q hq => by rw [hD q hq, chg_0])]
      rfl
    | succ d ih =>
      intro g lx hg q8 q7 qj
      refine ⟨fun z => absurd ((nI_leI (by omega) (by omega)).mp z) (by omega), fun _ => ?_⟩
      refine m_takesOf hv hJ hs hM.2.1 hL ht (by omega) ?_
      rw [nI_1]
      cases htk : tk v s t g with
      | none =>
        refine ⟨fun z => absurd rfl z, fun _ => ih (g + 1) lx (by omega) q8 (fun gx cx h1 h2 => ?_) qj⟩
        rw [q7 gx cx h1 h2, sumL, sumL_zero (f := fun c => evg v s ct t D g c (gx + 2048 * cx)) (fun c _ => ?_), Int64.add_zero]
        unfold evg chg
        rw [en_who (by omega), htk, ite_self]
        rfl
      | some b =>
        have hb := (tk_some htk).1
        refine ⟨fun _ => ?_, fun z => absurd z (nI_nm1 (by omega))⟩
        exact I2 g b (by omega) htk _ lx q8 q7 qj (fun ly r8 r7 rj => ih (g + 1) ly (by omega) (by rw [r8]; exact q8) r7 rj)
  -- the first loops
  have I1 : ∀ (g : Nat), g < 2 ^ (v 13 0 + 1) → ∀ (R22 : Int32 → L2 → Prop) (lx : L2), (∀ j, j ≠ 8 → lx j = ml j) → (∀ ly : L2, (∀ j, j ≠ 8 → ly j = ml j) → (∀ c, c < 2 ^ v 14 0 → ly 8 (64 * g + c) = if c.testBit t then 0 else cmP v t (D (g + 2048 * c))) → (∀ x, x < 64 * g → ly 8 x = lx 8 x) → R22 (nI (g + 1)) ly) → ∃ n, P_X12_thiefGoes_31 ms ma (nI t) (nI ct) (nI (2 ^ (v 13 0 + 1))) (nI (2 ^ v 14 0)) post R22 (nI g) n 0 lx := by
    intro g hg R22 lx q1 kk
    have L : ∀ (d c : Nat) (ly : L2), c + d = 2 ^ v 14 0 → (∀ j, j ≠ 8 → ly j = ml j) → (∀ c', c' < c → ly 8 (64 * g + c') = if c'.testBit t then 0 else cmP v t (D (g + 2048 * c'))) → (∀ x, x < 64 * g → ly 8 x = lx 8 x) → P_X12_thiefGoes_31 ms ma (nI t) (nI ct) (nI (2 ^ (v 13 0 + 1))) (nI (2 ^ v 14 0)) post R22 (nI g) (d + 1) (nI c) ly := by
      intro d
      induction d with
      | zero =>
        intro c ly hc r1 r2 r3
        obtain rfl : c = 2 ^ v 14 0 := by omega
        refine ⟨fun _ => ?_, fun z => absurd (nI_le (Nat.le_refl _) (by omega)) z⟩
        rw [nI_1]
        exact kk ly r1 r2 r3
      | succ d ih =>
        intro c ly hc r1 r2 r3
        refine ⟨fun z => absurd ((nI_leI (by omega) (by omega)).mp z) (by omega), fun _ => ?_⟩
        simp only [P_X12_state, st64]
        rw [bit_o (by omega) (by omega), nI_clamp (by omega), nI_1, show (5 : Int32) * nI t + 1 = nI (5 * t + 1) by simp only [fa_lit, pk_mul, nI_add], nI_clamp (by omega), eT.2.1, nI_l (by omega), r1 7 (by decide), hB g c hg (by omega)]
        have st : ∀ y : Int64, y = (if c.testBit t then 0 else cmP v t (D (g + 2048 * c))) → P_X12_thiefGoes_31 ms ma (nI t) (nI ct) (nI (2 ^ (v 13 0 + 1))) (nI (2 ^ v 14 0)) post R22 (nI g) (d + 1) (nI (c + 1)) (va_up ly 8 (vp_updL (ly 8) (64 * g + c) y)) := by
          intro y hy
          refine ih (c + 1) _ (by omega) (fun j hj => by rw [up_ne hj, r1 j hj]) (fun c' hc' => ?_) (fun x hx => by rw [up_at, uL_ne (by omega), r3 x hx])
          rw [up_at]
          by_cases e : c' = c
          · rw [e, uL_at, hy]
          · rw [uL_ne (by omega), r2 c' (by omega)]
        refine ⟨fun z => ⟨vp_in_nI (by omega) (by decide), vp_in_nI (by omega) (by decide), vp_in_nI (by omega) (by decide), st _ ?_⟩, fun z => ⟨vp_in_nI (by omega) (by decide), st 0 ?_⟩⟩
        · rw [if_neg z]
          rfl
        · rw [if_pos z]
    exact ⟨2 ^ v 14 0 + 1, L (2 ^ v 14 0) 0 lx (by omega) q1 (fun c' hc' => by omega) (fun _ _ => rfl)⟩
  have L1 : ∀ (d g : Nat) (lx : L2), g + d = 2 ^ (v 13 0 + 1) → (∀ j, j ≠ 8 → lx j = ml j) → (∀ g' c, g' < g → c < 2 ^ v 14 0 → lx 8 (64 * g' + c) = if c.testBit t then 0 else cmP v t (D (g' + 2048 * c))) → P_X12_thiefGoes_22 ms ma (nI t) (nI ct) post (fun (x3_ : Int32) (x4_ : Int32) (x5_ : Int32) (ml : Nat → Nat → Int64) => (∃ n : Nat, P_X12_thiefGoes_107 ms ma (nI t) (nI ct) post x3_ x4_ n x5_ ml)) (nI (2 ^ (v 13 0 + 1))) (nI (2 ^ v 14 0)) (d + 1) (nI g) lx := by
    intro d
    induction d with
    | zero =>
      intro g lx hg q1 q2
      obtain rfl : g = 2 ^ (v 13 0 + 1) := by omega
      refine ⟨fun _ => ⟨2 ^ (v 13 0 + 1) + 1, L2' _ 0 lx (by omega) q2 (fun gx cx h1 h2 => ?_) (fun j _ j8 => q1 j j8)⟩, fun z => absurd (nI_le (Nat.le_refl _) (by omega)) z⟩
      rw [q1 7 (by decide), hB gx cx h1 h2]
      simp [sumL]
    | succ d ih =>
      intro g lx hg q1 q2
      refine ⟨fun z => absurd ((nI_leI (by omega) (by omega)).mp z) (by omega), fun _ => ?_⟩
      refine I1 g (by omega) _ lx q1 (fun ly r1 r2 r3 => ih (g + 1) ly (by omega) r1 (fun g' c hg' hc => ?_))
      by_cases e : g' = g
      · rw [e]; exact r2 c hc
      · rw [r3 _ (by omega)]; exact q2 g' c (by omega) hc
  exact ⟨2 ^ (v 13 0 + 1) + 1, L1 _ 0 ml (by omega) (fun _ _ => rfl) (fun g' c hg' => by omega)⟩
end MB
