/-! the class's Night: a thief's step over its hash table -/
theorem nI_nm1 {n : Nat} (h : n < 2 ^ 31) : ¬ nI n = -1 := by
  rw [← Int32.toInt_inj, nI_toInt h, show (-1 : Int32).toInt = -1 from rfl]
  omega
theorem sh1 {n : Nat} (h : n < 31) : ((1 : Int32) <<< (nI n &&& 31)) = nI (2 ^ n) := by
  have := pk_shlN (n := 1) (nI n &&& 31) n (sh_c n (by omega)) (by
    have : 2 ^ n ≤ 2 ^ 30 := Nat.pow_le_pow_right (by decide) (by omega)
    omega)
  rw [Nat.one_mul] at this
  exact this
theorem and2047 {q : Nat} (h : q < 2 ^ 31) : nI q &&& 2047 = nI (q % 2048) := by
  have := pk_andN (n := q) (by omega) (m := 2047) 11 (by decide)
  simpa using this
theorem or_lt17 {q b : Nat} (hq : q < 131072) (hb : b < 17) : q ||| 2 ^ b < 131072 := by
  have : 2 ^ b < 2 ^ 17 := Nat.pow_lt_pow_right (by decide) hb
  exact Nat.or_lt_two_pow (n := 17) hq this
theorem tb_mod {q b : Nat} (hb : b < 11) : (q % 2048).testBit b = q.testBit b := by
  rw [show (2048 : Nat) = 2 ^ 11 from rfl, Nat.testBit_mod_two_pow]
  simp [hb]
theorem who_some {v : Rl} {s t q b : Nat} (h : who v s t q = some b) : q.testBit (11 + t) = false ∧ b ≤ v 13 0 ∧ wnt v s t b = true ∧ (q % 2048).testBit b = false := by
  unfold who at h
  split at h
  · exact absurd h (by simp)
  · rename_i c
    exact ⟨by simpa using c, tk_some h⟩
theorem wnt_bait {v : Rl} {s t : Nat} (h : wnt v s t (v 13 0) = true) : 0 < s := by
  unfold wnt at h
  simp at h
  omega
theorem addA_eq (D : Nat → Int64) (q : Nat) (m : Int64) (x : Nat) : addA D q m x = D x + if x = q then m else 0 := by
  unfold addA
  split
  · rfl
  · simp
theorem sumE_take {E : List Nat} {f : Nat → Int64} {i : Nat} (h : i < E.length) : sumE (E.take (i + 1)) f = sumE (E.take i) f + f (E.getD i 0) := by
  rw [List.take_add_one, sumE_app]
  simp [List.getElem?_eq_getElem h, sumE]
theorem wsm_take {v : Rl} {t : Nat} {E : List Nat} {i : Nat} (h : i < E.length) : wsm v t (E.take (i + 1)) = wsm v t (E.take i) + wgt v t (E.getD i 0) := by
  rw [List.take_add_one, wsm_app]
  simp [List.getElem?_eq_getElem h, wsm]
theorem wsm_take_le {v : Rl} {t : Nat} (E : List Nat) (i : Nat) : wsm v t (E.take i) ≤ wsm v t E := by
  have : wsm v t E = wsm v t (E.take i ++ E.drop i) := by rw [List.take_append_drop]
  rw [this, wsm_app]
  omega
theorem sumE_one {D : Nat → Int64} {x : Nat} : ∀ {E : List Nat}, E.Nodup → sumE E (fun q => if x = q then D q else 0) = if x ∈ E then D x else 0
  | [], _ => rfl
  | a :: E, h => by
    rw [List.nodup_cons] at h
    rw [sumE, sumE_one h.2]
    by_cases e : x = a
    · subst e
      simp [h.1]
    · simp [e]
/-- the frame of a step: what of the Night stays -/
def NF (ns : Nat → Int32) (na : Nat → Nat → Int32) (ns' : Nat → Int32) (na' : Nat → Nat → Int32) : Prop := (∀ j, j < 2 → ns' j = ns j) ∧ ∀ j, j < 5 → na' j = na j
theorem NR.frame {v : Rl} {s : Nat} {ns : Nat → Int32} {na : Nat → Nat → Int32} {ns' : Nat → Int32} {na' : Nat → Nat → Int32} (h : NR v s ns na) (hF : NF ns na ns' na') : NR v s ns' na' := by
  obtain ⟨h1, h2, h3⟩ := h
  refine ⟨by rw [hF.1 0 (by decide)]; exact h1, fun b hb => ?_, fun t ht => ?_⟩
  · rw [hF.2 0 (by decide), hF.2 1 (by decide)]; exact h2 b hb
  · exact OL_eq (h3 t ht) (by rw [hF.2 3 (by decide)]) (fun i _ => by rw [hF.2 2 (by decide)])
/-- a Spread that is not looked at now -/
def SPx (sz : Int32) (st : Nat → Int32) (pa : Nat → Int64) (so tb : Nat → Int32) : Prop := ∃ (E : List Nat) (D : Nat → Int64), SP E D sz st pa so tb
def hadI (v : Rl) (s t : Nat) (D : Nat → Int64) (h0 h1 : Nat → Int64) : Prop := (∀ b, b < v 13 0 → h1 (t * 10 + b) = h0 (t * 10 + b) + hst v s t D b) ∧ ∀ x, (x < t * 10 ∨ t * 10 + v 13 0 ≤ x) → h1 x = h0 x
theorem c_letCome {v : Rl} (hv : okV v) {s ct t : Nat} (ht : t < v 14 0) {ns : Nat → Int32} {na : Nat → Nat → Int32} {nl : Nat → Nat → Int64} (hN : NR v s ns na) (hct : 0 < s → ns 1 = nI ct ∧ ct ≤ 100) {E : List Nat} {D : Nat → Int64} (hS : SP E D (ns 2) (na 5) (nl 1) (na 6) (na 7)) (hS2 : SPx (ns 3) (na 8) (nl 2) (na 9) (na 10)) (hw : wsm v t E ≤ 1458) {post : (Nat → Int32) → (Nat → Nat → Int32) → (Nat → Nat → Int64) → Prop}
    (h : ∀ (ns' : Nat → Int32) (na' : Nat → Nat → Int32) (nl' : Nat → Nat → Int64) (E1 : List Nat), SP E1 (stp v s ct t D) (ns' 2) (na' 5) (nl' 1) (na' 6) (na' 7) → SPx (ns' 3) (na' 8) (nl' 2) (na' 9) (na' 10) → wsm v (t + 1) E1 ≤ 1458 → NF ns na ns' na' → hadI v s t D (nl 0) (nl' 0) → post ns' na' nl') : P_X3_letCome ns na nl (nI t) (nI (v 26 t)) post := by
  have h13 := ok13 hv
  have h14 := ok14 hv
  have hcm : v 26 t ≤ 100 := (hv.2.2.2.2.2.1 t ht).2.1
  obtain ⟨E2, D2, hS2⟩ := hS2
  have hSk := hS
  obtain ⟨s1, s2, s3, s4, s5, -⟩ := hS
  refine c_wipe hS2 (fun tb' hT => ?_)
  -- one state
  have one : ∀ (i q : Nat) (R9 : (Int32) → (Nat → Int32) → (Nat → Nat → Int32) → (Nat → Nat → Int64) → Prop) (nx : Nat → Int32) (ax : Nat → Nat → Int32) (lx : Nat → Nat → Int64) (E1 : List Nat) (D1 : Nat → Int64), q < 131072 → SP E1 D1 (nx 3) (ax 8) (lx 2) (ax 9) (ax 10) → wsm v (t + 1) E1 + wgt v t q ≤ 1458 → nx 0 = ns 0 → nx 1 = ns 1 →
      (∀ (ny : Nat → Int32) (ay : Nat → Nat → Int32) (ly : Nat → Nat → Int64) (E2 : List Nat), SP E2 (fun x => D1 x + ((if x = q then D q else 0) + evl (chg v s ct t q (D q)) x)) (ny 3) (ay 8) (ly 2) (ay 9) (ay 10) → wsm v (t + 1) E2 ≤ wsm v (t + 1) E1 + wgt v t q → (∀ j, j ≠ 3 → ny j = nx j) → (∀ j, j < 8 → ay j = ax j) → (∀ j, j ≠ 0 → j ≠ 2 → ly j = lx j) → (∀ b, b < v 13 0 → ly 0 (t * 10 + b) = lx 0 (t * 10 + b) + if who v s t q = some b then cmP v t (D q) else 0) → (∀ x, (x < t * 10 ∨ t * 10 + v 13 0 ≤ x) → ly 0 x = lx 0 x) → R9 (nI (i + 1)) ny ay ly) →
      P_X3_letCome_66 (nI t) (nI (v 26 t)) post R9 (nI i) (nI q) (D q) (oI (who v s t q)) nx ax lx := by
    intro i q R9 nx ax lx E1 D1 hq hP hw1 n0 n1 kk
    have hlen := wsm_len v (t + 1) E1
    cases hwho : who v s t q with
    | none =>
      have hwn := wgt_none (v := v) (q := q) (t := t) (by omega)
      have hp1 := wgt_pos v t q
      refine ⟨fun c => absurd rfl c, fun _ => ?_⟩
      refine c_put hP hq (by omega) (fun sz st pa so tb hP2 => ?_)
      rw [nI_1]
      refine kk _ _ _ (addE E1 q (D q)) ?_ ?_ (fun j hj => up_ne hj) (fun j hj => by rw [up_ne (by omega), up_ne (by omega), up_ne (by omega)]) (fun j h0 h2 => up_ne h2) (fun b hb => ?_) (fun x hx => by rw [up_ne (by decide)])
      · rw [up_at, up_at, up_at, up_ne (by decide), up_ne (by decide), up_at, up_ne (by decide), up_at]
        have : (fun x => D1 x + ((if x = q then D q else 0) + evl (chg v s ct t q (D q)) x)) = addA D1 q (D q) := by
          funext x
          rw [addA_eq]
          unfold chg
          rw [hwho]
          simp [evl]
        rw [this]
        exact hP2
      · have := wsm_add v (t + 1) E1 q (D q)
        omega
      · rw [up_ne (by decide), hwho]
        simp
    | some b =>
      obtain ⟨w1, w2, w3, w4⟩ := who_some hwho
      rw [tb_mod (by omega)] at w4
      have hcome : (D q * (nI (v 26 t)).toInt64) / 100 = cmP v t (D q) := by rw [nI_l (by omega)]; rfl
      have hp1 := wgt_pos v (t + 1) q
      have hp2 := wgt_pos v (t + 1) (q ||| 2 ^ b)
      have hp3 := wgt_pos v (t + 1) (q ||| 2 ^ b ||| 2 ^ (11 + t))
      have hor := or_lt17 (b := b) hq (by omega)
      have ealt : nI q ||| ((1 : Int32) <<< (nI b &&& 31)) = nI (q ||| 2 ^ b) := by rw [sh1 (by omega), fa_or]
      refine ⟨fun _ => ?_, fun c => absurd c (nI_nm1 (by omega))⟩
      rw [hcome]
      intro x2 hx2
      subst hx2
      by_cases hb : b = v 13 0
      · have hg := wgt_bait (v := v) (t := t) (q := q) (by omega) h13 w1 (hb ▸ w4)
        rw [← hb] at hg
        obtain ⟨c1, c2⟩ := hct (wnt_bait (hb ▸ w3))
        refine c_put hP hq (by omega) (fun sz st pa so tb hP2 => ?_)
        have hl2 := wsm_add v (t + 1) E1 q (D q - cmP v t (D q))
        have hlen2 := wsm_len v (t + 1) (addE E1 q (D q - cmP v t (D q)))
        intro x1 hx1
        have hx1' : x1 = nI (q ||| 2 ^ b) := hx1.trans ealt
        subst hx1'
        have e0 : (va_up nx 3 sz) 0 = nI (v 13 0) := by rw [up_ne (by decide), n0]; exact hN.1
        rw [e0]
        refine ⟨fun c => absurd (by show nI b = _; rw [hb]) c, fun _ => ?_⟩
        rw [show (va_up nx 3 sz) 1 = nI ct by rw [up_ne (by decide), n1]; exact c1]
        intro x8 hx8
        have hx8' : x8 = ctP ct (cmP v t (D q)) := by rw [hx8, nI_l (by omega)]; rfl
        subst hx8'
        show P_X7_put _ _ _ _ _ (nI (q ||| 2 ^ b) ||| ((1 : Int32) <<< ((11 + nI t) &&& 31))) _ _
        rw [show (11 : Int32) + nI t = nI (11 + t) from nI_add 11 t, sh1 (by omega), fa_or]
        rw [up_at, up_at, up_at, up_ne (by decide), up_ne (by decide), up_at, up_ne (by decide), up_at]
        have hl3 := wsm_add v (t + 1) (addE E1 q (D q - cmP v t (D q))) (q ||| 2 ^ b ||| 2 ^ (11 + t)) (ctP ct (cmP v t (D q)))
        have hlen3 := wsm_len v (t + 1) (addE (addE E1 q (D q - cmP v t (D q))) (q ||| 2 ^ b ||| 2 ^ (11 + t)) (ctP ct (cmP v t (D q))))
        refine c_put hP2 (or_lt17 hor (by omega)) (by omega) (fun sz3 st3 pa3 so3 tb3 hP3 => ?_)
        refine c_put hP3 hor (by omega) (fun sz4 st4 pa4 so4 tb4 hP4 => ?_)
        rw [nI_1]
        refine kk _ _ _ (addE (addE (addE E1 q (D q - cmP v t (D q))) (q ||| 2 ^ b ||| 2 ^ (11 + t)) (ctP ct (cmP v t (D q)))) (q ||| 2 ^ b) (cmP v t (D q) - ctP ct (cmP v t (D q)))) ?_ ?_ (fun j hj => by rw [up_ne hj, up_ne hj]) (fun j hj => by rw [up_ne (by omega), up_ne (by omega), up_ne (by omega), up_ne (by omega), up_ne (by omega), up_ne (by omega)]) (fun j h0 h2 => by rw [up_ne h2, up_ne h2]) (fun b' hb' => ?_) (fun x hx => by rw [up_ne (by decide), up_ne (by decide)])
        · rw [up_at, up_at, up_at, up_ne (by decide), up_ne (by decide), up_at, up_ne (by decide), up_at]
          have : (fun x => D1 x + ((if x = q then D q else 0) + evl (chg v s ct t q (D q)) x)) = addA (addA (addA D1 q (D q - cmP v t (D q))) (q ||| 2 ^ b ||| 2 ^ (11 + t)) (ctP ct (cmP v t (D q)))) (q ||| 2 ^ b) (cmP v t (D q) - ctP ct (cmP v t (D q))) := by
            funext x
            rw [addA_eq, addA_eq, addA_eq]
            unfold chg
            rw [hwho]
            simp only [hb, if_true, evl]
            generalize (if x = q ||| 2 ^ v 13 0 ||| 2 ^ (11 + t) then ctP ct (cmP v t (D q)) else 0) = a1
            generalize (if x = q ||| 2 ^ v 13 0 then cmP v t (D q) - ctP ct (cmP v t (D q)) else 0) = a2
            split <;> grind
          rw [this]
          exact hP4
        · have := wsm_add v (t + 1) (addE (addE E1 q (D q - cmP v t (D q))) (q ||| 2 ^ b ||| 2 ^ (11 + t)) (ctP ct (cmP v t (D q)))) (q ||| 2 ^ b) (cmP v t (D q) - ctP ct (cmP v t (D q)))
          omega
        · rw [up_ne (by decide), up_ne (by decide), hwho, if_neg (by simp; omega)]
          simp
      · have hg := wgt_some (v := v) (t := t) (q := q) (b := b) (by omega) (by omega) hb w1
        refine c_put hP hq (by omega) (fun sz st pa so tb hP2 => ?_)
        have hl2 := wsm_add v (t + 1) E1 q (D q - cmP v t (D q))
        have hlen2 := wsm_len v (t + 1) (addE E1 q (D q - cmP v t (D q)))
        intro x1 hx1
        have hx1' : x1 = nI (q ||| 2 ^ b) := hx1.trans ealt
        subst hx1'
        have e0 : (va_up nx 3 sz) 0 = nI (v 13 0) := by rw [up_ne (by decide), n0]; exact hN.1
        rw [e0]
        have hix : (nI t * 10) + nI b = nI (t * 10 + b) := by rw [show (10 : Int32) = nI 10 from rfl, pk_mul, nI_add]
        refine ⟨fun _ => ?_, fun c => absurd ((nI_eq (by omega) (by omega)).mp c) hb⟩
        show vp_in ((nI t * 10) + nI b) 60 ∧ (vp_in ((nI t * 10) + nI b) 60 ∧ _)
        rw [show oI (some b) = nI b from rfl, hix]
        refine ⟨vp_in_nI (by omega) (by decide), vp_in_nI (by omega) (by decide), ?_⟩
        rw [up_at, up_at, up_at, up_ne (by decide), up_ne (by decide), up_at, up_ne (by decide), up_at]
        refine c_put hP2 hor (by omega) (fun sz4 st4 pa4 so4 tb4 hP4 => ?_)
        rw [nI_1, nI_clamp (by omega)]
        refine kk _ _ _ (addE (addE E1 q (D q - cmP v t (D q))) (q ||| 2 ^ b) (cmP v t (D q))) ?_ ?_ (fun j hj => by rw [up_ne hj, up_ne hj]) (fun j hj => by rw [up_ne (by omega), up_ne (by omega), up_ne (by omega), up_ne (by omega), up_ne (by omega), up_ne (by omega)]) (fun j h0 h2 => by rw [up_ne h2, up_ne h0, up_ne h2]) (fun b' hb' => ?_) (fun x hx => ?_)
        · rw [up_at, up_at, up_at, up_ne (by decide), up_ne (by decide), up_at, up_ne (by decide), up_at]
          have : (fun x => D1 x + ((if x = q then D q else 0) + evl (chg v s ct t q (D q)) x)) = addA (addA D1 q (D q - cmP v t (D q))) (q ||| 2 ^ b) (cmP v t (D q)) := by
            funext x
            rw [addA_eq, addA_eq]
            unfold chg
            rw [hwho]
            simp only [hb, if_false, evl]
            generalize (if x = q ||| 2 ^ b then cmP v t (D q) else 0) = a2
            split <;> grind
          rw [this]
          exact hP4
        · have := wsm_add v (t + 1) (addE E1 q (D q - cmP v t (D q))) (q ||| 2 ^ b) (cmP v t (D q))
          omega
        · rw [up_ne (by decide), up_at, up_ne (by decide), hwho]
          by_cases e : b' = b
          · subst e
            rw [uL_at, if_pos rfl]
          · rw [uL_ne (by omega), if_neg (by simp; omega)]
            simp
        · rw [up_ne (by decide), up_at, up_ne (by decide), uL_ne (by omega)]
  have L : ∀ (k i : Nat) (nx : Nat → Int32) (ax : Nat → Nat → Int32) (lx : Nat → Nat → Int64) (E1 : List Nat), i + k = E.length → SP E1 (fun x => sumE (E.take i) (fun q => (if x = q then D q else 0) + evl (chg v s ct t q (D q)) x)) (nx 3) (ax 8) (lx 2) (ax 9) (ax 10) → wsm v (t + 1) E1 ≤ wsm v t (E.take i) → (∀ j, j ≠ 3 → nx j = ns j) → (∀ j, j < 8 → ax j = na j) → (∀ j, j ≠ 0 → j ≠ 2 → lx j = nl j) → (∀ b, b < v 13 0 → lx 0 (t * 10 + b) = nl 0 (t * 10 + b) + sumE (E.take i) (fun q => if who v s t q = some b then cmP v t (D q) else 0)) → (∀ x, (x < t * 10 ∨ t * 10 + v 13 0 ≤ x) → lx 0 x = nl 0 x) →
      P_X3_letCome_9 (nI t) (nI (v 26 t)) post (fun ns na nl => P_X3_letCome_130 (nI t) (nI (v 26 t)) post ns na nl) (k + 1) (nI i) nx ax lx := by
    intro k
    induction k with
    | zero =>
      intro i nx ax lx E1 hi g1 g2 g3 g4 g5 g6 g7
      obtain rfl : i = E.length := by omega
      rw [List.take_length] at g1 g2 g6
      refine ⟨fun _ => ?_, fun c => absurd ((cmp_le ((g3 2 (by decide)).trans s1) (by omega) (by omega)).mpr (Nat.le_refl _)) c⟩
      refine h _ _ _ E1 ?_ ⟨E, D, ?_⟩ (Nat.le_trans g2 hw) ⟨fun j hj => ?_, fun j hj => ?_⟩ ⟨fun b hb => ?_, fun x hx => ?_⟩
      · have : stp v s ct t D = fun x => sumE E (fun q => (if x = q then D q else 0) + evl (chg v s ct t q (D q)) x) := by
          funext x
          unfold stp
          rw [sumE_add, sumE_one s3, sumE_range (n := N17) s3 (fun q hq => ?_) (fun q _ hq => by rw [s4 q hq, chg_0])]
          · congr 1
            split
            · rfl
            · rename_i c; exact s4 x c
          · obtain ⟨i, hi, e⟩ := mem_getD hq
            rw [← e]
            exact (s5 i hi).2.1
        rw [this]
        simp only [va_up]
        exact g1
      · simp only [va_up]
        simp only [g3 2 (by decide), g4 5 (by decide), g4 6 (by decide), g4 7 (by decide), g5 1 (by decide) (by decide)]
        exact hSk
      · rw [up_ne (by omega), up_ne (by omega), g3 j (by omega)]
      · rw [up_ne (by omega), up_ne (by omega), up_ne (by omega), up_ne (by omega), up_ne (by omega), up_ne (by omega), g4 j (by omega)]
      · rw [up_ne (by decide), up_ne (by decide), g6 b hb]
        congr 1
        unfold hst
        refine sumE_range (n := N17) s3 (fun q hq => ?_) (fun q _ hq => by rw [s4 q hq, cmP_0]; simp)
        obtain ⟨i, hi, e⟩ := mem_getD hq
        rw [← e]
        exact (s5 i hi).2.1
      · rw [up_ne (by decide), up_ne (by decide), g7 x hx]
    | succ k ih =>
      intro i nx ax lx E1 hi g1 g2 g3 g4 g5 g6 g7
      have hil : i < E.length := by omega
      obtain ⟨a1, a2, a3⟩ := s5 i hil
      have hwt := wsm_take_le (v := v) (t := t) E (i + 1)
      rw [wsm_take hil] at hwt
      refine ⟨fun c => absurd ((cmp_le ((g3 2 (by decide)).trans s1) (by omega) (by omega)).mp c) (by omega), fun _ => ⟨vp_in_nI (by omega) (by omega), ?_⟩⟩
      rw [nI_clamp (by omega), g4 5 (by decide), a1, g5 1 (by decide) (by decide), a3]
      intro x21 h21
      subst h21
      refine ⟨vp_in_nI (by omega) (by omega), ?_⟩
      intro x22 h22
      subst h22
      have cont := one i (E.getD i 0) (P_X3_letCome_9 (nI t) (nI (v 26 t)) post (fun ns na nl => P_X3_letCome_130 (nI t) (nI (v 26 t)) post ns na nl) (k + 1)) nx ax lx E1 _ a2 g1 (by omega) (g3 0 (by decide)) (g3 1 (by decide)) (fun ny ay ly E3 q1 q2 q3 q4 q5 q6 q7 => by
        refine ih (i + 1) ny ay ly E3 (by omega) ?_ (by rw [wsm_take hil]; omega) (fun j hj => (q3 j hj).trans (g3 j hj)) (fun j hj => (q4 j hj).trans (g4 j hj)) (fun j h0 h2 => (q5 j h0 h2).trans (g5 j h0 h2)) (fun b hb => ?_) (fun x hx => (q7 x hx).trans (g7 x hx))
        · simp only [sumE_take hil]
          exact q1
        · rw [q6 b hb, g6 b hb, sumE_take hil, Int64.add_assoc])
      show (((nI (E.getD i 0) &&& ((1 : Int32) <<< ((11 + nI t) &&& 31))) = 0) → _) ∧ ((¬ (nI (E.getD i 0) &&& ((1 : Int32) <<< ((11 + nI t) &&& 31))) = 0) → _)
      rw [show (11 : Int32) + nI t = nI (11 + t) from nI_add 11 t, sh1 (by omega), fa_bit (by omega)]
      refine ⟨fun c => ⟨fun _ => ?_, fun z => absurd rfl z⟩, fun c => ⟨fun z => absurd z (by decide), fun _ => ?_⟩⟩
      · rw [and2047 (by omega)]
        refine c_pickN (hN.frame ⟨fun j hj => g3 j (by omega), fun j hj => g4 j (by omega)⟩) ht h14 (by omega) ?_
        have : who v s t (E.getD i 0) = tk v s t (E.getD i 0 % 2048) := by unfold who; rw [c]; simp
        rw [← this]
        exact cont
      · have : who v s t (E.getD i 0) = none := by unfold who; rw [if_pos (by simpa using c)]
        rw [this] at cont
        exact cont
  refine ⟨E.length + 1, L E.length 0 _ _ _ [] (by omega) ?_ (Nat.zero_le _) (fun j hj => up_ne hj) (fun j hj => up_ne (by omega)) (fun _ _ _ => rfl) (fun b hb => ?_) (fun _ _ => rfl)⟩
  · rw [up_at, up_at, up_ne (by decide), up_ne (by decide)]
    exact hT
  · simp [sumE]
