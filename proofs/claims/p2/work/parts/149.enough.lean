/-! promise 39: enough -/
def cG (X : Nat → Int) (c : Int) : Nat → Nat := sumN (fun b => if c ≤ X b then 1 else 0)
theorem cG_le (X : Nat → Int) (c : Int) (n : Nat) : cG X c n ≤ n := by
  have := sumN_le (f := fun b => if c ≤ X b then 1 else 0) (c := 1) (n := n) (fun b _ => by split <;> omega)
  unfold cG
  omega
theorem cG_succ (X : Nat → Int) (c : Int) (n : Nat) : cG X c (n + 1) = cG X c n + if c ≤ X n then 1 else 0 := rfl
theorem sumN_mono {f g : Nat → Nat} : ∀ {n : Nat}, (∀ b, b < n → f b ≤ g b) → sumN f n ≤ sumN g n
  | 0, _ => Nat.le_refl 0
  | n + 1, h => by
    have h1 := sumN_mono (n := n) (fun b hb => h b (by omega))
    have h2 := h n (by omega)
    rw [sumN, sumN]
    omega
theorem sumN_lt {f g : Nat → Nat} {p : Nat} : ∀ {n : Nat}, (∀ b, b < n → f b ≤ g b) → p < n → f p < g p → sumN f n < sumN g n
  | 0, _, hp, _ => by omega
  | n + 1, h, hp, hlt => by
    have h2 := h n (by omega)
    rw [sumN, sumN]
    by_cases e : p = n
    · have h1 := sumN_mono (n := n) (fun b hb => h b (by omega))
      rw [e] at hlt
      omega
    · have h1 := sumN_lt (n := n) (fun b hb => h b (by omega)) (by omega) hlt
      omega
theorem sumN_off {T b : Nat} : ∀ {n : Nat}, b < n → T.testBit b = false → sumN (fun c => if (T ||| 2 ^ b).testBit c then 1 else 0) n = sumN (fun c => if T.testBit c then 1 else 0) n + 1
  | 0, h, _ => by omega
  | n + 1, h, ht => by
    rw [sumN, sumN]
    by_cases e : b = n
    · rw [sumN_cong (g := fun c => if T.testBit c then 1 else 0) (fun c hc => by rw [tb_or, show decide (b = c) = false by simp; omega, Bool.or_false])]
      rw [tb_or, e, ← e, ht]
      simp
    · rw [sumN_off (n := n) (by omega) ht, tb_or, show decide (b = n) = false by simp; omega, Bool.or_false]
      omega
def Sx (s : Nat → Int) : Nat → Int
  | 0 => 0
  | k + 1 => Sx s k + s k
theorem Sx_rng {s : Nat → Int} : ∀ {k : Nat}, (∀ i, i < k → -20000000000 ≤ s i ∧ s i ≤ 20000000000) → -(k * 20000000000 : Int) ≤ Sx s k ∧ Sx s k ≤ (k * 20000000000 : Int)
  | 0, _ => by simp [Sx]
  | k + 1, h => by
    have h1 := Sx_rng (k := k) (fun i hi => h i (by omega))
    have h2 := h k (by omega)
    rw [Sx]
    omega
def XW (v : Rl) (b : Nat) : Int := (lsW v b).toInt
theorem lsW_int (v : Rl) (b : Nat) : XW v b = (lossL (vs v 10 0 0) b).toInt - (lossL (vs v 10 0 1) b).toInt ∧ -20000000000 ≤ XW v b ∧ XW v b ≤ 20000000000 := by
  have h1 := loss_rng (vs v 10 0 0) b
  have h2 := loss_rng (vs v 10 0 1) b
  have e : XW v b = (lossL (vs v 10 0 0) b).toInt - (lossL (vs v 10 0 1) b).toInt := by
    unfold XW lsW
    rw [fb_subL (by omega) (by omega)]
  exact ⟨e, by omega, by omega⟩
/-- s is what is spared, the most first -/
def srtd (v : Rl) (s : Nat → Int) : Prop := ∀ k, k < v 13 0 → ∀ c : Int, c ≤ s k ↔ k < cG (XW v) c (v 13 0)
theorem srtd_rng {v : Rl} {s : Nat → Int} (h : srtd v s) {k : Nat} (hk : k < v 13 0) : -20000000000 ≤ s k ∧ s k ≤ 20000000000 := by
  refine ⟨(h k hk _).mpr ?_, ?_⟩
  · have : cG (XW v) (-20000000000) (v 13 0) = v 13 0 := by
      unfold cG
      rw [sumN_cong (g := fun _ => 1) (fun b _ => by rw [if_pos (lsW_int v b).2.1])]
      generalize v 13 0 = n
      induction n with
      | zero => rfl
      | succ n ih => rw [sumN, ih]
    omega
  · rcases Int.lt_or_le 20000000000 (s k) with c | c
    · exfalso
      have h1 := (h k hk 20000000001).mp (by omega)
      have : cG (XW v) 20000000001 (v 13 0) = 0 := by
        unfold cG
        rw [sumN_cong (g := fun _ => 0) (fun b _ => by rw [if_neg (by have := (lsW_int v b).2.2; omega)])]
        generalize v 13 0 = n
        induction n with
        | zero => rfl
        | succ n ih => rw [sumN, ih]
      omega
    · exact c
def enF (v : Rl) (s : Nat → Int) : Nat := fa_first (fun m => decide ((wagesZ v : Int) ≤ Sx s m)) (v 13 0 + 1)
def enI (v : Rl) (s : Nat → Int) : Int32 := if enF v s ≤ v 13 0 then nI (enF v s) else -1
theorem enF_at {v : Rl} {s : Nat → Int} {i : Nat} (hi : i ≤ enF v s) (hn : i ≤ v 13 0) : ((wagesZ v : Int) ≤ Sx s i → enF v s = i) ∧ (¬ (wagesZ v : Int) ≤ Sx s i → i + 1 ≤ enF v s) := by
  refine ⟨fun e => ?_, fun e => ?_⟩
  · rcases Nat.lt_or_ge i (enF v s) with q | q
    · have := fa_first_no (fun m => decide ((wagesZ v : Int) ≤ Sx s m)) (v 13 0 + 1) i q
      simp [e] at this
    · omega
  · rcases Nat.lt_or_ge i (enF v s) with q | q
    · exact q
    · exfalso
      have e2 : enF v s = i := by omega
      have := fa_first_yes (fun m => decide ((wagesZ v : Int) ≤ Sx s m)) (v 13 0 + 1) (by unfold enF at e2; omega)
      rw [show fa_first (fun m => decide ((wagesZ v : Int) ≤ Sx s m)) (v 13 0 + 1) = i from e2] at this
      simp at this
      exact e this
section EN
variable {us : A1} {ua : A2} {rs : A1} {ra ra2 sa : A2} {sl : L2} {ns : A1} {na : A2} {nl : L2} {yt : Int32} {im : Img} {ms : A1} {ma : A2} {ml : L2}
theorem c_findSpared {v : Rl} (hv : okR v) (hC : RelC v rs ra) (hK : NOK ns na nl) (rs2 : A1) (o_of : Nat → Int64) {post : A1 → A2 → A1 → A2 → L2 → (Nat → Int64) → Prop} (h : ∀ rs' ra' ns' na' nl' of', BOK ra' → NOK ns' na' nl' → srtd v (fun k => (of' k).toInt) → post rs' ra' ns' na' nl' of') : P_X11_findSpared rs ra rs2 ra2 ns na nl o_of post := by
  have h13 := ok13 hv.1
  have hv0 := hv.w (x := 0) (by decide)
  have hv1 := hv.w (x := 1) (by decide)
  refine c_copyFrom hC hv.1 (fun rs' ra' hC1 hB1 _ => ?_)
  have hCa := hC1.w 0
  have hCb := (hC1.w 0).w 1
  rw [vs_ww] at hCb
  have ea : va_up rs' 10 0 13 = nI (v 13 0) := by rw [up_ne (by decide), rc_s hC1 13]
  have eb : va_up (va_up rs' 10 0) 10 1 13 = nI (v 13 0) := by rw [up_ne (by decide), ea]
  refine c_play hCa hv0.1 hK (fun n1 a1 l1 hPl => ?_)
  -- one more, put to its place
  have I : ∀ (n2 : A1) (a2 : A2) (l2 : L2) (R92 : Int32 → (Nat → Int64) → Prop) (i : Nat) (x : Int64), i < v 13 0 → x.toInt = XW v i → ∀ (of0 : Nat → Int64), (∀ k, k < i → ∀ c : Int, c ≤ (of0 k).toInt ↔ k < cG (XW v) c i) → (∀ of1 : Nat → Int64, (∀ k, k < i + 1 → ∀ c : Int, c ≤ (of1 k).toInt ↔ k < cG (XW v) c (i + 1)) → (∀ k, i < k → of1 k = of0 k) → R92 (nI (i + 1)) of1) → ∀ (a : Nat) (of : Nat → Int64), a ≤ i → (∀ k, k < a → of k = of0 k) → (∀ k, a < k → k ≤ i → of k = of0 (k - 1)) → (∀ k, i < k → of k = of0 k) → (∀ k, a ≤ k → k < i → (of0 k).toInt < XW v i) → P_X11_findSpared_130 rs ra (va_up (va_up rs' 10 0) 10 1) ra' n2 a2 l2 post R92 (nI i) x (a + 1) (nI a) of := by
    intro n2 a2 l2 R92 i x hi hx of0 g0 kk a
    have fin : ∀ (a : Nat) (of : Nat → Int64), a ≤ i → (∀ k, k < a → of k = of0 k) → (∀ k, a < k → k ≤ i → of k = of0 (k - 1)) → (∀ k, i < k → of k = of0 k) → (∀ k, a ≤ k → k < i → (of0 k).toInt < XW v i) → (∀ k, k < a → XW v i ≤ (of0 k).toInt) → R92 (nI (i + 1)) (vp_updL of a x) := by
      intro a of ha q1 q2 q3 q4 q5
      refine kk _ (fun k hk c => ?_) (fun k hk => by rw [uL_ne (by omega), q3 k hk])
      have hG := cG_succ (XW v) c i
      have hGle := cG_le (XW v) c i
      rcases Nat.lt_trichotomy k a with e | e | e
      · rw [uL_ne (by omega), q1 k e]
        have g := g0 k (by omega) c
        have q := q5 k e
        by_cases cx : c ≤ XW v i
        · rw [if_pos cx] at hG
          constructor
          · intro c1; have := g.mp c1; omega
          · intro _; omega
        · rw [if_neg cx] at hG
          rw [hG]; exact g
      · subst e
        rw [uL_at, hx]
        constructor
        · intro cx
          rw [if_pos cx] at hG
          rcases Nat.eq_zero_or_pos k with z | z
          · omega
          · have := (g0 (k - 1) (by omega) c).mp (by have := q5 (k - 1) (by omega); omega)
            omega
        · intro c1
          rcases Int.lt_or_le (XW v i) c with cx | cx
          · exfalso
            rw [if_neg (by omega)] at hG
            have hki : k < i := by omega
            have := (g0 k hki c).mpr (by omega)
            have := q4 k (Nat.le_refl _) hki
            omega
          · exact cx
      · rw [uL_ne (by omega), q2 k e (by omega)]
        have g := g0 (k - 1) (by omega) c
        have q := q4 (k - 1) (by omega) (by omega)
        by_cases cx : c ≤ XW v i
        · rw [if_pos cx] at hG
          constructor
          · intro c1; have := g.mp c1; omega
          · intro c1; exact g.mpr (by omega)
        · rw [if_neg cx] at hG
          constructor
          · intro c1; omega
          · intro c1; exact g.mpr (by omega)
    have hsort : ∀ j k, j ≤ k → k < i → (of0 k).toInt ≤ (of0 j).toInt := by
      intro j k hjk hk
      have := (g0 k hk (of0 k).toInt).mp (Int.le_refl _)
      exact (g0 j (by omega) _).mpr (by omega)
    induction a with
    | zero =>
      intro of ha q1 q2 q3 q4
      refine ⟨fun _ => ⟨vp_in_nI (by omega) (by decide), ?_⟩, fun c => absurd (by decide) c⟩
      rw [nI_1, nI_clamp (by omega)]
      exact fin 0 of ha q1 q2 q3 q4 (fun k hk => by omega)
    | succ a ih =>
      intro of ha q1 q2 q3 q4
      refine ⟨fun c => absurd c (nI_nle (by omega) (by omega)), fun _ => ?_⟩
      rw [nI_pred, nI_1]
      refine ⟨vp_in_nI (by omega) (by decide), ?_⟩
      rw [nI_clamp (by omega), nI_clamp (by omega), q1 a (by omega), Int64.le_iff_toInt_le, hx]
      refine ⟨fun c => ⟨vp_in_nI (by omega) (by decide), fin (a + 1) of ha q1 q2 q3 q4 (fun k hk => ?_)⟩, fun c => ⟨vp_in_nI (by omega) (by decide), vp_in_nI (by omega) (by decide), ?_⟩⟩
      · have := hsort k a (by omega) (by omega)
        omega
      · rw [pk_m1]
        refine ih _ (by omega) (fun k hk => by rw [uL_ne (by omega), q1 k (by omega)]) (fun k h1 h2 => ?_) (fun k hk => by rw [uL_ne (by omega), q3 k hk]) (fun k h1 h2 => ?_)
        · by_cases e : k = a + 1
          · rw [e, uL_at, show a + 1 - 1 = a by omega]
          · rw [uL_ne e, q2 k (by omega) h2]
        · by_cases e : k = a
          · rw [e]; omega
          · exact q4 k (by omega) h2
  have LL : ∀ (n2 : A1) (a2 : A2) (l2 : L2), NOK n2 a2 l2 → HadR (vs v 10 0 1) l2 → ∀ (k i : Nat) (of : Nat → Int64), i + k = v 13 0 → (∀ j, j < i → ∀ c : Int, c ≤ (of j).toInt ↔ j < cG (XW v) c i) → (∀ x, i ≤ x → x < v 13 0 → of x = lossL (vs v 10 0 0) x) → P_X11_findSpared_92 rs ra post (va_up (va_up rs' 10 0) 10 1) ra' n2 a2 l2 (k + 1) (nI i) of := by
    intro n2 a2 l2 hK2 hH2 k
    induction k with
    | zero =>
      intro i of hi q1 q2
      obtain rfl : i = v 13 0 := by omega
      exact ⟨fun _ => h _ _ _ _ _ _ hB1 hK2 q1, fun c => absurd ((cmp_le eb (by omega) (by omega)).mpr (Nat.le_refl _)) c⟩
    | succ k ih =>
      intro i of hi q1 q2
      refine ⟨fun c => absurd ((cmp_le eb (by omega) (by omega)).mp c) (by omega), fun _ => ⟨vp_in_nI (by omega) (by decide), ?_⟩⟩
      refine c_costOf (w := 1) hCb hv1.1 hH2 (by rw [vs_f (by decide)]; omega) (by decide) (fun x hx => ?_)
      rw [nI_clamp (by omega), q2 i (Nat.le_refl _) (by omega)] at hx
      have hx' : x = lsW v i := hx
      refine ⟨i + 1, I n2 a2 l2 _ i x (by omega) (by rw [hx']; rfl) of q1 (fun of1 r1 r2 => ih (i + 1) of1 (by omega) r1 (fun y h1 h2 => by rw [r2 y (by omega)]; exact q2 y (by omega) h2)) i of (Nat.le_refl _) (fun _ _ => rfl) (fun y h1 h2 => by omega) (fun _ _ => rfl) (fun y h1 h2 => by omega)⟩
  have L1 : ∀ (k i : Nat) (of : Nat → Int64), i + k = v 13 0 → (∀ x, x < i → of x = lossL (vs v 10 0 0) x) → P_X11_findSpared_32 rs ra post (fun (rs2 : Nat → Int32) (ra2 : Nat → Nat → Int32) (ns : Nat → Int32) (na : Nat → Nat → Int32) (nl : Nat → Nat → Int64) (o_of : Nat → Int64) => P_X11_findSpared_71 rs ra post rs2 ra2 ns na nl o_of) (va_up rs' 10 0) ra' n1 a1 l1 (k + 1) (nI i) of := by
    intro k
    induction k with
    | zero =>
      intro i of hi q1
      obtain rfl : i = v 13 0 := by omega
      refine ⟨fun _ => c_play hCb hv1.1 hPl.2.1 (fun n2 a2 l2 hPl2 => ?_), fun c => absurd ((cmp_le ea (by omega) (by omega)).mpr (Nat.le_refl _)) c⟩
      exact ⟨v 13 0 + 1, LL n2 a2 l2 hPl2.2.1 hPl2.2.2.2 (v 13 0) 0 of (by omega) (fun j hj => by omega) (fun x _ hx => q1 x hx)⟩
    | succ k ih =>
      intro i of hi q1
      refine ⟨fun c => absurd ((cmp_le ea (by omega) (by omega)).mp c) (by omega), fun _ => ?_⟩
      refine c_costOf (w := 1) hCa hv0.1 hPl.2.2.2 (by rw [vs_f (by decide)]; omega) (by decide) ⟨vp_in_nI (by omega) (by decide), ?_⟩
      rw [nI_1, nI_clamp (by omega)]
      refine ih (i + 1) _ (by omega) (fun x hx => ?_)
      by_cases c : x = i
      · rw [c, uL_at]; rfl
      · rw [uL_ne c]; exact q1 x (by omega)
  exact ⟨v 13 0 + 1, L1 (v 13 0) 0 o_of (by omega) (fun x hx => by omega)⟩
theorem m_enough {v : Rl} (hv : okR v) (hM : RM v 0 ms ma) {s : Nat → Int} (hs : srtd v s) (h6 : ∀ b, b < v 13 0 → ml 6 b = lsW v b) {post : Int32 → A1 → A2 → L2 → Prop} (h : post (enI v s) ms ma ml) : ∃ n, P_X12_enough_31 post ms ma ml n (lN (wagesZ v)) 0 0 := by
  have h13 := ok13 hv.1
  have hw := wages_le hv.1
  have e13 : ma 10 0 = nI (v 13 0) := hM.1.1.2.2.2.2
  have hle : enF v s ≤ v 13 0 + 1 := fa_first_le _ _
  have hSr : ∀ k, k ≤ v 13 0 → -(k * 20000000000 : Int) ≤ Sx s k ∧ Sx s k ≤ (k * 20000000000 : Int) := fun k hk => Sx_rng (fun i hi => srtd_rng hs (by omega))
  unfold enI at h
  -- the greatest of those that are left
  have I : ∀ (k : Nat) (T : Nat), k ≤ v 13 0 → T < 1024 → sumN (fun b => if T.testBit b then 1 else 0) (v 13 0) = k → (∀ b c, b < v 13 0 → c < v 13 0 → T.testBit b = true → T.testBit c = false → XW v c ≤ XW v b) → ∀ (x1 : Int64) (K111 : Int64 → Int32 → Int32 → Int32 → Prop), (k = v 13 0 → K111 x1 (nI T) (nI k) (-1)) → (∀ b, k < v 13 0 → b < v 13 0 → T.testBit b = false → XW v b = s k → (∀ c, c < v 13 0 → T.testBit c = false → XW v c ≤ XW v b) → K111 x1 (nI T) (nI k) (nI b)) → ∃ n, P_X12_enough_57 ms ma ml post K111 x1 (nI T) (nI k) n (-1) 0 := by
    intro k T hk hT hc hdom x1 K111 k1 k2
    have L : ∀ (d i : Nat) (o : Option Nat), i + d = v 13 0 → (o = none → ∀ c, c < i → T.testBit c = true) → (∀ b, o = some b → b < i ∧ T.testBit b = false ∧ ∀ c, c < i → T.testBit c = false → XW v c ≤ XW v b) → P_X12_enough_57 ms ma ml post K111 x1 (nI T) (nI k) (d + 1) (oI o) (nI i) := by
      intro d
      induction d with
      | zero =>
        intro i o hi q1 q2
        obtain rfl : i = v 13 0 := by omega
        refine ⟨fun _ => ?_, fun c => absurd ((cmp_le e13 (by omega) (by omega)).mpr (Nat.le_refl _)) c⟩
        cases o with
        | none =>
          refine k1 ?_
          have : sumN (fun b => if T.testBit b then 1 else 0) (v 13 0) = sumN (fun _ => 1) (v 13 0) := sumN_cong (fun b hb => by rw [if_pos (q1 rfl b hb)])
          rw [hc] at this
          have e1 : ∀ n, sumN (fun _ => 1) n = n := by
            intro n
            induction n with
            | zero => rfl
            | succ n ih => rw [sumN, ih]
          rw [this, e1]
        | some b =>
          obtain ⟨b1, b2, b3⟩ := q2 b rfl
          have hcnt : ∀ c : Int, c ≤ XW v b ↔ k < cG (XW v) c (v 13 0) := by
            intro c
            constructor
            · intro hcb
              rw [← hc]
              unfold cG
              refine sumN_lt (p := b) (fun y hy => ?_) b1 ?_
              · by_cases ty : T.testBit y = true
                · rw [if_pos ty, if_pos (by have := hdom y b hy b1 ty b2; omega)]
                  exact Nat.le_refl _
                · rw [if_neg ty]; omega
              · rw [b2, if_pos hcb]
                simp
            · intro hk2
              rcases Int.lt_or_le (XW v b) c with q | q
              · exfalso
                have : cG (XW v) c (v 13 0) ≤ k := by
                  rw [← hc]
                  unfold cG
                  refine sumN_mono (fun y hy => ?_)
                  by_cases ty : T.testBit y = true
                  · rw [if_pos ty]; split <;> omega
                  · rw [if_neg (show ¬ c ≤ XW v y by have := b3 y hy (by simpa using ty); omega)]
                    omega
                omega
              · exact q
          have hkn : k < v 13 0 := by
            have := (hcnt (XW v b)).mp (Int.le_refl _)
            have := cG_le (XW v) (XW v b) (v 13 0)
            omega
          refine k2 b hkn b1 b2 ?_ b3
          have h1 := (hs k hkn (XW v b)).mpr ((hcnt _).mp (Int.le_refl _))
          have h2 := (hcnt (s k)).mpr ((hs k hkn _).mp (Int.le_refl _))
          omega
      | succ d ih =>
        intro i o hi q1 q2
        refine ⟨fun c => absurd ((cmp_le e13 (by omega) (by omega)).mp c) (by omega), fun _ => ?_⟩
        rw [bit_z (by omega) (by omega), nI_1]
        refine ⟨fun c => ?_, fun c => ?_⟩
        · have ct : T.testBit i = true := by simpa using c
          refine ih (i + 1) o (by omega) (fun e y hy => ?_) (fun b e => ?_)
          · by_cases z : y = i
            · rw [z]; exact ct
            · exact q1 e y (by omega)
          · obtain ⟨b1, b2, b3⟩ := q2 b e
            refine ⟨by omega, b2, fun y hy ty => ?_⟩
            by_cases z : y = i
            · rw [z, ct] at ty; exact absurd ty (by simp)
            · exact b3 y (by omega) ty
        · cases o with
          | none =>
            refine ⟨fun _ => ?_, fun z => absurd rfl z⟩
            refine ih (i + 1) (some i) (by omega) (fun e => absurd e (by simp)) (fun b e => ?_)
            simp at e
            subst e
            refine ⟨by omega, c, fun y hy ty => ?_⟩
            by_cases z : y = i
            · rw [z]; exact Int.le_refl _
            · have := q1 rfl y (by omega)
              rw [this] at ty
              exact absurd ty (by simp)
          | some b =>
            obtain ⟨b1, b2, b3⟩ := q2 b rfl
            refine ⟨fun z => absurd z (nI_nm1 (by omega)), fun _ => ⟨vp_in_nI (by omega) (by decide), vp_in_nI (by omega) (by decide), ?_⟩⟩
            rw [show oI (some b) = nI b from rfl, nI_clamp (by omega), nI_clamp (by omega), h6 i (by omega), h6 b (by omega), Int64.le_iff_toInt_le]
            refine ⟨fun c2 => ?_, fun c2 => ?_⟩
            · refine ih (i + 1) (some b) (by omega) (fun e => absurd e (by simp)) (fun b' e => ?_)
              simp at e
              subst e
              refine ⟨by omega, b2, fun y hy ty => ?_⟩
              by_cases z : y = i
              · rw [z]; exact c2
              · exact b3 y (by omega) ty
            · refine ih (i + 1) (some i) (by omega) (fun e => absurd e (by simp)) (fun b' e => ?_)
              simp at e
              subst e
              refine ⟨by omega, c, fun y hy ty => ?_⟩
              by_cases z : y = i
              · rw [z]; exact Int.le_refl _
              · have h3 := b3 y (by omega) ty
                have h4 : XW v b < XW v i := by unfold XW; omega
                omega
    exact ⟨v 13 0 + 1, L (v 13 0) 0 none (by omega) (fun _ c hc => by omega) (fun b e => absurd e (by simp))⟩
  have L : ∀ (d k : Nat) (T : Nat) (x : Int64), k + d = v 13 0 → k ≤ enF v s → T < 1024 → sumN (fun b => if T.testBit b then 1 else 0) (v 13 0) = k → (∀ b c, b < v 13 0 → c < v 13 0 → T.testBit b = true → T.testBit c = false → XW v c ≤ XW v b) → x.toInt = (wagesZ v : Int) - Sx s k → P_X12_enough_31 post ms ma ml (d + 1) x (nI T) (nI k) := by
    intro d
    induction d with
    | zero =>
      intro k T x hk hen hT hc hdom hx
      obtain rfl : k = v 13 0 := by omega
      obtain ⟨e1, e2⟩ := enF_at hen (Nat.le_refl _)
      refine ⟨fun c => absurd ((nI_ltI (by omega) (by omega)).mp (by rw [e13] at c; exact c)) (Nat.lt_irrefl (v 13 0)), fun _ => ⟨fun c => ?_, fun c => ?_⟩⟩
      · rw [Int64.lt_iff_toInt_lt, hx, show (0 : Int64).toInt = 0 from rfl] at c
        refine I (v 13 0) T (Nat.le_refl _) hT hc hdom x _ (fun _ => ?_) (fun b hkb => by omega)
        have := e2 (by omega)
        rw [if_neg (by omega)] at h
        exact ⟨fun z => absurd rfl z, fun _ => h⟩
      · rw [Int64.lt_iff_toInt_lt, hx, show (0 : Int64).toInt = 0 from rfl] at c
        have := e1 (by omega)
        rw [this, if_pos (Nat.le_refl _)] at h
        exact h
    | succ d ih =>
      intro k T x hk hen hT hc hdom hx
      obtain ⟨e1, e2⟩ := enF_at (v := v) (s := s) hen (by omega)
      have hS := hSr k (by omega)
      refine ⟨fun c => absurd (by rw [e13] at c; exact (nI_ltI (by omega) (by omega)).mp c) (by omega), fun _ => ⟨fun c => ?_, fun c => ?_⟩⟩
      · rw [Int64.lt_iff_toInt_lt, hx, show (0 : Int64).toInt = 0 from rfl] at c
        refine I k T (by omega) hT hc hdom x _ (fun e => by omega) (fun b _ hb tb hbs hmax => ?_)
        refine ⟨fun _ y hy => ⟨vp_in_nI (by omega) (by decide), fun w hw => ?_⟩, fun z => absurd z (nI_nm1 (by omega))⟩
        rw [sh1 (by omega), fa_or] at hy
        rw [nI_clamp (by omega), h6 b hb] at hw
        have hrb := srtd_rng hs (show k < v 13 0 by omega)
        have hxw : (lsW v b).toInt = s k := hbs
        rw [hy, nI_1]
        refine ih (k + 1) (T ||| 2 ^ b) w (by omega) (e2 (by omega)) (or_ltN (n := 10) hT (by omega)) ?_ ?_ ?_
        · have := sumN_off (T := T) (b := b) (n := v 13 0) hb tb
          rw [this, hc]
        · intro y c hy1 hc1 ty tc
          rw [tb_or] at ty tc
          simp at ty tc
          rcases ty with ty | ty
          · exact hdom y c hy1 hc1 ty (by simpa using tc.1)
          · rw [← ty]; exact hmax c hc1 (by simpa using tc.1)
        · rw [hw, fb_subL (by rw [hx, hxw]; omega) (by rw [hx, hxw]; omega), hx, hxw, Sx]
          omega
      · rw [Int64.lt_iff_toInt_lt, hx, show (0 : Int64).toInt = 0 from rfl] at c
        have := e1 (by omega)
        rw [this, if_pos (by omega)] at h
        exact h
  refine ⟨v 13 0 + 1, L (v 13 0) 0 0 _ (by omega) (Nat.zero_le _) (by decide) ?_ (fun b c _ _ tb => by simp at tb) ?_⟩
  · rw [sumN_cong (g := fun _ => 0) (fun b _ => by simp)]
    generalize v 13 0 = n
    induction n with
    | zero => rfl
    | succ n ih => rw [sumN, ih]
  · rw [pk_lT (by omega), Sx]
    omega
theorem q_enough (hI : Inv us ua rs ra ra2 sa sl ns na nl yt im ms ma ml) (rs2 : A1) (o_of : Nat → Int64) : P_X11_enough rs ra rs2 ra2 ns na nl o_of (fun r _ ra2' ns' na' nl' _ => P_X12_enough ms ma ml (fun r' mt mb mk => r = r' ∧ Inv us ua rs ra ra2' sa sl ns' na' nl' yt im mt mb mk)) := by
  obtain ⟨v, hv, hC, hM, hP, hY, hK, hB, F⟩ := hI.get
  have h7 := ok7 hv.1
  have h13 := ok13 hv.1
  have hw := wages_le hv.1
  have fin := F ra2 ns na nl _ _ _ (MG.refl _ _ _) hM.1 hB hK
  have e7 : ma 14 3 = nI (v 7 0) := hM.1.2.2.2.2.2.2.2.1
  unfold P_X11_enough
  rw [rc_s hC 7, show (nI (v 7 0) = (0 : Int32)) = (nI (v 7 0) = nI 0) from rfl, nI_eq (by omega) (by decide)]
  refine ⟨fun c => c_findSpared hv hC hK rs2 o_of (fun rs3 ra3 ns3 na3 nl3 of3 hB3 hK3 hs => ?_), fun c => ⟨fun c2 => absurd (by rw [e7, c]; rfl) c2, fun _ => ⟨rfl, fin⟩⟩⟩
  have hle : enF v (fun k => (of3 k).toInt) ≤ v 13 0 + 1 := fa_first_le _ _
  have hSr : ∀ k, k ≤ v 13 0 → -(k * 20000000000 : Int) ≤ Sx (fun k => (of3 k).toInt) k ∧ Sx (fun k => (of3 k).toInt) k ≤ (k * 20000000000 : Int) := fun k hk => Sx_rng (fun i hi => srtd_rng hs (by omega))
  have M : P_X12_enough ms ma ml (fun r' mt mb mk => enI v (fun k => (of3 k).toInt) = r' ∧ Inv us ua rs ra ra3 sa sl ns3 na3 nl3 yt im mt mb mk) := by
    refine ⟨fun _ => m_laysWatch hv hM (fun mt mb mk hM' hG h6 => m_wages hv.1 hM'.1 (m_enough hv hM' hs h6 ⟨rfl, F _ _ _ _ _ _ _ hG hM'.1 hB3 hK3⟩)), fun c2 => absurd ((cmp_eq (i := 0) e7 (by omega) (by decide)).mp c2) c⟩
  have eW : (lN (wagesZ v)).toInt = (wagesZ v : Int) := pk_lT (by omega)
  have K : ∀ (i : Nat) (x : Int64), i ≤ v 13 0 → x.toInt = Sx (fun k => (of3 k).toInt) i → i ≤ enF v (fun k => (of3 k).toInt) → (i = v 13 0 ∨ (wagesZ v : Int) ≤ Sx (fun k => (of3 k).toInt) i) → P_X11_enough_70 rs ra (fun r _ ra2' ns' na' nl' _ => P_X12_enough ms ma ml (fun r' mt mb mk => r = r' ∧ Inv us ua rs ra ra2' sa sl ns' na' nl' yt im mt mb mk)) (nI i) x rs3 ra3 ns3 na3 nl3 of3 := by
    intro i x hi hx hen ho
    obtain ⟨e1, e2⟩ := enF_at hen hi
    refine c_wages hC hv.1 ⟨fun c2 => ?_, fun c2 => ?_⟩
    · rw [Int64.lt_iff_toInt_lt, hx, eW] at c2
      have := e2 (by omega)
      have e : enI v (fun k => (of3 k).toInt) = -1 := by unfold enI; rw [if_neg (by omega)]
      rw [e] at M
      exact M
    · rw [Int64.lt_iff_toInt_lt, hx, eW] at c2
      have := e1 (by omega)
      have e : enI v (fun k => (of3 k).toInt) = nI i := by unfold enI; rw [this, if_pos hi]
      rw [e] at M
      exact M
  have L : ∀ (k i : Nat) (x : Int64), i + k = v 13 0 → x.toInt = Sx (fun k => (of3 k).toInt) i → i ≤ enF v (fun k => (of3 k).toInt) → P_X11_enough_24 rs ra (fun r _ ra2' ns' na' nl' _ => P_X12_enough ms ma ml (fun r' mt mb mk => r = r' ∧ Inv us ua rs ra ra2' sa sl ns' na' nl' yt im mt mb mk)) (fun (x1_ : Int32) (x2_ : Int64) (rs2 : Nat → Int32) (ra2 : Nat → Nat → Int32) (ns : Nat → Int32) (na : Nat → Nat → Int32) (nl : Nat → Nat → Int64) (o_of : Nat → Int64) => P_X11_enough_70 rs ra (fun r _ ra2' ns' na' nl' _ => P_X12_enough ms ma ml (fun r' mt mb mk => r = r' ∧ Inv us ua rs ra ra2' sa sl ns' na' nl' yt im mt mb mk)) x1_ x2_ rs2 ra2 ns na nl o_of) rs3 ra3 ns3 na3 nl3 of3 (k + 1) (nI i) x (nI i) := by
    intro k
    induction k with
    | zero =>
      intro i x hi hx hen
      obtain rfl : i = v 13 0 := by omega
      exact ⟨fun _ => K _ x (Nat.le_refl _) hx hen (Or.inl rfl), fun c => absurd ((cmp_le (rc_s hC 13) (by omega) (by omega)).mpr (Nat.le_refl _)) c⟩
    | succ k ih =>
      intro i x hi hx hen
      obtain ⟨e1, e2⟩ := enF_at (v := v) hen (by omega)
      have hS := hSr i (by omega)
      have hr := srtd_rng hs (show i < v 13 0 by omega)
      refine ⟨fun c => absurd ((cmp_le (rc_s hC 13) (by omega) (by omega)).mp c) (by omega), fun _ => c_wages hC hv.1 ⟨fun c2 => ?_, fun c2 => ⟨vp_in_nI (by omega) (by decide), fun y hy => ?_⟩⟩⟩
      · rw [Int64.le_iff_toInt_le, hx, eW] at c2
        exact K i x (by omega) hx hen (Or.inr c2)
      · rw [Int64.le_iff_toInt_le, hx, eW] at c2
        rw [nI_clamp (by omega)] at hy
        rw [nI_1]
        refine ih (i + 1) y (by omega) ?_ (e2 c2)
        rw [hy, fb_addL (by rw [hx]; omega) (by rw [hx]; omega), hx, Sx]
  exact ⟨v 13 0 + 1, L (v 13 0) 0 0 (by omega) (by rw [Sx]; rfl) (Nat.zero_le _)⟩
end EN
