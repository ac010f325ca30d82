/-! promises 39 and 40: the law on locks -/
def vl (v : Rl) (l : Nat) : Nat → Rl
  | 0 => v
  | n + 1 => vo (vl v l n) n (2 * max (v 23 n) l + v 24 n)
theorem vl_so (v : Rl) (l : Nat) : ∀ n, n ≤ v 13 0 → SO (vl v l n) v
  | 0, _ => SO.refl v
  | n + 1, h => (vl_so v l n (by omega)).vo (by omega) _
theorem vl_at (v : Rl) (l : Nat) : ∀ n b, n ≤ b → vl v l n 23 b = v 23 b ∧ vl v l n 24 b = v 24 b
  | 0, _, _ => ⟨rfl, rfl⟩
  | n + 1, b, h => by
    rw [vl, vo_23, vo_24, if_neg (by omega), if_neg (by omega)]
    exact vl_at v l n b (by omega)
theorem vl_ok {v : Rl} (hv : okR v) {l : Nat} (hl : l ≤ v 12 0) : ∀ n, n ≤ v 13 0 → okR (vl v l n)
  | 0, _ => hv
  | n + 1, h => by
    have h1 := (vl_so v l n (by omega)).m
    obtain ⟨-, -, -, b23, b24⟩ := hv.1.2.2.2.2.1 n (by omega)
    exact (vl_ok hv hl n (by omega)).vo (by rw [h1]; omega)
theorem pre_lt {a b : Nat} (ha : a < 2 ^ 30) (hb : b < 2 ^ 30) : nI a - 1 < nI b - 1 ↔ a < b := by
  rw [Int32.lt_iff_toInt_lt, show (1 : Int32) = nI 1 from rfl, nS ha (by decide), nS hb (by decide)]
  omega
theorem pre_le {a b : Nat} (ha : a < 2 ^ 30) (hb : b < 2 ^ 30) : nI a - 1 ≤ nI b - 1 ↔ a ≤ b := by
  rw [Int32.le_iff_toInt_le, show (1 : Int32) = nI 1 from rfl, nS ha (by decide), nS hb (by decide)]
  omega
theorem upd_id {f : Nat → Int32} {k : Nat} {x : Int32} (h : x = f k) : upd f k x = f := by
  funext i
  by_cases c : i = k
  · rw [c, u_at, h]
  · rw [u_ne c]
theorem vup_id {α : Type} {f : Nat → α} {k : Nat} {x : α} (h : x = f k) : va_up f k x = f := by
  funext i
  by_cases c : i = k
  · rw [c, up_at, h]
  · rw [up_ne c]
theorem m_at0 {b : Nat} {post : Int32 → Prop} (h : post (nI (5 * (10 * 0 + b)))) : P_X12_at 0 (nI b) post := by
  show post ((5 : Int32) * ((10 : Int32) * nI 0 + nI b))
  rw [show (5 : Int32) * ((10 : Int32) * nI 0 + nI b) = nI (5 * (10 * 0 + b)) by simp only [fa_lit, pk_mul, nI_add]]
  exact h
section LW
variable {us : A1} {ua : A2} {rs : A1} {ra ra2 sa : A2} {sl : L2} {ns : A1} {na : A2} {nl : L2} {yt : Int32} {im : Img} {ms : A1} {ma : A2} {ml : L2}
def fL (v : Rl) (l : Nat) : Int64 := allL (vl v l (v 13 0)) 2
theorem c_costByLaw {v : Rl} (hv : okR v) (hC : RelC v rs ra) (hK : NOK ns na nl) (rs2 : A1) (ra2 : A2) {l : Nat} (hl : l ≤ v 12 0) {post : Int64 → A1 → A2 → A1 → A2 → L2 → Prop} (h : ∀ rs' ra' ns' na' nl', BOK ra' → NOK ns' na' nl' → post (fL v l) rs' ra' ns' na' nl') : P_X11_costByLaw rs ra rs2 ra2 ns na nl (nI l - 1) post := by
  have h13 := ok13 hv.1
  have h12 := ok12 hv.1
  refine c_copyFrom hC hv.1 (fun rs' ra' hC1 hB1 _ => ?_)
  have L : ∀ (k i : Nat) (rx : A2), i + k = v 13 0 → RelC (vl v l i) rs' rx → P_X11_costByLaw_13 rs ra (nI l - 1) post (fun (rs2 : Nat → Int32) (ra2 : Nat → Nat → Int32) (ns : Nat → Int32) (na : Nat → Nat → Int32) (nl : Nat → Nat → Int64) => P_X11_costByLaw_61 rs ra (nI l - 1) post rs2 ra2 ns na nl) rs' ns na nl (k + 1) (nI i) rx := by
    intro k
    induction k with
    | zero =>
      intro i rx hi q1
      obtain rfl : i = v 13 0 := by omega
      have hg := vl_ok hv hl (v 13 0) (Nat.le_refl _)
      exact ⟨fun _ => c_allOn (w := 2) q1 hg.1 hK (by decide) (fun n4 a4 l4 hK4 => h _ _ _ _ _ q1.bok hK4), fun c => absurd ((cmp_le (rc_s hC1 13) (by omega) (by omega)).mpr (Nat.le_refl _)) c⟩
    | succ k ih =>
      intro i rx hi q1
      obtain ⟨-, -, -, b23, b24⟩ := hv.1.2.2.2.2.1 i (by omega)
      refine ⟨fun c => absurd ((cmp_le (rc_s hC1 13) (by omega) (by omega)).mp c) (by omega), fun _ => ⟨vp_in_nI (by omega) (by decide), vp_in_nI (by omega) (by decide), ?_⟩⟩
      obtain ⟨a1, a2⟩ := vl_at v l i i (Nat.le_refl _)
      obtain ⟨-, -, -, e7, e8⟩ := q1.2.2.2.2.1 i (by rw [(vl_so v l i (by omega)).n]; omega)
      rw [nI_1, nI_clamp (by omega)]
      refine ih (i + 1) _ (by omega) ?_
      have R := q1.vo (b := i) (o := 2 * max (v 23 i) l + v 24 i) (by omega) rfl rfl
      rw [a1] at e7
      rw [a2] at e8
      have z1 : (2 * max (v 23 i) l + v 24 i) / 2 = max (v 23 i) l := by omega
      have z2 : (2 * max (v 23 i) l + v 24 i) % 2 = v 24 i := by omega
      rw [z1, z2, upd_id (f := rx 8) (k := i) e8.symm, vup_id (f := va_up rx 7 (upd (rx 7) i (nI (max (v 23 i) l) - 1))) (k := 8) (by rw [up_ne (by decide)])] at R
      have z3 : (if rx 7 i < nI l - 1 then nI l - 1 else rx 7 i) = nI (max (v 23 i) l) - 1 := by
        rw [e7]
        by_cases q : v 23 i < l
        · rw [if_pos ((pre_lt (by omega) (by omega)).mpr q), show max (v 23 i) l = l by omega]
        · rw [if_neg (fun w => q ((pre_lt (by omega) (by omega)).mp w)), show max (v 23 i) l = v 23 i by omega]
      rw [z3]
      exact R
  exact ⟨v 13 0 + 1, L (v 13 0) 0 ra' (by omega) hC1⟩
theorem m_byLaw {v : Rl} (hv : okR v) (hM : RM v 0 ms ma) {l : Nat} (hl : l ≤ v 12 0) {post : Int64 → A1 → A2 → L2 → Prop} (h : ∀ mt mb mk, RM v 0 mt mb → MG ms ma ml mt mb mk → post (fL v l) mt mb mk) : P_X12_byLaw ms ma ml (nI l - 1) post := by
  have h13 := ok13 hv.1
  have h12 := ok12 hv.1
  refine m_laysAside hv.1 hM (fun mb h1 h2 => ?_)
  have L : ∀ (k i : Nat) (mx : A2), i + k = v 13 0 → RM (vl v l i) 0 ms mx → MG ms ma ml ms mx ml → mx 20 = mb 20 → P_X12_byLaw_6 (nI l - 1) post (fun (ms : Nat → Int32) (ma : Nat → Nat → Int32) (ml : Nat → Nat → Int64) => P_X12_byLaw_51 (nI l - 1) post ms ma ml) ms ml (k + 1) (nI i) mx := by
    intro k
    induction k with
    | zero =>
      intro i mx hi q1 q2 q3
      obtain rfl : i = v 13 0 := by omega
      have hg := vl_ok hv hl (v 13 0) (Nat.le_refl _)
      have hS := vl_so v l (v 13 0) (Nat.le_refl _)
      refine ⟨fun _ => m_allNow (w := 2) hg.1 hg.2.1 q1 (by decide) (fun mt2 mc2 mk2 hF => ?_), fun c => absurd ((cmp_le (q1.1.1.2.2.2.2.trans (by rw [hS.n])) (by omega) (by omega)).mpr (Nat.le_refl _)) c⟩
      refine m_takesBack hv.1 hS (hF.rm q1) (fun b hb => by rw [hF.2.1 20 (by decide) (by decide), q3]; exact h2 b hb) (fun md hMd hGd => ?_)
      exact h mt2 md mk2 hMd ((q2.trans hF.g).trans (hGd _ _))
    | succ k ih =>
      intro i mx hi q1 q2 q3
      obtain ⟨-, -, -, b23, b24⟩ := hv.1.2.2.2.2.1 i (by omega)
      obtain ⟨a1, a2⟩ := vl_at v l i i (Nat.le_refl _)
      have hS := vl_so v l i (by omega)
      obtain ⟨-, -, -, e3, e4⟩ := q1.1.2.2.2.1 i (by rw [hS.n]; omega)
      rw [a1] at e3
      rw [a2] at e4
      refine ⟨fun c => absurd ((cmp_le (q1.1.1.2.2.2.2.trans (by rw [hS.n])) (by omega) (by omega)).mp c) (by omega), fun _ => m_at0 ?_⟩
      rw [show nI (5 * (10 * 0 + i)) + 3 = nI (5 * (10 * 0 + i) + 3) from nI_add _ _, nI_clamp (by omega), e3, pre_le (by omega) (by omega), nI_1]
      refine ⟨vp_in_nI (by omega) (by decide), fun c => ?_, fun c => m_at0 ?_⟩
      · refine ih (i + 1) mx (by omega) ?_ q2 q3
        rw [vl, show max (v 23 i) l = v 23 i by omega, show 2 * v 23 i + v 24 i = opt (vl v l i) i by unfold opt; rw [a1, a2], vo_opt (by rw [a2]; exact b24)]
        exact q1
      · rw [show nI (5 * (10 * 0 + i)) + 3 = nI (5 * (10 * 0 + i) + 3) from nI_add _ _, nI_clamp (by omega)]
        refine ⟨vp_in_nI (by omega) (by decide), ?_⟩
        have S := m_hasOption (ma := mx) q1.1 (b := i) (o := 2 * max (v 23 i) l + v 24 i) (by omega) (by omega) (post := fun mb => RelN (vo (vl v l i) i (2 * max (v 23 i) l + v 24 i)) 0 mb) (fun mb g1 _ _ => g1)
        have S2 : RelN (vo (vl v l i) i (2 * max (v 23 i) l + v 24 i)) 0 (va_up mx 11 (upd (upd (mx 11) (((5 : Int32) * ((10 : Int32) * nI 0 + nI i) + 3).toNatClampNeg) ((nI (2 * max (v 23 i) l + v 24 i) / 2) - 1)) (((5 : Int32) * ((10 : Int32) * nI 0 + nI i) + 4).toNatClampNeg) (nI (2 * max (v 23 i) l + v 24 i) - nI (2 * max (v 23 i) l + v 24 i) / 2 * 2))) := S.2.2
        rw [show (5 : Int32) * ((10 : Int32) * nI 0 + nI i) + 3 = nI (5 * (10 * 0 + i) + 3) from ix5 0 i 3, show (5 : Int32) * ((10 : Int32) * nI 0 + nI i) + 4 = nI (5 * (10 * 0 + i) + 4) from ix5 0 i 4, nI_clamp (by omega), nI_clamp (by omega), show (2 : Int32) = nI 2 from rfl, pk_rem (by omega) (by decide) (by decide), pk_div (by omega) (by decide) (by decide), show (2 * max (v 23 i) l + v 24 i) / 2 = l by omega, show (2 * max (v 23 i) l + v 24 i) % 2 = v 24 i by omega, upd_id (k := 5 * (10 * 0 + i) + 4) (by rw [u_ne (by omega)]; exact e4.symm)] at S2
        refine ih (i + 1) _ (by omega) ⟨S2, (q1.2.1.vo i _).eq (up_ne (by decide)) (up_ne (by decide)), ?_⟩ (q2.trans ⟨fun _ _ _ _ => rfl, fun j _ h11 _ _ => up_ne h11, fun x hx => by rw [up_at, u_ne (by omega)], fun x _ => by rw [up_ne (by decide)], rfl⟩) ((up_ne (by decide)).trans q3)
        have := q1.2.2.vo i (2 * max (v 23 i) l + v 24 i)
        unfold LX at this ⊢
        rw [up_ne (by decide), up_ne (by decide)]
        exact this
  exact ⟨v 13 0 + 1, L (v 13 0) 0 mb (by omega) (hM.fr (fun i _ _ => h1 i (by omega)) rfl rfl) (MG.of20 h1) rfl⟩
theorem fL_top {v : Rl} (hv : okR v) {l : Nat} (hl : l ≤ v 12 0) : fL v l < 9223372036854775807 := by
  have := all_rng (vl_ok hv hl (v 13 0) (Nat.le_refl _)).1 2
  exact lt_top (by unfold fL; omega)
theorem q_law (hI : Inv us ua rs ra ra2 sa sl ns na nl yt im ms ma ml) (rs2 : A1) (p : Int32) : P_X11_law rs ra rs2 ra2 ns na nl p (fun r _ ra2' ns' na' nl' => P_X12_law ms ma ml p (fun r' mt mb mk => r = r' ∧ Inv us ua rs ra ra2' sa sl ns' na' nl' yt im mt mb mk)) := by
  obtain ⟨v, hv, hC, hM, hP, hY, hK, hB, F⟩ := hI.get
  have h12 := ok12 hv.1
  have fin := F ra2 ns na nl _ _ _ (MG.refl _ _ _) hM.1 hB hK
  have e8 : ma 8 0 = nI (v 12 0) := hM.1.1.2.2.2.1
  rcases Nat.eq_zero_or_pos (v 2 0) with z | z
  · exact c_told0 hC z (b0f (m_rail0 hM.1 hv.1 z (b0f ⟨rfl, fin⟩)))
  · have A : ∀ l, l ≤ v 12 0 → P_X11_law_30 rs ra (nI l - 1) (fun r _ ra2' ns' na' nl' => P_X12_law ms ma ml (nI l - 1) (fun r' mt mb mk => r = r' ∧ Inv us ua rs ra ra2' sa sl ns' na' nl' yt im mt mb mk)) rs2 ra2 ns na nl := by
      intro l hl
      refine c_costByLaw hv hC hK rs2 ra2 hl (fun rs' ra' ns' na' nl' hB' hK' => m_rail hM.1 hv.1 z (b1f ?_))
      unfold P_X12_in
      rw [e8]
      have n1 : ¬ (nI l - 1).toInt64 < (-1 : Int64) := by
        rw [show (-1 : Int64) = (-1 : Int32).toInt64 from rfl, fa_wide_lt, Int32.lt_iff_toInt_lt, show (1 : Int32) = nI 1 from rfl, nS (by omega) (by decide), show (-(nI 1)).toInt = -1 from rfl]
        omega
      have n2 : ¬ (nI (v 12 0) - 1).toInt64 < (nI l - 1).toInt64 := by
        rw [fa_wide_lt, pre_lt (by omega) (by omega)]
        omega
      refine ⟨fun c => absurd c n1, fun _ => ⟨fun c => absurd c n2, fun _ => b1f (m_byLaw hv hM hl (fun mt mb mk hM' hG => ⟨rfl, F _ _ _ _ _ _ _ hG hM'.1 hB' hK'⟩))⟩⟩
    refine c_told hC hv.1 z (b1f ⟨fun c => ?_, fun c => ?_⟩)
    · have := A 0 (Nat.zero_le _)
      rw [show nI 0 - 1 = (-1 : Int32) from rfl] at this
      rw [c]
      exact this
    · rcases ixs p (n := v 12 0) (by omega) with h | ⟨l, hl, rfl⟩
      · refine c_hasL0 hC h (b0t (m_rail hM.1 hv.1 z (b1f ?_)))
        unfold P_X12_in
        rw [e8]
        refine ⟨fun _ => b0f ⟨rfl, fin⟩, fun c1 => ⟨fun _ => b0f ⟨rfl, fin⟩, fun c2 => ?_⟩⟩
        exfalso
        rw [show (-1 : Int64) = (-1 : Int32).toInt64 from rfl, fa_wide_lt, Int32.lt_iff_toInt_lt, show ((-1 : Int32)).toInt = -1 from rfl] at c1
        rw [fa_wide_lt, Int32.lt_iff_toInt_lt, show (1 : Int32) = nI 1 from rfl, nS (by omega) (by decide)] at c2
        have c3 : p.toInt ≠ -1 := fun q => c (Int32.toInt_inj.mp q)
        rcases h with h | h
        · rw [Int32.lt_iff_toInt_lt, show (0 : Int32).toInt = 0 from rfl] at h
          omega
        · rw [Int32.le_iff_toInt_le, nI_toInt (by omega)] at h
          omega
      · have := A (l + 1) (by omega)
        rw [nI_pre (by omega), show l + 1 - 1 = l by omega] at this
        exact c_hasL hC hv.1 hl (b1t this)
theorem q_laws (hI : Inv us ua rs ra ra2 sa sl ns na nl yt im ms ma ml) (rs2 : A1) : P_X11_laws rs ra rs2 ra2 ns na nl (fun r _ ra2' ns' na' nl' => P_X12_laws ms ma ml (fun r' mt mb mk => r = r' ∧ Inv us ua rs ra ra2' sa sl ns' na' nl' yt im mt mb mk)) := by
  obtain ⟨v, hv, hC, hM, hP, hY, hK, hB, F⟩ := hI.get
  have h12 := ok12 hv.1
  have fin := F ra2 ns na nl _ _ _ (MG.refl _ _ _) hM.1 hB hK
  rcases Nat.eq_zero_or_pos (v 2 0) with z | z
  · exact c_told0 hC z (b0t (m_rail0 hM.1 hv.1 z (b0t ⟨rfl, fin⟩)))
  · have M : ∀ (ra3 : A2) (ns' : A1) (na' : A2) (nl' : L2), BOK ra3 → NOK ns' na' nl' → P_X12_laws ms ma ml (fun r' mt mb mk => nI (am (fL v) (v 12 0)).1 - 1 = r' ∧ Inv us ua rs ra ra3 sa sl ns' na' nl' yt im mt mb mk) := by
      intro ra3 ns' na' nl' hB3 hK3
      have L : ∀ (k i : Nat) (mt : A1) (mb : A2) (mk : L2), i + k = v 12 0 → RM v 0 mt mb → MG (va_up ms 0 0) ma ml mt mb mk → P_X12_laws_26 (fun r' mt mb mk => nI (am (fL v) (v 12 0)).1 - 1 = r' ∧ Inv us ua rs ra ra3 sa sl ns' na' nl' yt im mt mb mk) (k + 1) (nI (am (fL v) i).1 - 1) (am (fL v) i).2 (nI i) mt mb mk := by
        intro k
        induction k with
        | zero =>
          intro i mt mb mk hi r1 r2
          obtain rfl : i = v 12 0 := by omega
          exact ⟨fun _ => ⟨rfl, F _ _ _ _ _ _ _ r2 r1.1 hB3 hK3⟩, fun c => absurd ((cmp_le r1.1.1.2.2.2.1 (by omega) (by omega)).mpr (Nat.le_refl _)) c⟩
        | succ k ih =>
          intro i mt mb mk hi r1 r2
          refine ⟨fun c => absurd ((cmp_le r1.1.1.2.2.2.1 (by omega) (by omega)).mp c) (by omega), fun _ => ?_⟩
          rw [show nI i = nI (i + 1) - 1 by rw [nI_pre (by omega)]; rfl]
          refine m_byLaw hv r1 (by omega) (fun m2 a2 l2 hM' hG => ?_)
          have go := ih (i + 1) m2 a2 l2 (by omega) hM' (r2.trans hG)
          rw [Int32.sub_add_cancel]
          refine ⟨fun c => ?_, fun c => ?_⟩
          · rw [am, if_pos c] at go
            exact go
          · rw [am, if_neg c] at go
            exact go
      refine m_rail hM.1 hv.1 z (b1t ?_)
      have := m_byLaw (ml := ml) hv hM (l := 0) (Nat.zero_le _) (post := fun r12 ms_9 ma_10 ml_11 => ∃ n : Nat, P_X12_laws_26 (fun r' mt mb mk => nI (am (fL v) (v 12 0)).1 - 1 = r' ∧ Inv us ua rs ra ra3 sa sl ns' na' nl' yt im mt mb mk) n (-1) r12 0 ms_9 ma_10 ml_11) (fun m2 a2 l2 hM' hG => ⟨v 12 0 + 1, L (v 12 0) 0 m2 a2 l2 (by omega) hM' hG⟩)
      exact this
    have L : ∀ (k i : Nat) (rx : A1) (ry : A2) (nx : A1) (ax : A2) (lx : L2), i + k = v 12 0 → BOK ry → NOK nx ax lx → P_X11_laws_22 rs ra (fun r _ ra2' ns' na' nl' => P_X12_laws ms ma ml (fun r' mt mb mk => r = r' ∧ Inv us ua rs ra ra2' sa sl ns' na' nl' yt im mt mb mk)) (k + 1) (nI (am (fL v) i).1 - 1) (am (fL v) i).2 (nI i) rx ry nx ax lx := by
      intro k
      induction k with
      | zero =>
        intro i rx ry nx ax lx hi r1 r2
        obtain rfl : i = v 12 0 := by omega
        exact ⟨fun _ => M _ _ _ _ r1 r2, fun c => absurd ((cmp_le (rc_s hC 12) (by omega) (by omega)).mpr (Nat.le_refl _)) c⟩
      | succ k ih =>
        intro i rx ry nx ax lx hi r1 r2
        refine ⟨fun c => absurd ((cmp_le (rc_s hC 12) (by omega) (by omega)).mp c) (by omega), fun _ => ?_⟩
        rw [show nI i = nI (i + 1) - 1 by rw [nI_pre (by omega)]; rfl]
        refine c_costByLaw hv hC r2 rx ry (by omega) (fun rs' ra' ns' na' nl' hB' hK' => ?_)
        have go := ih (i + 1) rs' ra' ns' na' nl' (by omega) hB' hK'
        rw [Int32.sub_add_cancel]
        refine ⟨fun c => ?_, fun c => ?_⟩
        · rw [am, if_neg (Int64.not_lt.mpr c)] at go
          exact go
        · rw [am, if_pos (Int64.not_le.mp c)] at go
          exact go
    refine c_told hC hv.1 z (b1t ⟨v 12 0 + 2, ?_⟩)
    refine ⟨fun c => ?_, fun _ => ?_⟩
    · exfalso
      rw [rc_s hC 12, Int32.le_iff_toInt_le, nI_toInt (by omega), show ((-1 : Int32)).toInt = -1 from rfl] at c
      omega
    · have := c_costByLaw (post := fun (r8 : Int64) (rs_3 : Nat → Int32) (ra_4 : Nat → Nat → Int32) (ns_5 : Nat → Int32) (na_6 : Nat → Nat → Int32) (nl_7 : Nat → Nat → Int64) => (((9223372036854775807 ≤ r8) → P_X11_laws_22 rs ra (fun r _ ra2' ns' na' nl' => P_X12_laws ms ma ml (fun r' mt mb mk => r = r' ∧ Inv us ua rs ra ra2' sa sl ns' na' nl' yt im mt mb mk)) (v 12 0 + 1) (-1) 9223372036854775807 (-1 + 1) rs_3 ra_4 ns_5 na_6 nl_7) ∧ ((¬ 9223372036854775807 ≤ r8) → P_X11_laws_22 rs ra (fun r _ ra2' ns' na' nl' => P_X12_laws ms ma ml (fun r' mt mb mk => r = r' ∧ Inv us ua rs ra ra2' sa sl ns' na' nl' yt im mt mb mk)) (v 12 0 + 1) (-1) r8 (-1 + 1) rs_3 ra_4 ns_5 na_6 nl_7))) hv hC hK rs2 ra2 (l := 0) (Nat.zero_le _) (fun rs' ra' ns' na' nl' hB' hK' => ⟨fun c => absurd (fL_top hv (Nat.zero_le _)) (Int64.not_lt.mpr c), fun _ => L (v 12 0) 0 rs' ra' ns' na' nl' (by omega) hB' hK'⟩)
      exact this
end LW
