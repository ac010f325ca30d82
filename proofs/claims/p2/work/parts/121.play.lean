/-! the class's Night: a night played, and what is asked of it -/
def D1 : Nat → Int64 := fun x => if x = 0 then 1000000000000 else 0
def nD (v : Rl) (s ct : Nat) (D : Nat → Int64) : Nat → Nat → Int64
  | 0 => D
  | t + 1 => stp v s ct t (nD v s ct D t)
def hadN (v : Rl) (t b : Nat) : Int64 := if t < v 14 0 ∧ b < v 13 0 then hst v 0 t (nD v 0 0 D1 t) b else 0
def risk (v : Rl) (b : Nat) : Int64 := sumL (fun t => hadN v t b) 6
def NOK (ns : Nat → Int32) (na : Nat → Nat → Int32) (nl : Nat → Nat → Int64) : Prop := SPx (ns 2) (na 5) (nl 1) (na 6) (na 7) ∧ SPx (ns 3) (na 8) (nl 2) (na 9) (na 10)
def HadR (v : Rl) (nl : Nat → Nat → Int64) : Prop := ∀ t b, t < 6 → b < 10 → nl 0 (t * 10 + b) = hadN v t b
def Played (v : Rl) (ns : Nat → Int32) (na : Nat → Nat → Int32) (nl : Nat → Nat → Int64) : Prop := (∃ E, SP E (nD v 0 0 D1 (v 14 0)) (ns 2) (na 5) (nl 1) (na 6) (na 7)) ∧ NOK ns na nl ∧ NR v 0 ns na ∧ HadR v nl
theorem c_begin {ns : Nat → Int32} {na : Nat → Nat → Int32} {nl : Nat → Nat → Int64} (hK : NOK ns na nl) {post : (Nat → Int32) → (Nat → Nat → Int32) → (Nat → Nat → Int64) → Prop}
    (h : ∀ (ns' : Nat → Int32) (na' : Nat → Nat → Int32) (nl' : Nat → Nat → Int64), SP [0] D1 (ns' 2) (na' 5) (nl' 1) (na' 6) (na' 7) → SPx (ns' 3) (na' 8) (nl' 2) (na' 9) (na' 10) → NF ns na ns' na' → (∀ x, x < 60 → nl' 0 x = 0) → post ns' na' nl') : P_X3_begin ns na nl post := by
  obtain ⟨⟨E, D, hS⟩, hS2⟩ := hK
  have L : ∀ (k i : Nat) (lx : Nat → Nat → Int64), i + k = 60 → (∀ j, j ≠ 0 → lx j = nl j) → (∀ x, x < i → lx 0 x = 0) → P_X3_begin_2 post (fun (ns : Nat → Int32) (na : Nat → Nat → Int32) (nl : Nat → Nat → Int64) => P_X3_begin_24 post ns na nl) ns na (k + 1) (nI i) lx := by
    intro k
    induction k with
    | zero =>
      intro i lx hi g1 g2
      obtain rfl : i = 60 := by omega
      refine ⟨fun _ => ?_, fun c => absurd (by decide) c⟩
      refine c_wipe (E := E) (D := D) (st := na 5) (pa := nl 1) hS (fun tb' hT => ?_)
      rw [g1 1 (by decide)]
      refine c_put (q := 0) hT (by decide) (by simp) (fun sz st pa so tb hP => ?_)
      refine h _ _ _ ?_ ?_ ⟨fun j hj => up_ne (by omega), fun j hj => by rw [up_ne (by omega), up_ne (by omega), up_ne (by omega)]⟩ (fun x hx => by rw [up_ne (by decide)]; exact g2 x hx)
      · simp only [va_up]
        simp only [show ((5 : Nat) = 7) = False by simp, show ((5 : Nat) = 6) = False by simp, show ((6 : Nat) = 7) = False by simp, if_false, if_true]
        have e1 : addE [] 0 1000000000000 = [0] := by unfold addE; rw [if_neg (by simp)]; rfl
        have e2 : addA (fun _ => 0) 0 1000000000000 = D1 := by
          funext x
          rw [addA_eq]
          unfold D1
          simp
        rw [e1, e2] at hP
        exact hP
      · simp only [va_up]
        simp only [show ((8 : Nat) = 7) = False by simp, show ((8 : Nat) = 6) = False by simp, show ((8 : Nat) = 5) = False by simp, show ((9 : Nat) = 7) = False by simp, show ((9 : Nat) = 6) = False by simp, show ((9 : Nat) = 5) = False by simp, show ((10 : Nat) = 7) = False by simp, show ((10 : Nat) = 6) = False by simp, show ((10 : Nat) = 5) = False by simp, show ((3 : Nat) = 2) = False by simp, show ((2 : Nat) = 1) = False by simp, if_false, g1 2 (by decide)]
        exact hS2
    | succ k ih =>
      intro i lx hi g1 g2
      refine ⟨fun c => absurd ((nI_leI (a := 60) (by omega) (by omega)).mp c) (by omega), fun _ => ⟨vp_in_nI (by omega) (by omega), ?_⟩⟩
      rw [nI_1, nI_clamp (by omega)]
      refine ih (i + 1) _ (by omega) (fun j hj => by rw [up_ne hj, g1 j hj]) (fun x hx => ?_)
      rw [up_at]
      by_cases e : x = i
      · rw [e, uL_at]
      · rw [uL_ne e, g2 x (by omega)]
  exact ⟨61, L 60 0 nl (by omega) (fun _ _ => rfl) (fun x hx => by omega)⟩
theorem wgt_0 (v : Rl) : wsm v 0 [0] ≤ 1458 := by
  simp [wsm, wgt, wpr]
theorem c_play {v : Rl} {rs : Nat → Int32} {ra : Nat → Nat → Int32} (hR : RelC v rs ra) (hv : okV v) {ns : Nat → Int32} {na : Nat → Nat → Int32} {nl : Nat → Nat → Int64} (hK : NOK ns na nl) {post : (Nat → Int32) → (Nat → Nat → Int32) → (Nat → Nat → Int64) → Prop}
    (h : ∀ (ns' : Nat → Int32) (na' : Nat → Nat → Int32) (nl' : Nat → Nat → Int64), Played v ns' na' nl' → post ns' na' nl') : P_X3_play ns na nl rs ra post := by
  have h13 := ok13 hv
  have h14 := ok14 hv
  have e14 := rc_s hR 14
  refine c_lookAtBaited (s := 0) hR hv (by omega) (fun nb hN hb => ?_)
  refine c_begin (by
    unfold NOK at hK ⊢
    rw [up_ne (by decide), up_ne (by decide), hb 5 (by omega), hb 6 (by omega), hb 7 (by omega), hb 8 (by omega), hb 9 (by omega), hb 10 (by omega)]
    exact hK) (fun ns1 na1 nl1 g1 g2 g3 g4 => ?_)
  have L : ∀ (k i : Nat) (nx : Nat → Int32) (ax : Nat → Nat → Int32) (lx : Nat → Nat → Int64) (E : List Nat), i + k = v 14 0 → SP E (nD v 0 0 D1 i) (nx 2) (ax 5) (lx 1) (ax 6) (ax 7) → SPx (nx 3) (ax 8) (lx 2) (ax 9) (ax 10) → wsm v i E ≤ 1458 → NR v 0 nx ax → (∀ t b, t < 6 → b < 10 → lx 0 (t * 10 + b) = if t < i then hadN v t b else 0) → P_X3_play_12 rs ra post (k + 1) (nI i) nx ax lx := by
    intro k
    induction k with
    | zero =>
      intro i nx ax lx E hi q1 q2 q3 q4 q5
      obtain rfl : i = v 14 0 := by omega
      refine ⟨fun _ => h nx ax lx ⟨⟨E, q1⟩, ⟨⟨E, _, q1⟩, q2⟩, q4, fun t b ht hb => ?_⟩, fun c => absurd ((cmp_le e14 (by omega) (by omega)).mpr (Nat.le_refl _)) c⟩
      rw [q5 t b ht hb]
      split
      · rfl
      · rename_i c
        unfold hadN
        rw [if_neg (fun z => c z.1)]
    | succ k ih =>
      intro i nx ax lx E hi q1 q2 q3 q4 q5
      have hit : i < v 14 0 := by omega
      refine ⟨fun c => absurd ((cmp_le e14 (by omega) (by omega)).mp c) (by omega), fun _ => ⟨vp_in_nI (by omega) (by omega), ?_⟩⟩
      rw [nI_clamp (by omega), (hR.2.2.2.2.2.1 i hit).2.1]
      refine c_letCome (ct := 0) hv hit q4 (fun z => absurd z (Nat.lt_irrefl 0)) q1 q2 q3 (fun ny ay ly E1 r1 r2 r3 r4 r5 => ?_)
      rw [nI_1]
      refine ih (i + 1) ny ay ly E1 (by omega) r1 r2 r3 (q4.frame r4) (fun t b ht hb => ?_)
      by_cases e : t = i
      · subst e
        by_cases hbb : b < v 13 0
        · rw [r5.1 b hbb, q5 t b ht hb, if_neg (Nat.lt_irrefl t), if_pos (Nat.lt_succ_self t)]
          unfold hadN
          rw [if_pos ⟨hit, hbb⟩]
          simp
        · rw [r5.2 _ (by omega), q5 t b ht hb, if_neg (Nat.lt_irrefl t), if_pos (Nat.lt_succ_self t)]
          unfold hadN
          rw [if_neg (fun z => hbb z.2)]
      · rw [r5.2 _ (by omega), q5 t b ht hb]
        by_cases c : t < i
        · rw [if_pos c, if_pos (by omega)]
        · rw [if_neg c, if_neg (by omega)]
  exact ⟨v 14 0 + 1, L (v 14 0) 0 ns1 na1 nl1 [0] (by omega) g1 g2 (wgt_0 v) (hN.frame g3) (fun t b ht hb => by rw [g4 _ (by omega)]; simp)⟩
theorem c_partsOf {ns : Nat → Int32} {na : Nat → Nat → Int32} {nl : Nat → Nat → Int64} {E : List Nat} {D : Nat → Int64} (hS : SP E D (ns 2) (na 5) (nl 1) (na 6) (na 7)) {x : Nat} (hx : x < 131072) {post : Int64 → Prop} (h : post (D x)) : P_X3_partsOf ns na nl (nI x) post := by
  obtain ⟨s1, s2, s3, s4, s5, -⟩ := hS
  have L : ∀ (k i : Nat), i + k = E.length → P_X3_partsOf_5 ns na nl (nI x) post (k + 1) (sumE (E.take i) (fun q => if x = q then D q else 0)) (nI i) := by
    intro k
    induction k with
    | zero =>
      intro i hi
      obtain rfl : i = E.length := by omega
      rw [List.take_length, sumE_one s3]
      refine ⟨fun _ => ?_, fun c => absurd ((cmp_le s1 (by omega) (by omega)).mpr (Nat.le_refl _)) c⟩
      split
      · exact h
      · rename_i c
        rw [s4 x c] at h
        exact h
    | succ k ih =>
      intro i hi
      have hil : i < E.length := by omega
      obtain ⟨a1, a2, a3⟩ := s5 i hil
      refine ⟨fun c => absurd ((cmp_le s1 (by omega) (by omega)).mp c) (by omega), fun _ => ⟨vp_in_nI (by omega) (by omega), ?_⟩⟩
      rw [nI_clamp (by omega), a1, nI_eq (by omega) (by omega), a3, nI_1]
      have := ih (i + 1) (by omega)
      rw [sumE_take hil] at this
      refine ⟨fun c => ?_, fun c => ⟨vp_in_nI (by omega) (by omega), fun y hy => ?_⟩⟩
      · rw [if_neg (fun e => c e.symm)] at this
        simpa using this
      · rw [if_pos c.symm] at this
        rw [hy]
        exact this
  exact ⟨E.length + 1, L E.length 0 (by omega)⟩
theorem c_hadBy {v : Rl} {nl : Nat → Nat → Int64} (hH : HadR v nl) {t b : Nat} (ht : t < 6) (hb : b < 10) {post : Int64 → Prop} (h : post (hadN v t b)) : P_X3_hadBy nl (nI t) (nI b) post := by
  unfold P_X3_hadBy
  rw [show (nI t * 10) + nI b = nI (t * 10 + b) by rw [show (10 : Int32) = nI 10 from rfl, pk_mul, nI_add], nI_clamp (by omega), hH t b ht hb]
  exact ⟨vp_in_nI (by omega) (by omega), h⟩
theorem c_riskOf {v : Rl} {nl : Nat → Nat → Int64} (hH : HadR v nl) {b : Nat} (hb : b < 10) {post : Int64 → Prop} (h : post (risk v b)) : P_X3_riskOf nl (nI b) post := by
  have L : ∀ (k i : Nat), i + k = 6 → P_X3_riskOf_5 nl (nI b) post (k + 1) (sumL (fun t => hadN v t b) i) (nI i) := by
    intro k
    induction k with
    | zero =>
      intro i hi
      obtain rfl : i = 6 := by omega
      exact ⟨fun _ => h, fun c => absurd (by decide) c⟩
    | succ k ih =>
      intro i hi
      refine ⟨fun c => absurd ((nI_leI (a := 6) (by omega) (by omega)).mp c) (by omega), fun _ => ?_⟩
      refine c_hadBy hH (by omega) hb (fun x hx => ?_)
      rw [hx, nI_1]
      exact ih (i + 1) (by omega)
  exact ⟨7, L 6 0 (by omega)⟩
/-! PAID, LOSS, COST -/
def paidZ (v : Rl) (b : Nat) : Nat := 1000 * ((if v 23 b = 0 then 0 else v 18 (v 23 b - 1)) + if v 24 b = 1 then v 4 0 else 0)
def lossL (v : Rl) (b : Nat) : Int64 := lN (v 1 0 * v 20 b) * risk v b / 1000000000
def wagesZ (v : Rl) : Nat := 1000 * v 8 0 * v 1 0
def wshZ (v : Rl) : Nat := if v 10 0 = 1 ∧ 0 < v 13 0 then wagesZ v / v 13 0 else 0
def costL (v : Rl) (b : Nat) : Int64 := lN (paidZ v b) + lossL v b + lN (wshZ v)
def whatL (v : Rl) (b w : Nat) : Int64 := if w = 0 then lN (paidZ v b) else if w = 1 then lossL v b else costL v b
def allL (v : Rl) (w : Nat) : Int64 := sumL (fun b => whatL v b w) (v 13 0)
theorem c_paidFor {v : Rl} {rs : Nat → Int32} {ra : Nat → Nat → Int32} (hR : RelC v rs ra) (hv : okV v) {b : Nat} (hb : b < v 13 0) {post : Int64 → Prop} (h : post (lN (paidZ v b))) : P_X4_paidFor rs ra (nI b) post := by
  have h13 := ok13 hv
  have h12 := ok12 hv
  have h4 := ok4 hv
  obtain ⟨-, -, -, e7, e8⟩ := hR.2.2.2.2.1 b hb
  obtain ⟨-, -, -, b23, b24⟩ := hv.2.2.2.2.1 b hb
  have fin : ∀ pr : Nat, pr ≤ 999 → pr = (if v 23 b = 0 then 0 else v 18 (v 23 b - 1)) → P_X4_paidFor_28 rs ra (nI b) post (nI pr) := by
    intro pr hpr he
    refine ⟨vp_in_nI (by omega) (by omega), ?_⟩
    rw [nI_clamp (by omega), e8, rc_s hR 4]
    unfold paidZ at h
    rw [← he] at h
    refine ⟨fun c => ?_, fun c => ?_⟩
    · have z : v 24 b = 0 := (nI_eq (b := 0) (by omega) (by decide)).mp c
      rw [if_neg (by omega)] at h
      rw [show nI pr + 0 = nI (pr + 0) from nI_add pr 0, nI_l (by omega), show (1000 : Int64) = lN 1000 from rfl, lN_mul]
      exact h
    · have z : v 24 b = 1 := by
        have : v 24 b ≠ 0 := fun q => c (by rw [q]; rfl)
        omega
      rw [if_pos z] at h
      rw [nI_add, nI_l (by omega), show (1000 : Int64) = lN 1000 from rfl, lN_mul]
      exact h
  refine ⟨vp_in_nI (by omega) (by omega), ?_⟩
  intro x hx
  rw [nI_clamp (by omega), e7] at hx
  subst hx
  refine ⟨fun c => ?_, fun c => ?_⟩
  · have hp : 0 < v 23 b := Nat.pos_of_ne_zero fun q => c ((nI_m1 (by omega)).mpr q)
    rw [nI_pre hp, nI_clamp (by omega), hR.2.2.1 _ (by omega)]
    exact ⟨vp_in_nI (by omega) (by omega), fin _ (hv.2.2.1 _ (by omega)) (by rw [if_neg (by omega)])⟩
  · have hz : v 23 b = 0 := (nI_m1 (by omega)).mp c
    exact fin 0 (by omega) (by rw [if_pos hz])
theorem wages_le {v : Rl} (hv : okV v) : wagesZ v ≤ 59940000 := by
  have a : 1000 * v 8 0 ≤ 1000 * 999 := Nat.mul_le_mul_left _ (ok8 hv)
  have b : 1000 * v 8 0 * v 1 0 ≤ 1000 * 999 * 60 := Nat.mul_le_mul a (ok1 hv)
  unfold wagesZ
  omega
theorem c_wages {v : Rl} {rs : Nat → Int32} {ra : Nat → Nat → Int32} (hR : RelC v rs ra) (hv : okV v) {post : Int64 → Prop} (h : post (lN (wagesZ v))) : P_X4_wages rs post := by
  have h8 := ok8 hv
  have h1 := ok1 hv
  unfold P_X4_wages
  rw [rc_s hR 8, rc_s hR 1, nI_l (by omega), nI_l (by omega), show (1000 : Int64) = lN 1000 from rfl, lN_mul, lN_mul]
  exact h
theorem c_wageShare {v : Rl} {rs : Nat → Int32} {ra : Nat → Nat → Int32} (hR : RelC v rs ra) (hv : okV v) {post : Int64 → Prop} (h : post (lN (wshZ v))) : P_X4_wageShare rs post := by
  have h10 := ok10 hv
  have h13 := ok13 hv
  have hw := wages_le hv
  unfold wshZ at h
  refine ⟨fun c => ?_, fun c => ⟨fun c2 => ?_, fun c2 => ?_⟩⟩
  · have z : v 10 0 = 0 := (cmp_eq (i := 0) (rc_s hR 10) (by omega) (by decide)).mp c
    rw [if_neg (by omega)] at h
    exact h
  · have z : v 13 0 ≤ 0 := (cmp_le (i := 0) (rc_s hR 13) (by omega) (by decide)).mp c2
    rw [if_neg (by omega)] at h
    exact h
  · have z : 0 < v 13 0 := Nat.pos_of_ne_zero fun q => c2 (by rw [rc_s hR 13, q]; decide)
    have z1 : v 10 0 = 1 := by
      have : v 10 0 ≠ 0 := fun q => c (by rw [rc_s hR 10, q]; rfl)
      omega
    rw [if_pos ⟨z1, z⟩] at h
    refine c_wages hR hv ?_
    rw [rc_s hR 13, nI_l (by omega), show (0 : Int64) = lN 0 from rfl, lN_eq (by omega) (by decide), pk_lDiv (by omega) z (by omega)]
    exact ⟨by omega, h⟩
theorem c_costOf {v : Rl} {rs : Nat → Int32} {ra : Nat → Nat → Int32} (hR : RelC v rs ra) (hv : okV v) {nl : Nat → Nat → Int64} (hH : HadR v nl) {b w : Nat} (hb : b < v 13 0) (hw : w < 3) {post : Int64 → Prop} (h : post (whatL v b w)) : P_X3_costOf nl rs ra (nI b) (nI w) post := by
  have h13 := ok13 hv
  have h1 := ok1 hv
  obtain ⟨e4, -⟩ := hR.2.2.2.2.1 b hb
  obtain ⟨b20, -⟩ := hv.2.2.2.2.1 b hb
  refine c_paidFor hR hv hb ⟨vp_in_nI (by omega) (by omega), ?_⟩
  refine c_riskOf hH (by omega) (fun x hx => ?_)
  rw [nI_clamp (by omega), e4, rc_s hR 1, nI_l (by omega), nI_l (by omega), lN_mul] at hx
  have hx' : x = lossL v b := hx
  subst hx'
  unfold whatL at h
  refine ⟨fun c => ?_, fun c => ?_, fun c c2 => ?_⟩
  · have z : w = 0 := (nI_eq (b := 0) (by omega) (by decide)).mp c
    rw [if_pos z] at h
    exact h
  · have z : w = 1 := (nI_eq (b := 1) (by omega) (by decide)).mp c
    rw [if_neg (by omega), if_pos z] at h
    exact h
  · rw [if_neg (fun q => c (by rw [q]; rfl)), if_neg (fun q => c2 (by rw [q]; rfl))] at h
    refine c_wageShare hR hv ?_
    exact h
theorem c_costOfAll {v : Rl} {rs : Nat → Int32} {ra : Nat → Nat → Int32} (hR : RelC v rs ra) (hv : okV v) {nl : Nat → Nat → Int64} (hH : HadR v nl) {w : Nat} (hw : w < 3) {post : Int64 → Prop} (h : post (allL v w)) : P_X3_costOfAll nl rs ra (nI w) post := by
  have h13 := ok13 hv
  have e13 := rc_s hR 13
  have L : ∀ (k i : Nat), i + k = v 13 0 → P_X3_costOfAll_5 nl rs ra (nI w) post (k + 1) (sumL (fun b => whatL v b w) i) (nI i) := by
    intro k
    induction k with
    | zero =>
      intro i hi
      obtain rfl : i = v 13 0 := by omega
      exact ⟨fun _ => h, fun c => absurd ((cmp_le e13 (by omega) (by omega)).mpr (Nat.le_refl _)) c⟩
    | succ k ih =>
      intro i hi
      refine ⟨fun c => absurd ((cmp_le e13 (by omega) (by omega)).mp c) (by omega), fun _ => ?_⟩
      refine c_costOf hR hv hH (by omega) hw (fun x hx => ?_)
      rw [hx, nI_1]
      exact ih (i + 1) (by omega)
  exact ⟨v 13 0 + 1, L (v 13 0) 0 (by omega)⟩
