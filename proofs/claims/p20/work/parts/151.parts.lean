section
/-! promises 42, 43: the class with a bait -/
theorem sumL_split (f : Nat → Int64) (n : Nat) : ∀ m : Nat, sumL f (n + m) = sumL f n + sumL (fun k => f (n + k)) m
  | 0 => by simp [sumL]
  | m + 1 => by rw [show n + (m + 1) = (n + m) + 1 by omega, sumL, sumL, sumL_split f n m, Int64.add_assoc]
theorem sumL_2d (f : Nat → Int64) (a : Nat) : ∀ b : Nat, sumL f (a * b) = sumL (fun c => sumL (fun g => f (g + a * c)) a) b
  | 0 => rfl
  | b + 1 => by
    rw [Nat.mul_succ, sumL_split, sumL, sumL_2d f a b]
    congr 1
    exact sumL_cong (fun g _ => by rw [Nat.add_comm])
theorem sumL_17 (f : Nat → Int64) : sumL f N17 = sumL (fun c => sumL (fun g => f (g + 2048 * c)) 2048) 64 := sumL_2d f 2048 64
theorem sumL_17' (f : Nat → Int64) : sumL f N17 = sumL (fun g => sumL (fun c => f (g + 2048 * c)) 64) 2048 := by rw [sumL_17, sumL_swap (fun g c => f (g + 2048 * c))]
/-- a night's end: all are there again -/
def brg (D : Nat → Int64) : Nat → Int64 := fun x => sumL (fun q => if x = 2048 * (q / 2048) then D q else 0) N17
theorem brg_at (D : Nat → Int64) {c : Nat} (hc : c < 64) : brg D (2048 * c) = sumL (fun g => D (g + 2048 * c)) 2048 := by
  unfold brg
  rw [sumL_17, sumL_one (i := c) hc (fun k _ hne => ?_)]
  · exact sumL_cong (fun g hg => by rw [if_pos (by omega)])
  · exact sumL_zero (fun g hg => by rw [if_neg (by omega)])
theorem brg_out (D : Nat → Int64) {x : Nat} (hx : x % 2048 ≠ 0) : brg D x = 0 := sumL_zero (fun q _ => by rw [if_neg (by omega)])
def Dn (v : Rl) (s ct : Nat) : Nat → Nat → Int64
  | 0 => D1
  | k + 1 => brg (nD v s ct (Dn v s ct k) (v 14 0))
theorem Dn_bit (v : Rl) (s ct : Nat) {b : Nat} (hb : b < 11) (k : Nat) : sumL (fun x => bitW b x * Dn v s ct k x) N17 = 0 := by
  refine sumL_zero (fun x _ => ?_)
  cases k with
  | zero =>
    unfold Dn D1 bitW
    by_cases e : x = 0
    · subst e; simp
    · simp [e]
  | succ k =>
    by_cases e : x % 2048 = 0
    · have : bitW b x = 0 := by
        unfold bitW
        rw [← tb_mod hb, e]
        simp
      rw [this, Int64.zero_mul]
    · rw [Dn, brg_out _ e, Int64.mul_zero]
/-- what each thief has of each bike in all nights -/
def hadB (v : Rl) (s ct k t b : Nat) : Int64 := if t < v 14 0 ∧ b < v 13 0 then sumL (fun i => hst v s t (nD v s ct (Dn v s ct i) t) b) k else 0
def sumEN (f : Nat → Nat) : List Nat → Nat
  | [] => 0
  | q :: E => f q + sumEN f E
theorem sumN_offN {f : Nat → Nat} {i : Nat} : ∀ {n : Nat}, i < n → sumN f n = f i + sumN (fun k => if k = i then 0 else f k) n
  | 0, h => by omega
  | n + 1, h => by
    rw [sumN, sumN]
    by_cases e : i = n
    · rw [if_pos e.symm, sumN_cong (f := fun k => if k = i then 0 else f k) (g := f) (fun k hk => by rw [if_neg (by omega)]), e]
      omega
    · have := sumN_offN (f := f) (i := i) (n := n) (by omega)
      rw [if_neg (fun q => e q.symm)]
      omega
theorem sumEN_cong {f g : Nat → Nat} : ∀ {E : List Nat}, (∀ q, q ∈ E → f q = g q) → sumEN f E = sumEN g E
  | [], _ => rfl
  | a :: E, h => by rw [sumEN, sumEN, sumEN_cong (E := E) (fun q hq => h q (List.mem_cons_of_mem _ hq)), h a List.mem_cons_self]
theorem sumEN_le {n : Nat} : ∀ {E : List Nat} {f : Nat → Nat}, E.Nodup → (∀ q, q ∈ E → q % 2048 = 0 ∧ q / 2048 < n) → sumEN (fun q => f (q / 2048)) E ≤ sumN f n
  | [], f, _, _ => Nat.zero_le _
  | a :: E, f, hn, h => by
    rw [List.nodup_cons] at hn
    have ha := h a List.mem_cons_self
    have ih := sumEN_le (n := n) (E := E) (f := fun k => if k = a / 2048 then 0 else f k) hn.2 (fun q hq => h q (List.mem_cons_of_mem _ hq))
    have e : sumEN (fun q => if q / 2048 = a / 2048 then 0 else f (q / 2048)) E = sumEN (fun q => f (q / 2048)) E := sumEN_cong (fun q hq => by
      rw [if_neg]
      intro e
      have hq2 := h q (List.mem_cons_of_mem _ hq)
      have : q = a := by omega
      exact hn.1 (this ▸ hq))
    rw [e] at ih
    rw [sumEN, sumN_offN ha.2]
    omega
theorem sumEN_len (E : List Nat) : sumEN (fun _ => 1) E = E.length := by
  induction E with
  | nil => rfl
  | cons a E ih => rw [sumEN, ih, List.length_cons]; omega
theorem wsm_EN (v : Rl) (t : Nat) (E : List Nat) : wsm v t E = sumEN (wgt v t) E := by
  induction E with
  | nil => rfl
  | cons a E ih => rw [wsm, sumEN, ih]
theorem wpr_dec : sumN (fun c => 2 * wpr (2048 * c) 6) 64 = 1458 := by decide +kernel
theorem one_dec : sumN (fun _ => 1) 64 = 64 := by decide
theorem wgt_c {v : Rl} (h13 : v 13 0 ≤ 10) {q : Nat} (hq : q % 2048 = 0) : wgt v 0 q = 2 * wpr (2048 * (q / 2048)) 6 := by
  have e : q.testBit (v 13 0) = false := by
    rw [← tb_mod (by omega), hq]
    simp
  unfold wgt
  rw [e, show 2048 * (q / 2048) = q by omega]
  rfl
theorem mults {v : Rl} (h13 : v 13 0 ≤ 10) {E : List Nat} (hn : E.Nodup) (h : ∀ q, q ∈ E → q % 2048 = 0 ∧ q < 131072) : wsm v 0 E ≤ 1458 ∧ E.length ≤ 64 := by
  have h2 : ∀ q, q ∈ E → q % 2048 = 0 ∧ q / 2048 < 64 := fun q hq => by
    have := h q hq
    omega
  constructor
  · rw [wsm_EN, sumEN_cong (g := fun q => (fun c => 2 * wpr (2048 * c) 6) (q / 2048)) (fun q hq => wgt_c h13 (h q hq).1), ← wpr_dec]
    exact sumEN_le (f := fun c => 2 * wpr (2048 * c) 6) hn h2
  · rw [← sumEN_len, ← one_dec]
    exact sumEN_le (f := fun _ => 1) hn h2
theorem mask_dec : ∀ i, i < 32 → (-2048 : Int32).toBitVec.getLsbD i = decide (11 ≤ i) := by decide
theorem andm {q : Nat} (hq : q < 131072) : nI q &&& (-2048) = nI (2048 * (q / 2048)) := by
  apply Int32.toBitVec_inj.1
  apply BitVec.eq_of_getLsbD_eq
  intro i hi
  rw [Int32.toBitVec_and, BitVec.getLsbD_and, mask_dec i hi]
  show ((BitVec.ofNat 32 q).getLsbD i && decide (11 ≤ i)) = (BitVec.ofNat 32 (2048 * (q / 2048))).getLsbD i
  rw [BitVec.getLsbD_ofNat, BitVec.getLsbD_ofNat, show 2048 * (q / 2048) = 2 ^ 11 * (q / 2 ^ 11) from rfl, Nat.testBit_two_pow_mul, Nat.testBit_div_two_pow]
  by_cases c : 11 ≤ i
  · simp [c, hi]
  · simp [c]
theorem c_bringBack {v : Rl} (h13 : v 13 0 ≤ 10) {ns : A1} {na : A2} {nl : L2} {E : List Nat} {D : Nat → Int64} (hS : SP E D (ns 2) (na 5) (nl 1) (na 6) (na 7)) (hS2 : SPx (ns 3) (na 8) (nl 2) (na 9) (na 10)) {post : A1 → A2 → L2 → Prop}
    (h : ∀ (ns' : A1) (na' : A2) (nl' : L2) (E1 : List Nat), SP E1 (brg D) (ns' 2) (na' 5) (nl' 1) (na' 6) (na' 7) → SPx (ns' 3) (na' 8) (nl' 2) (na' 9) (na' 10) → wsm v 0 E1 ≤ 1458 → NF ns na ns' na' → nl' 0 = nl 0 → post ns' na' nl') : P_X3_bringBack ns na nl post := by
  obtain ⟨E2, D2, hS2⟩ := hS2
  have hSk := hS
  obtain ⟨s1, s2, s3, s4, s5, -⟩ := hS
  refine c_wipe hS2 (fun tb' hT => ?_)
  have L : ∀ (k i : Nat) (nx : A1) (ax : A2) (lx : L2) (E1 : List Nat), i + k = E.length → SP E1 (fun x => sumE (E.take i) (fun q => if x = 2048 * (q / 2048) then D q else 0)) (nx 3) (ax 8) (lx 2) (ax 9) (ax 10) → (∀ q, q ∈ E1 → q % 2048 = 0) → (∀ j, j ≠ 3 → nx j = ns j) → (∀ j, j < 8 → ax j = na j) → (∀ j, j ≠ 2 → lx j = nl j) → P_X3_bringBack_9 post (fun ns na nl => P_X3_bringBack_55 post ns na nl) (k + 1) (nI i) nx ax lx := by
    intro k
    induction k with
    | zero =>
      intro i nx ax lx E1 hi g1 g2 g3 g4 g5
      obtain rfl : i = E.length := by omega
      rw [List.take_length] at g1
      have e : (fun x => sumE E (fun q => if x = 2048 * (q / 2048) then D q else 0)) = brg D := by
        funext x
        unfold brg
        exact sumE_range (n := N17) s3 (fun q hq => by
          obtain ⟨i, hi, e⟩ := mem_getD hq
          rw [← e]
          exact (s5 i hi).2.1) (fun q _ hq => by rw [s4 q hq]; simp)
      rw [e] at g1
      have hm := mults h13 g1.2.2.1 (fun q hq => ⟨g2 q hq, by
        obtain ⟨i, hi, e⟩ := mem_getD hq
        rw [← e]
        exact (g1.2.2.2.2.1 i hi).2.1⟩)
      refine ⟨fun _ => ?_, fun c => absurd ((cmp_le ((g3 2 (by decide)).trans s1) (by omega) (by omega)).mpr (Nat.le_refl _)) c⟩
      refine h _ _ _ E1 ?_ ⟨E, D, ?_⟩ hm.1 ⟨fun j hj => ?_, fun j hj => ?_⟩ ?_
      · simp only [va_up]
        exact g1
      · simp only [va_up]
        simp only [g3 2 (by decide), g4 5 (by decide), g4 6 (by decide), g4 7 (by decide), g5 1 (by decide)]
        exact hSk
      · rw [up_ne (by omega), up_ne (by omega), g3 j (by omega)]
      · rw [up_ne (by omega), up_ne (by omega), up_ne (by omega), up_ne (by omega), up_ne (by omega), up_ne (by omega), g4 j (by omega)]
      · rw [up_ne (by decide), up_ne (by decide), g5 0 (by decide)]
    | succ k ih =>
      intro i nx ax lx E1 hi g1 g2 g3 g4 g5
      have hil : i < E.length := by omega
      obtain ⟨a1, a2, a3⟩ := s5 i hil
      have hm := mults h13 g1.2.2.1 (fun q hq => ⟨g2 q hq, by
        obtain ⟨i, hi, e⟩ := mem_getD hq
        rw [← e]
        exact (g1.2.2.2.2.1 i hi).2.1⟩)
      refine ⟨fun c => absurd ((cmp_le ((g3 2 (by decide)).trans s1) (by omega) (by omega)).mp c) (by omega), fun _ => ⟨vp_in_nI (by omega) (by omega), vp_in_nI (by omega) (by omega), ?_⟩⟩
      rw [nI_clamp (by omega), g4 5 (by decide), a1, g5 1 (by decide), a3, andm a2, nI_1]
      refine c_put g1 (by omega) (by omega) (fun sz st pa so tb hP2 => ?_)
      refine ih (i + 1) _ _ _ (addE E1 (2048 * (E.getD i 0 / 2048)) (D (E.getD i 0))) (by omega) ?_ (fun q hq => ?_) (fun j hj => by rw [up_ne hj]; exact g3 j hj) (fun j hj => by rw [up_ne (by omega), up_ne (by omega), up_ne (by omega)]; exact g4 j hj) (fun j hj => by rw [up_ne hj]; exact g5 j hj)
      · rw [up_at, up_at, up_at, up_ne (by decide), up_ne (by decide), up_at, up_ne (by decide), up_at]
        have : (fun x => sumE (E.take (i + 1)) (fun q => if x = 2048 * (q / 2048) then D q else 0)) = addA (fun x => sumE (E.take i) (fun q => if x = 2048 * (q / 2048) then D q else 0)) (2048 * (E.getD i 0 / 2048)) (D (E.getD i 0)) := by
          funext x
          rw [addA_eq, sumE_take hil]
        rw [this]
        exact hP2
      · unfold addE at hq
        split at hq
        · exact g2 q hq
        · rcases List.mem_append.mp hq with z | z
          · exact g2 q z
          · simp at z
            omega
  refine ⟨E.length + 1, L E.length 0 _ _ _ [] (by omega) ?_ (fun q hq => by simp at hq) (fun j hj => up_ne hj) (fun j hj => up_ne (by omega)) (fun _ _ => rfl)⟩
  rw [up_at, up_at, up_ne (by decide), up_ne (by decide)]
  exact hT
def Baited (v : Rl) (s ct k : Nat) (ns : A1) (na : A2) (nl : L2) : Prop := (∃ E, SP E (Dn v s ct k) (ns 2) (na 5) (nl 1) (na 6) (na 7) ∧ wsm v 0 E ≤ 1458) ∧ NOK ns na nl ∧ NR v s ns na ∧ ns 1 = nI ct ∧ ∀ t b, t < 6 → b < 10 → nl 0 (t * 10 + b) = hadB v s ct k t b
theorem c_playBaited {v : Rl} {rs : A1} {ra : A2} (hR : RelC v rs ra) (hv : okV v) {ns : A1} {na : A2} {nl : L2} (hK : NOK ns na nl) {s ct : Nat} (hs : s ≤ 9999) (hct : ct ≤ 100) {post : A1 → A2 → L2 → Prop}
    (h : ∀ (ns' : A1) (na' : A2) (nl' : L2), Baited v s ct (v 1 0) ns' na' nl' → post ns' na' nl') : P_X3_playBaited ns na nl rs ra (nI s) (nI ct) post := by
  have h13 := ok13 hv
  have h14 := ok14 hv
  have h1 := ok1 hv
  have e14 := rc_s hR 14
  have e1 := rc_s hR 1
  refine c_lookAtBaited hR hv hs (fun nb hN hb => ?_)
  refine c_begin (by
    unfold NOK at hK ⊢
    rw [up_ne (by decide), up_ne (by decide), up_ne (by decide), up_ne (by decide), hb 5 (by omega), hb 6 (by omega), hb 7 (by omega), hb 8 (by omega), hb 9 (by omega), hb 10 (by omega)]
    exact hK) (fun ns1 na1 nl1 g1 g2 g3 g4 => ?_)
  have hN1 : NR v s ns1 na1 := by
    have : NR v s (va_up (va_up ns 0 (nI (v 13 0))) 1 (nI ct)) nb := ⟨by rw [up_ne (by decide)]; exact hN.1, hN.2⟩
    exact this.frame g3
  have hct1 : ns1 1 = nI ct := by rw [g3.1 1 (by decide), up_at]
  -- a night
  have T : ∀ (n : Nat) (K64 : Int32 → A1 → A2 → L2 → Prop) (x4 : Int32) (nx : A1) (ax : A2) (lx : L2), Baited v s ct n nx ax lx → (∀ ny ay ly E, SP E (nD v s ct (Dn v s ct n) (v 14 0)) (ny 2) (ay 5) (ly 1) (ay 6) (ay 7) → SPx (ny 3) (ay 8) (ly 2) (ay 9) (ay 10) → NR v s ny ay → ny 1 = nI ct → (∀ t b, t < 6 → b < 10 → ly 0 (t * 10 + b) = hadB v s ct (n + 1) t b) → K64 x4 ny ay ly) → ∃ m, P_X3_playBaited_30 rs ra (nI s) (nI ct) post K64 x4 m 0 nx ax lx := by
    intro n K64 x4 nx ax lx ⟨⟨E0, hE0, hw0⟩, hK0, hN0, hc0, hh0⟩ kk
    have L : ∀ (k i : Nat) (ny : A1) (ay : A2) (ly : L2) (E : List Nat), i + k = v 14 0 → SP E (nD v s ct (Dn v s ct n) i) (ny 2) (ay 5) (ly 1) (ay 6) (ay 7) → SPx (ny 3) (ay 8) (ly 2) (ay 9) (ay 10) → wsm v i E ≤ 1458 → NR v s ny ay → ny 1 = nI ct → (∀ t b, t < 6 → b < 10 → ly 0 (t * 10 + b) = if t < i then hadB v s ct (n + 1) t b else hadB v s ct n t b) → P_X3_playBaited_30 rs ra (nI s) (nI ct) post K64 x4 (k + 1) (nI i) ny ay ly := by
      intro k
      induction k with
      | zero =>
        intro i ny ay ly E hi q1 q2 q3 q4 q5 q6
        obtain rfl : i = v 14 0 := by omega
        refine ⟨fun _ => kk ny ay ly E q1 q2 q4 q5 (fun t b ht hb => ?_), fun c => absurd ((cmp_le e14 (by omega) (by omega)).mpr (Nat.le_refl _)) c⟩
        rw [q6 t b ht hb]
        split
        · rfl
        · unfold hadB
          rw [if_neg (by omega), if_neg (by omega)]
      | succ k ih =>
        intro i ny ay ly E hi q1 q2 q3 q4 q5 q6
        have hit : i < v 14 0 := by omega
        refine ⟨fun c => absurd ((cmp_le e14 (by omega) (by omega)).mp c) (by omega), fun _ => ⟨vp_in_nI (by omega) (by omega), ?_⟩⟩
        rw [nI_clamp (by omega), (hR.2.2.2.2.2.1 i hit).2.1]
        refine c_letCome (ct := ct) hv hit q4 (fun _ => ⟨q5, hct⟩) q1 q2 q3 (fun nz az lz E1 r1 r2 r3 r4 r5 => ?_)
        rw [nI_1]
        refine ih (i + 1) nz az lz E1 (by omega) r1 r2 r3 (q4.frame r4) ((r4.1 1 (by decide)).trans q5) (fun t b ht hb => ?_)
        by_cases e : t = i
        · subst e
          rw [if_pos (by omega)]
          by_cases hbb : b < v 13 0
          · rw [r5.1 b hbb, q6 t b ht hb, if_neg (Nat.lt_irrefl t)]
            unfold hadB
            rw [if_pos ⟨hit, hbb⟩, if_pos ⟨hit, hbb⟩, sumL]
          · rw [r5.2 _ (by omega), q6 t b ht hb, if_neg (Nat.lt_irrefl t)]
            unfold hadB
            rw [if_neg (by omega), if_neg (by omega)]
        · rw [r5.2 _ (by omega), q6 t b ht hb]
          by_cases c : t < i
          · rw [if_pos c, if_pos (by omega)]
          · rw [if_neg c, if_neg (by omega)]
    exact ⟨v 14 0 + 1, L (v 14 0) 0 nx ax lx E0 (by omega) hE0 hK0.2 hw0 hN0 hc0 (fun t b ht hb => by rw [if_neg (by omega)]; exact hh0 t b ht hb)⟩
  have L : ∀ (k i : Nat) (nx : A1) (ax : A2) (lx : L2), i + k = v 1 0 → Baited v s ct i nx ax lx → P_X3_playBaited_18 rs ra (nI s) (nI ct) post (k + 1) (nI i) nx ax lx := by
    intro k
    induction k with
    | zero =>
      intro i nx ax lx hi q
      obtain rfl : i = v 1 0 := by omega
      exact ⟨fun _ => h nx ax lx q, fun c => absurd ((cmp_le e1 (by omega) (by omega)).mpr (Nat.le_refl _)) c⟩
    | succ k ih =>
      intro i nx ax lx hi q
      refine ⟨fun c => absurd ((cmp_le e1 (by omega) (by omega)).mp c) (by omega), fun _ => ?_⟩
      refine T i _ (nI i) nx ax lx q (fun ny ay ly E r1 r2 r3 r4 r5 => ?_)
      refine c_bringBack h13 r1 r2 (fun nz az lz E1 t1 t2 t3 t4 t5 => ?_)
      rw [nI_1]
      exact ih (i + 1) nz az lz (by omega) ⟨⟨E1, t1, t3⟩, ⟨⟨E1, _, t1⟩, t2⟩, r3.frame t4, (t4.1 1 (by decide)).trans r4, fun t b ht hb => by rw [t5]; exact r5 t b ht hb⟩
  exact ⟨v 1 0 + 1, L (v 1 0) 0 ns1 na1 nl1 (by omega) ⟨⟨[0], g1, wgt_0 v⟩, ⟨⟨[0], D1, g1⟩, g2⟩, hN1, hct1, fun t b ht hb => by
    rw [g4 _ (by omega)]
    unfold hadB
    split <;> rfl⟩⟩
/-- LOSS with a bait, PARTS still -/
def bLoss (v : Rl) (s ct k : Nat) : Int64 := sumL (fun b => lN (v 20 b) * sumL (fun t => hadB v s ct k t b) 6) (v 13 0)
theorem c_baitedLoss {v : Rl} {rs : A1} {ra : A2} (hR : RelC v rs ra) (hv : okV v) {nl : L2} {s ct k : Nat} (hH : ∀ t b, t < 6 → b < 10 → nl 0 (t * 10 + b) = hadB v s ct k t b) {post : Int64 → Prop} (h : post (bLoss v s ct k / 1000000000)) : P_X3_baitedLoss nl rs ra post := by
  have h13 := ok13 hv
  have R : ∀ (b : Nat), b < 10 → ∀ (Q : Int64 → Prop), Q (sumL (fun t => hadB v s ct k t b) 6) → P_X3_riskOf nl (nI b) Q := by
    intro b hb Q hQ
    have L : ∀ (d i : Nat), i + d = 6 → P_X3_riskOf_5 nl (nI b) Q (d + 1) (sumL (fun t => hadB v s ct k t b) i) (nI i) := by
      intro d
      induction d with
      | zero =>
        intro i hi
        obtain rfl : i = 6 := by omega
        exact ⟨fun _ => hQ, fun c => absurd (by decide) c⟩
      | succ d ih =>
        intro i hi
        refine ⟨fun c => absurd ((nI_leI (a := 6) (by omega) (by omega)).mp c) (by omega), fun _ => ?_⟩
        unfold P_X3_hadBy
        rw [show (nI i * 10) + nI b = nI (i * 10 + b) by rw [show (10 : Int32) = nI 10 from rfl, pk_mul, nI_add], nI_clamp (by omega), hH i b (by omega) hb]
        refine ⟨vp_in_nI (by omega) (by omega), fun x hx => ?_⟩
        rw [hx, nI_1]
        exact ih (i + 1) (by omega)
    exact ⟨7, L 6 0 (by omega)⟩
  have L : ∀ (d i : Nat), i + d = v 13 0 → P_X3_baitedLoss_5 nl rs ra post (d + 1) (sumL (fun b => lN (v 20 b) * sumL (fun t => hadB v s ct k t b) 6) i) (nI i) := by
    intro d
    induction d with
    | zero =>
      intro i hi
      obtain rfl : i = v 13 0 := by omega
      exact ⟨fun _ => h, fun c => absurd ((cmp_le (rc_s hR 13) (by omega) (by omega)).mpr (Nat.le_refl _)) c⟩
    | succ d ih =>
      intro i hi
      have hw := (hv.2.2.2.2.1 i (by omega)).1
      refine ⟨fun c => absurd ((cmp_le (rc_s hR 13) (by omega) (by omega)).mp c) (by omega), fun _ => ⟨vp_in_nI (by omega) (by decide), R i (by omega) _ (fun x hx => ?_)⟩⟩
      rw [nI_clamp (by omega), (hR.2.2.2.2.1 i (by omega)).1, nI_l (by omega)] at hx
      rw [hx, nI_1]
      exact ih (i + 1) (by omega)
  exact ⟨v 13 0 + 1, L (v 13 0) 0 (by omega)⟩
theorem c_partsCaught {ns : A1} {na : A2} {nl : L2} {E : List Nat} {D : Nat → Int64} (hS : SP E D (ns 2) (na 5) (nl 1) (na 6) (na 7)) {t : Nat} (ht : t < 6) {post : Int64 → Prop} (h : post (sumL (fun q => if q.testBit (11 + t) then D q else 0) N17)) : P_X3_partsCaught ns na nl (nI t) post := by
  obtain ⟨s1, s2, s3, s4, s5, -⟩ := hS
  have L : ∀ (k i : Nat), i + k = E.length → P_X3_partsCaught_5 ns na nl (nI t) post (k + 1) (sumE (E.take i) (fun q => if q.testBit (11 + t) then D q else 0)) (nI i) := by
    intro k
    induction k with
    | zero =>
      intro i hi
      obtain rfl : i = E.length := by omega
      rw [List.take_length, sumE_range (n := N17) s3 (fun q hq => by
          obtain ⟨i, hi, e⟩ := mem_getD hq
          rw [← e]
          exact (s5 i hi).2.1) (fun q _ hq => by rw [s4 q hq]; simp)]
      exact ⟨fun _ => h, fun c => absurd ((cmp_le s1 (by omega) (by omega)).mpr (Nat.le_refl _)) c⟩
    | succ k ih =>
      intro i hi
      have hil : i < E.length := by omega
      obtain ⟨a1, a2, a3⟩ := s5 i hil
      have go := ih (i + 1) (by omega)
      rw [sumE_take hil] at go
      refine ⟨fun c => absurd ((cmp_le s1 (by omega) (by omega)).mp c) (by omega), fun _ => ⟨vp_in_nI (by omega) (by omega), ?_⟩⟩
      rw [nI_clamp (by omega), a1, a3, nI_1]
      show (((nI (E.getD i 0) &&& ((1 : Int32) <<< ((11 + nI t) &&& 31))) = 0) → _) ∧ ((¬ (nI (E.getD i 0) &&& ((1 : Int32) <<< ((11 + nI t) &&& 31))) = 0) → _)
      rw [show (11 : Int32) + nI t = nI (11 + t) from nI_add 11 t, sh1 (by omega), fa_bit (by omega)]
      refine ⟨fun c => ⟨fun _ => ?_, fun z => absurd rfl z⟩, fun c => ⟨fun z => absurd z (by decide), fun _ => ⟨vp_in_nI (by omega) (by omega), fun x hx => ?_⟩⟩⟩
      · rw [c] at go
        simpa using go
      · rw [if_pos (by simpa using c)] at go
        rw [hx]; exact go
  exact ⟨E.length + 1, L E.length 0 (by omega)⟩
end
section
/-! promises 42, 43: the reference with a bait -/
def SUP (v : Rl) (D : Nat → Int64) : Prop := ∀ q, (2 ^ (v 13 0 + 1) ≤ q % 2048 ∨ 2 ^ v 14 0 ≤ q / 2048) → D q = 0
def BR (v : Rl) (D f : Nat → Int64) : Prop := ∀ g c, g < 2 ^ (v 13 0 + 1) → c < 2 ^ v 14 0 → f (64 * g + c) = D (g + 2048 * c)
theorem G_le {v : Rl} (h13 : v 13 0 ≤ 10) : 2 ^ (v 13 0 + 1) ≤ 2048 := Nat.pow_le_pow_right (n := 2) (by decide) (by omega : v 13 0 + 1 ≤ 11)
theorem C_le {v : Rl} (h14 : v 14 0 ≤ 6) : 2 ^ v 14 0 ≤ 64 := Nat.pow_le_pow_right (n := 2) (by decide) h14
theorem en_tb {g c t : Nat} (hg : g < 2048) : (g + 2048 * c).testBit (11 + t) = c.testBit t := by
  rw [Nat.add_comm, show 2048 * c = 2 ^ 11 * c from rfl, Nat.testBit_two_pow_mul_add c (show g < 2 ^ 11 from hg), if_neg (by omega)]
  congr 1
  omega
theorem en_or {g c b : Nat} (hg : g < 2048) (hb : b < 11) : (g + 2048 * c) ||| 2 ^ b = (g ||| 2 ^ b) + 2048 * c := by
  have h1 : g ||| 2 ^ b < 2 ^ 11 := or_ltN (n := 11) hg hb
  have e1 := Nat.two_pow_add_eq_or_of_lt (i := 11) (b := g) hg c
  have e2 := Nat.two_pow_add_eq_or_of_lt (i := 11) (b := g ||| 2 ^ b) h1 c
  rw [Nat.add_comm g, Nat.add_comm (g ||| 2 ^ b), show 2048 * c = 2 ^ 11 * c from rfl, e1, e2, Nat.or_assoc]
theorem en_orc {g c t : Nat} (hg : g < 2048) : (g + 2048 * c) ||| 2 ^ (11 + t) = g + 2048 * (c ||| 2 ^ t) := by
  have e1 := Nat.two_pow_add_eq_or_of_lt (i := 11) (b := g) hg c
  have e2 := Nat.two_pow_add_eq_or_of_lt (i := 11) (b := g) hg (c ||| 2 ^ t)
  rw [Nat.add_comm g, Nat.add_comm g, show 2048 * c = 2 ^ 11 * c from rfl, show 2048 * (c ||| 2 ^ t) = 2 ^ 11 * (c ||| 2 ^ t) from rfl, e1, e2]
  have e3 : 2 ^ 11 * (c ||| 2 ^ t) = 2 ^ 11 * c ||| 2 ^ (11 + t) := by
    apply Nat.eq_of_testBit_eq
    intro i
    rw [Nat.testBit_or, Nat.testBit_two_pow_mul, Nat.testBit_two_pow_mul, Nat.testBit_two_pow, Nat.testBit_or, Nat.testBit_two_pow]
    by_cases h : 11 ≤ i
    · simp [h]
      congr 1
      simp
      omega
    · simp [h]
      omega
  rw [e3, Nat.or_assoc, Nat.or_assoc, Nat.or_comm g]
theorem en_who {v : Rl} {s t g c : Nat} (hg : g < 2048) : who v s t (g + 2048 * c) = if c.testBit t then none else tk v s t g := by
  unfold who
  rw [en_tb hg, show (g + 2048 * c) % 2048 = g by omega]
theorem stp_sup {v : Rl} (h13 : v 13 0 ≤ 10) {s ct t : Nat} (ht : t < v 14 0) {D : Nat → Int64} (hD : SUP v D) : SUP v (stp v s ct t D) := by
  intro x hx
  unfold stp
  rw [hD x hx, sumL_zero (fun q _ => ?_)]
  · rfl
  · by_cases hq : 2 ^ (v 13 0 + 1) ≤ q % 2048 ∨ 2 ^ v 14 0 ≤ q / 2048
    · rw [hD q hq, chg_0]
    · have hG := G_le h13
      obtain ⟨g, c, hg, rfl⟩ : ∃ g c, g < 2048 ∧ q = g + 2048 * c := ⟨q % 2048, q / 2048, Nat.mod_lt _ (by decide), by omega⟩
      have hg2 : g < 2 ^ (v 13 0 + 1) := by omega
      have hc2 : c < 2 ^ v 14 0 := by omega
      unfold chg
      rw [en_who hg]
      cases hct : c.testBit t with
      | true => rfl
      | false =>
        simp only [Bool.false_eq_true, if_false]
        cases htk : tk v s t g with
        | none => rfl
        | some b =>
          have hb := (tk_some htk).1
          have o1 := or_ltN (b := b) hg2 (by omega)
          have o2 := or_ltN (b := t) hc2 ht
          have n1 : x ≠ g + 2048 * c := by omega
          have n2 : x ≠ (g + 2048 * c) ||| 2 ^ b := by rw [en_or hg (by omega)]; omega
          have n3 : x ≠ (g + 2048 * c) ||| 2 ^ b ||| 2 ^ (11 + t) := by rw [en_or hg (by omega), en_orc (by omega)]; omega
          simp only
          split
          · simp only [evl]
            rw [if_neg n1, if_neg n2, if_neg n3]
            rfl
          · simp only [evl]
            rw [if_neg n1, if_neg n2]
            rfl
theorem nD_sup {v : Rl} (h13 : v 13 0 ≤ 10) {s ct : Nat} {D : Nat → Int64} (hD : SUP v D) : ∀ t, t ≤ v 14 0 → SUP v (nD v s ct D t)
  | 0, _ => hD
  | t + 1, h => stp_sup h13 (by omega) (nD_sup h13 hD t (by omega))
theorem Dn_g {v : Rl} {s ct i g c : Nat} (h0 : 0 < g) (hg : g < 2048) : Dn v s ct i (g + 2048 * c) = 0 := by
  cases i with
  | zero =>
    unfold Dn D1
    rw [if_neg (by omega)]
  | succ i =>
    rw [Dn]
    exact brg_out _ (by omega)
theorem Dn_sup {v : Rl} (h13 : v 13 0 ≤ 10) {s ct : Nat} : ∀ i, SUP v (Dn v s ct i)
  | 0 => by
    intro q hq
    have h1 : 0 < 2 ^ (v 13 0 + 1) := Nat.two_pow_pos _
    have h2 : 0 < 2 ^ v 14 0 := Nat.two_pow_pos _
    unfold Dn D1
    rw [if_neg]
    intro e
    subst e
    simp at hq
  | i + 1 => by
    intro q hq
    rw [Dn]
    by_cases e : q % 2048 = 0
    · have h1 : 0 < 2 ^ (v 13 0 + 1) := Nat.two_pow_pos _
      unfold brg
      refine sumL_zero (fun y _ => ?_)
      split
      · rename_i c
        exact nD_sup h13 (Dn_sup h13 i) _ (Nat.le_refl _) y (Or.inr (by omega))
      · rfl
    · exact brg_out _ e
/-- a sum over all states, by the reference's two loops -/
theorem sum_gc {v : Rl} (h13 : v 13 0 ≤ 10) (h14 : v 14 0 ≤ 6) (f : Nat → Int64) (hf : ∀ q, (2 ^ (v 13 0 + 1) ≤ q % 2048 ∨ 2 ^ v 14 0 ≤ q / 2048) → f q = 0) : sumL f N17 = sumL (fun g => sumL (fun c => f (g + 2048 * c)) (2 ^ v 14 0)) (2 ^ (v 13 0 + 1)) := by
  rw [sumL_17', sumL_ext (G_le h13) (fun g h1 h2 => sumL_zero (fun c _ => hf _ (Or.inl (by omega))))]
  exact sumL_cong (fun g hg => sumL_ext (C_le h14) (fun c h1 h2 => hf _ (Or.inr (by have := G_le h13; omega))))
theorem sh2 {n : Nat} (h : n < 29) : ((2 : Int32) <<< (nI n &&& 31)) = nI (2 ^ (n + 1)) := by
  have := pk_shlN (n := 2) (nI n &&& 31) n (sh_c n (by omega)) (by
    have : 2 ^ n ≤ 2 ^ 28 := Nat.pow_le_pow_right (by decide) (by omega)
    omega)
  rw [Nat.mul_comm, ← Nat.pow_succ] at this
  exact this
def evg (v : Rl) (s ct t : Nat) (D : Nat → Int64) (g c x : Nat) : Int64 := evl (chg v s ct t (g + 2048 * c) (D (g + 2048 * c))) x
section MB
variable {us : A1} {ua : A2} {rs : A1} {ra ra2 sa : A2} {sl : L2} {ns : A1} {na : A2} {nl : L2} {yt : Int32} {im : Img} {ms : A1} {ma : A2} {ml : L2}
theorem st64 (g c : Nat) : (64 : Int32) * nI g + nI c = nI (64 * g + c) := by simp only [fa_lit, pk_mul, nI_add]
theorem m_thiefGoes {v : Rl} (hv : okV v) (hJ : okJ v) {s ct t : Nat} (hs : s ≤ 9999) (hct : ct ≤ 100) (ht : t < v 14 0) {j : Nat} (hM : RM v 0 ms ma) (hL : LR v s (v 13 0 + 1) ms ma) {D : Nat → Int64} (hD : SUP v D) (hB : BR v D (ml 7)) {post : L2 → Prop} (h : ∀ mk : L2, BR v (stp v s ct t D) (mk 7) → (∀ j, j ≠ 7 → j ≠ 8 → mk j = ml j) → post mk) : P_X12_thiefGoes ms ma ml (nI t) (nI ct) post := by
  have h13 := ok13 hv
  have h14 := ok14 hv
  have hG := G_le h13
  have hC := C_le h14
  have e13 : ma 10 0 = nI (v 13 0) := hM.1.1.2.2.2.2
  have e14 : ma 12 0 = nI (v 14 0) := hM.2.1.1
  have hcm : v 26 t ≤ 100 := (hv.2.2.2.2.2.1 t ht).2.1
  have eT := hM.2.1.2 t ht
  simp only [Nat.mul_zero, Nat.zero_add] at eT
  intro x17 h17 x18 h18
  rw [e13, sh2 (by omega)] at h17
  rw [e14, sh1 (by omega)] at h18
  subst h17 h18
  -- the second loops
  have I2 : ∀ (g b : Nat), g < 2 ^ (v 13 0 + 1) → tk v s t g = some b → ∀ (R107 : Int32 → L2 → Prop) (lx : L2), (∀ g c, g < 2 ^ (v 13 0 + 1) → c < 2 ^ v 14 0 → lx 8 (64 * g + c) = if c.testBit t then 0 else cmP v t (D (g + 2048 * c))) → (∀ gx cx, gx < 2 ^ (v 13 0 + 1) → cx < 2 ^ v 14 0 → lx 7 (64 * gx + cx) = D (gx + 2048 * cx) + sumL (fun g => sumL (fun c => evg v s ct t D g c (gx + 2048 * cx)) (2 ^ v 14 0)) g) → (∀ j, j ≠ 7 → j ≠ 8 → lx j = ml j) → (∀ ly : L2, ly 8 = lx 8 → (∀ gx cx, gx < 2 ^ (v 13 0 + 1) → cx < 2 ^ v 14 0 → ly 7 (64 * gx + cx) = D (gx + 2048 * cx) + sumL (fun g => sumL (fun c => evg v s ct t D g c (gx + 2048 * cx)) (2 ^ v 14 0)) (g + 1)) → (∀ j, j ≠ 7 → j ≠ 8 → ly j = ml j) → R107 (nI (g + 1)) ly) → ∃ n, P_X12_thiefGoes_134 ms ma (nI t) (nI ct) (nI (2 ^ (v 13 0 + 1))) (nI (2 ^ v 14 0)) post R107 (nI g) (nI b) n 0 lx := by
    intro g b hg htk R107 lx q8 q7 qj kk
    obtain ⟨hb1, hb2, hb3⟩ := tk_some htk
    have L : ∀ (d c : Nat) (ly : L2), c + d = 2 ^ v 14 0 → ly 8 = lx 8 → (∀ gx cx, gx < 2 ^ (v 13 0 + 1) → cx < 2 ^ v 14 0 → ly 7 (64 * gx + cx) = D (gx + 2048 * cx) + sumL (fun g => sumL (fun c => evg v s ct t D g c (gx + 2048 * cx)) (2 ^ v 14 0)) g + sumL (fun c => evg v s ct t D g c (gx + 2048 * cx)) c) → (∀ j, j ≠ 7 → j ≠ 8 → ly j = ml j) → P_X12_thiefGoes_134 ms ma (nI t) (nI ct) (nI (2 ^ (v 13 0 + 1))) (nI (2 ^ v 14 0)) post R107 (nI g) (nI b) (d + 1) (nI c) ly := by
      intro d
      induction d with
      | zero =>
        intro c ly hc r8 r7 rj
        obtain rfl : c = 2 ^ v 14 0 := by omega
        refine ⟨fun _ => ?_, fun z => absurd (nI_le (Nat.le_refl _) (by omega)) z⟩
        rw [nI_1]
        refine kk ly r8 (fun gx cx h1 h2 => ?_) rj
        rw [r7 gx cx h1 h2, sumL, Int64.add_assoc]
      | succ d ih =>
        intro c ly hc r8 r7 rj
        have hcc : c < 2 ^ v 14 0 := by omega
        refine ⟨fun z => absurd ((nI_leI (by omega) (by omega)).mp z) (by omega), fun _ => ?_⟩
        show vp_in ((64 : Int32) * nI g + nI c) 131072 ∧ _
        rw [st64, nI_clamp (by omega), r8, q8 g c hg hcc, e13, nI_1]
        refine ⟨vp_in_nI (by omega) (by decide), fun x hx => ?_⟩
        have skip : (∀ y, evg v s ct t D g c y = 0) → P_X12_thiefGoes_134 ms ma (nI t) (nI ct) (nI (2 ^ (v 13 0 + 1))) (nI (2 ^ v 14 0)) post R107 (nI g) (nI b) (d + 1) (nI (c + 1)) ly := fun z => ih (c + 1) ly (by omega) r8 (fun gx cx h1 h2 => by rw [r7 gx cx h1 h2, sumL, z, Int64.add_zero]) rj
        cases hbt : c.testBit t with
        | true =>
          rw [hbt] at hx
          simp only [if_true] at hx
          refine ⟨fun z => absurd hx z, fun _ => skip (fun y => ?_)⟩
          unfold evg chg
          rw [en_who (by omega), hbt]
          rfl
        | false =>
          rw [hbt] at hx
          simp only [Bool.false_eq_true, if_false] at hx
          have hwho : who v s t (g + 2048 * c) = some b := by rw [en_who (by omega), hbt]; simpa using htk
          have o1 := or_ltN (b := b) hg (by omega)
          have o2 := or_ltN (b := t) hcc ht
          have hgb : g ||| 2 ^ b ≠ g := by
            intro e
            have : (g ||| 2 ^ b).testBit b = g.testBit b := by rw [e]
            rw [tb_or, hb3] at this
            simp at this
          have hcb : c ||| 2 ^ t ≠ c := by
            intro e
            have : (c ||| 2 ^ t).testBit t = c.testBit t := by rw [e]
            rw [tb_or, hbt] at this
            simp at this
          have K : ∀ k0 : Int64, (∀ y, y < 131072 → evg v s ct t D g c y = (if y = g + 2048 * c then -x else 0) + ((if y = (g ||| 2 ^ b) + 2048 * (c ||| 2 ^ t) then k0 else 0) + (if y = (g ||| 2 ^ b) + 2048 * c then x - k0 else 0))) → P_X12_thiefGoes_189 ms ma (nI t) (nI ct) (nI (2 ^ (v 13 0 + 1))) (nI (2 ^ v 14 0)) (nI g) (nI b) post (P_X12_thiefGoes_134 ms ma (nI t) (nI ct) (nI (2 ^ (v 13 0 + 1))) (nI (2 ^ v 14 0)) post R107 (nI g) (nI b) (d + 1)) (nI c) x k0 ly := by
            intro k0 hk0
            unfold P_X12_thiefGoes_189
            rw [sh1 (by omega), sh1 (by omega), fa_or, fa_or, nI_1]
            simp only [P_X12_state, st64]
            rw [nI_clamp (by omega), nI_clamp (by omega), nI_clamp (by omega)]
            refine ⟨vp_in_nI (by omega) (by decide), vp_in_nI (by omega) (by decide), vp_in_nI (by omega) (by decide), vp_in_nI (by omega) (by decide), vp_in_nI (by omega) (by decide), vp_in_nI (by omega) (by decide), ?_⟩
            refine ih (c + 1) _ (by omega) (by rw [up_ne (by decide)]; exact r8) (fun gx cx h1 h2 => ?_) (fun j j7 j8 => by rw [up_ne j7]; exact rj j j7 j8)
            have rx := r7 gx cx h1 h2
            rw [up_at, sumL, hk0 _ (by omega), ← Int64.add_assoc, ← rx]
            by_cases c3 : 64 * gx + cx = 64 * (g ||| 2 ^ b) + c
            · have eg : gx = g ||| 2 ^ b := by omega
              have ec : cx = c := by omega
              rw [c3, uL_at, uL_ne (by omega), uL_ne (by omega), if_neg (by omega), if_neg (by omega), if_pos (by rw [eg, ec])]
              grind
            · rw [uL_ne c3]
              by_cases c2 : 64 * gx + cx = 64 * (g ||| 2 ^ b) + (c ||| 2 ^ t)
              · have eg : gx = g ||| 2 ^ b := by omega
                have ec : cx = c ||| 2 ^ t := by omega
                rw [c2, uL_at, uL_ne (by omega), if_neg (by omega), if_pos (by rw [eg, ec]), if_neg (by omega)]
                grind
              · rw [uL_ne c2]
                by_cases c1 : 64 * gx + cx = 64 * g + c
                · have eg : gx = g := by omega
                  have ec : cx = c := by omega
                  rw [c1, uL_at, if_pos (by rw [eg, ec]), if_neg (by omega), if_neg (by omega)]
                  grind
                · rw [uL_ne c1, if_neg (by omega), if_neg (by omega), if_neg (by omega)]
                  grind
          refine ⟨fun hx0 => ⟨fun cb => K 0 (fun y _ => ?_), fun cb => K _ (fun y _ => ?_)⟩, fun hx0 => skip (fun y => ?_)⟩
          · have hbn : b ≠ v 13 0 := fun e => cb (by rw [e])
            unfold evg chg
            rw [hwho]
            simp only
            rw [if_neg hbn, ← hx, en_or (by omega) (by omega)]
            simp only [evl]
            split <;> split <;> split <;> grind
          · have hbn : b = v 13 0 := (nI_eq (by omega) (by omega)).mp cb
            unfold evg chg
            rw [hwho]
            simp only
            rw [if_pos hbn, ← hx, en_or (by omega) (by omega), en_orc (by omega), nI_l (by omega), show x * lN ct / 100 = ctP ct x from rfl]
            simp only [evl]
            grind
          · unfold evg
            exact chg_c0 (by rw [← hx]; exact hx0) y
    exact ⟨2 ^ v 14 0 + 1, L (2 ^ v 14 0) 0 lx (by omega) rfl (fun gx cx h1 h2 => by rw [q7 gx cx h1 h2]; simp [sumL]) qj⟩
  have L2' : ∀ (d g : Nat) (lx : L2), g + d = 2 ^ (v 13 0 + 1) → (∀ g c, g < 2 ^ (v 13 0 + 1) → c < 2 ^ v 14 0 → lx 8 (64 * g + c) = if c.testBit t then 0 else cmP v t (D (g + 2048 * c))) → (∀ gx cx, gx < 2 ^ (v 13 0 + 1) → cx < 2 ^ v 14 0 → lx 7 (64 * gx + cx) = D (gx + 2048 * cx) + sumL (fun g => sumL (fun c => evg v s ct t D g c (gx + 2048 * cx)) (2 ^ v 14 0)) g) → (∀ j, j ≠ 7 → j ≠ 8 → lx j = ml j) → P_X12_thiefGoes_107 ms ma (nI t) (nI ct) post (nI (2 ^ (v 13 0 + 1))) (nI (2 ^ v 14 0)) (d + 1) (nI g) lx := by
    intro d
    induction d with
    | zero =>
      intro g lx hg q8 q7 qj
      obtain rfl : g = 2 ^ (v 13 0 + 1) := by omega
      refine ⟨fun _ => h lx (fun gx cx h1 h2 => ?_) qj, fun z => absurd (nI_le (Nat.le_refl _) (by omega)) z⟩
      rw [q7 gx cx h1 h2]
      unfold stp
      rw [sum_gc h13 h14 _ (fun q hq => by rw [hD q hq, chg_0])]
      rfl
    | succ d ih =>
      intro g lx hg q8 q7 qj
      refine ⟨fun z => absurd ((nI_leI (by omega) (by omega)).mp z) (by omega), fun _ => ?_⟩
      refine m_takesOf hv hJ hs hM.2.1 hL ht (by omega) ?_
      rw [nI_1]
      cases htk : tk v s t g with
      | none =>
        refine ⟨fun z => absurd rfl z, fun _ => ih (g + 1) lx (by omega) q8 (fun gx cx h1 h2 => ?_) qj⟩
        rw [q7 gx cx h1 h2, sumL, sumL_zero (f := fun c => evg v s ct t D g c (gx + 2048 * cx)) (fun c _ => ?_), Int64.add_zero]
        unfold evg chg
        rw [en_who (by omega), htk, ite_self]
        rfl
      | some b =>
        have hb := (tk_some htk).1
        refine ⟨fun _ => ?_, fun z => absurd z (nI_nm1 (by omega))⟩
        exact I2 g b (by omega) htk _ lx q8 q7 qj (fun ly r8 r7 rj => ih (g + 1) ly (by omega) (by rw [r8]; exact q8) r7 rj)
  -- the first loops
  have I1 : ∀ (g : Nat), g < 2 ^ (v 13 0 + 1) → ∀ (R22 : Int32 → L2 → Prop) (lx : L2), (∀ j, j ≠ 8 → lx j = ml j) → (∀ ly : L2, (∀ j, j ≠ 8 → ly j = ml j) → (∀ c, c < 2 ^ v 14 0 → ly 8 (64 * g + c) = if c.testBit t then 0 else cmP v t (D (g + 2048 * c))) → (∀ x, x < 64 * g → ly 8 x = lx 8 x) → R22 (nI (g + 1)) ly) → ∃ n, P_X12_thiefGoes_31 ms ma (nI t) (nI ct) (nI (2 ^ (v 13 0 + 1))) (nI (2 ^ v 14 0)) post R22 (nI g) n 0 lx := by
    intro g hg R22 lx q1 kk
    have L : ∀ (d c : Nat) (ly : L2), c + d = 2 ^ v 14 0 → (∀ j, j ≠ 8 → ly j = ml j) → (∀ c', c' < c → ly 8 (64 * g + c') = if c'.testBit t then 0 else cmP v t (D (g + 2048 * c'))) → (∀ x, x < 64 * g → ly 8 x = lx 8 x) → P_X12_thiefGoes_31 ms ma (nI t) (nI ct) (nI (2 ^ (v 13 0 + 1))) (nI (2 ^ v 14 0)) post R22 (nI g) (d + 1) (nI c) ly := by
      intro d
      induction d with
      | zero =>
        intro c ly hc r1 r2 r3
        obtain rfl : c = 2 ^ v 14 0 := by omega
        refine ⟨fun _ => ?_, fun z => absurd (nI_le (Nat.le_refl _) (by omega)) z⟩
        rw [nI_1]
        exact kk ly r1 r2 r3
      | succ d ih =>
        intro c ly hc r1 r2 r3
        refine ⟨fun z => absurd ((nI_leI (by omega) (by omega)).mp z) (by omega), fun _ => ?_⟩
        simp only [P_X12_state, st64]
        rw [bit_o (by omega) (by omega), nI_clamp (by omega), nI_1, show (5 : Int32) * nI t + 1 = nI (5 * t + 1) by simp only [fa_lit, pk_mul, nI_add], nI_clamp (by omega), eT.2.1, nI_l (by omega), r1 7 (by decide), hB g c hg (by omega)]
        have st : ∀ y : Int64, y = (if c.testBit t then 0 else cmP v t (D (g + 2048 * c))) → P_X12_thiefGoes_31 ms ma (nI t) (nI ct) (nI (2 ^ (v 13 0 + 1))) (nI (2 ^ v 14 0)) post R22 (nI g) (d + 1) (nI (c + 1)) (va_up ly 8 (vp_updL (ly 8) (64 * g + c) y)) := by
          intro y hy
          refine ih (c + 1) _ (by omega) (fun j hj => by rw [up_ne hj, r1 j hj]) (fun c' hc' => ?_) (fun x hx => by rw [up_at, uL_ne (by omega), r3 x hx])
          rw [up_at]
          by_cases e : c' = c
          · rw [e, uL_at, hy]
          · rw [uL_ne (by omega), r2 c' (by omega)]
        refine ⟨fun z => ⟨vp_in_nI (by omega) (by decide), vp_in_nI (by omega) (by decide), vp_in_nI (by omega) (by decide), st _ ?_⟩, fun z => ⟨vp_in_nI (by omega) (by decide), st 0 ?_⟩⟩
        · rw [if_neg z]
          rfl
        · rw [if_pos z]
    exact ⟨2 ^ v 14 0 + 1, L (2 ^ v 14 0) 0 lx (by omega) q1 (fun c' hc' => by omega) (fun _ _ => rfl)⟩
  have L1 : ∀ (d g : Nat) (lx : L2), g + d = 2 ^ (v 13 0 + 1) → (∀ j, j ≠ 8 → lx j = ml j) → (∀ g' c, g' < g → c < 2 ^ v 14 0 → lx 8 (64 * g' + c) = if c.testBit t then 0 else cmP v t (D (g' + 2048 * c))) → P_X12_thiefGoes_22 ms ma (nI t) (nI ct) post (fun (x3_ : Int32) (x4_ : Int32) (x5_ : Int32) (ml : Nat → Nat → Int64) => (∃ n : Nat, P_X12_thiefGoes_107 ms ma (nI t) (nI ct) post x3_ x4_ n x5_ ml)) (nI (2 ^ (v 13 0 + 1))) (nI (2 ^ v 14 0)) (d + 1) (nI g) lx := by
    intro d
    induction d with
    | zero =>
      intro g lx hg q1 q2
      obtain rfl : g = 2 ^ (v 13 0 + 1) := by omega
      refine ⟨fun _ => ⟨2 ^ (v 13 0 + 1) + 1, L2' _ 0 lx (by omega) q2 (fun gx cx h1 h2 => ?_) (fun j _ j8 => q1 j j8)⟩, fun z => absurd (nI_le (Nat.le_refl _) (by omega)) z⟩
      rw [q1 7 (by decide), hB gx cx h1 h2]
      simp [sumL]
    | succ d ih =>
      intro g lx hg q1 q2
      refine ⟨fun z => absurd ((nI_leI (by omega) (by omega)).mp z) (by omega), fun _ => ?_⟩
      refine I1 g (by omega) _ lx q1 (fun ly r1 r2 r3 => ih (g + 1) ly (by omega) r1 (fun g' c hg' hc => ?_))
      by_cases e : g' = g
      · rw [e]; exact r2 c hc
      · rw [r3 _ (by omega)]; exact q2 g' c (by omega) hc
  exact ⟨2 ^ (v 13 0 + 1) + 1, L1 _ 0 ml (by omega) (fun _ _ => rfl) (fun g' c hg' => by omega)⟩
end MB
end
section
/-! promises 42, 43: both with a bait -/
def wth (v : Rl) (g : Nat) : Nat → Nat := sumN (fun b => if g.testBit b then v 20 b else 0)
theorem wth_le {v : Rl} (hv : okV v) (g : Nat) {k : Nat} (hk : k ≤ v 13 0) : wth v g k ≤ k * 9999 := sumN_le (fun b hb => by
  have := (hv.2.2.2.2.1 b (by omega)).1
  split <;> omega)
theorem wth_L (v : Rl) (g : Nat) : ∀ k, lN (wth v g k) = sumL (fun b => bitW b g * lN (v 20 b)) k
  | 0 => rfl
  | k + 1 => by
    have e : wth v g (k + 1) = wth v g k + if g.testBit k then v 20 k else 0 := rfl
    rw [e, ← lN_add, wth_L v g k, sumL]
    congr 1
    unfold bitW
    split
    · rw [Int64.one_mul]
    · rw [Int64.zero_mul]
      rfl
theorem bitW_mod {b q : Nat} (hb : b < 11) : bitW b (q % 2048) = bitW b q := by
  unfold bitW
  rw [tb_mod hb]
theorem bLoss_step {v : Rl} (hv : okV v) {s ct : Nat} (i : Nat) : bLoss v s ct (i + 1) = bLoss v s ct i + sumL (fun g => sumL (fun c => nD v s ct (Dn v s ct i) (v 14 0) (g + 2048 * c) * lN (wth v g (v 13 0))) (2 ^ v 14 0)) (2 ^ (v 13 0 + 1)) := by
  have h13 := ok13 hv
  have h14 := ok14 hv
  have hS := nD_sup (s := s) (ct := ct) h13 (Dn_sup (s := s) (ct := ct) h13 i) (v 14 0) (Nat.le_refl _)
  have e1 := sum_gc h13 h14 (fun q => nD v s ct (Dn v s ct i) (v 14 0) q * lN (wth v (q % 2048) (v 13 0))) (fun q hq => by rw [hS q hq, Int64.zero_mul])
  have e2 : sumL (fun g => sumL (fun c => nD v s ct (Dn v s ct i) (v 14 0) (g + 2048 * c) * lN (wth v g (v 13 0))) (2 ^ v 14 0)) (2 ^ (v 13 0 + 1)) = sumL (fun q => nD v s ct (Dn v s ct i) (v 14 0) q * lN (wth v (q % 2048) (v 13 0))) N17 := by
    rw [e1]
    refine sumL_cong (fun g hg => sumL_cong (fun c _ => ?_))
    have := G_le h13
    rw [show (g + 2048 * c) % 2048 = g by omega]
  have e3 : sumL (fun q => nD v s ct (Dn v s ct i) (v 14 0) q * lN (wth v (q % 2048) (v 13 0))) N17 = sumL (fun b => lN (v 20 b) * sumL (fun q => bitW b q * nD v s ct (Dn v s ct i) (v 14 0) q) N17) (v 13 0) := by
    have a : ∀ q, nD v s ct (Dn v s ct i) (v 14 0) q * lN (wth v (q % 2048) (v 13 0)) = sumL (fun b => lN (v 20 b) * (bitW b q * nD v s ct (Dn v s ct i) (v 14 0) q)) (v 13 0) := by
      intro q
      rw [wth_L, ← sumL_mul]
      refine sumL_cong (fun b hb => ?_)
      rw [bitW_mod (by omega)]
      grind
    rw [sumL_cong (g := fun q => sumL (fun b => lN (v 20 b) * (bitW b q * nD v s ct (Dn v s ct i) (v 14 0) q)) (v 13 0)) (fun q _ => a q), sumL_swap (fun b q => lN (v 20 b) * (bitW b q * nD v s ct (Dn v s ct i) (v 14 0) q))]
    exact sumL_cong (fun b _ => sumL_mul _ _ _)
  rw [e2, e3]
  unfold bLoss
  rw [← sumL_add]
  refine sumL_cong (fun b hb => ?_)
  rw [nD_bit h13 h14 _ hb _ h14, Dn_bit v s ct (by omega) i, Int64.zero_add]
  have e4 : sumL (fun t => hadB v s ct (i + 1) t b) 6 = sumL (fun t => hadB v s ct i t b) 6 + sumL (fun t => hst v s t (nD v s ct (Dn v s ct i) t) b) (v 14 0) := by
    rw [sumL_ext (n := v 14 0) (m := 6) (f := fun t => hadB v s ct (i + 1) t b) h14 (fun k h1 _ => by unfold hadB; rw [if_neg (by omega)]), sumL_ext (n := v 14 0) (m := 6) (f := fun t => hadB v s ct i t b) h14 (fun k h1 _ => by unfold hadB; rw [if_neg (by omega)]), ← sumL_add]
    exact sumL_cong (fun t ht => by unfold hadB; rw [if_pos ⟨ht, hb⟩, if_pos ⟨ht, hb⟩, sumL])
  rw [e4]
  grind
section BB
variable {us : A1} {ua : A2} {rs : A1} {ra ra2 sa : A2} {sl : L2} {ns : A1} {na : A2} {nl : L2} {yt : Int32} {im : Img} {ms : A1} {ma : A2} {ml : L2}
theorem m_baits {v : Rl} (hv : okR v) (hM : RM v 0 ms ma) {mw : Nat → Int64} {s ct : Nat} (p1 : Int32) (hs : s ≤ 9999) (hct : ct ≤ 100) {post : A1 → (Nat → Int64) → A2 → L2 → Prop} (h : ∀ mt mw' mb mk, RM v 0 mt mb → MG ms ma ml mt mb mk → mw' 2 = bLoss v s ct (v 1 0) → (∀ c, c < 2 ^ v 14 0 → mk 9 c = Dn v s ct (v 1 0) (2048 * c)) → post mt mw' mb mk) : P_X12_baits ms mw ma ml p1 (nI s) (nI ct) post := by
  have h13 := ok13 hv.1
  have h14 := ok14 hv.1
  have h1 := ok1 hv.1
  have hG := G_le h13
  have hC := C_le h14
  have hG0 : 0 < 2 ^ (v 13 0 + 1) := Nat.two_pow_pos _
  have hC0 : 0 < 2 ^ v 14 0 := Nat.two_pow_pos _
  refine m_lays hv.1 hM (some s) hs (fun mb hL hmb => ?_)
  have hF : ∀ ml : L2, MF ms ma ml (va_up ms 12 (nI (thO v (some s)))) mb ml := fun ml => ⟨fun j hj => up_ne hj, hmb, fun _ _ _ _ => rfl⟩
  have hM2 := (hF ml).rm hM
  have e13 : mb 10 0 = nI (v 13 0) := hM2.1.1.2.2.2.2
  have e14 : mb 12 0 = nI (v 14 0) := hM2.2.1.1
  have e5 : mb 5 0 = nI (v 1 0) := hM2.1.1.2.2.1
  generalize va_up ms 12 (nI (thO v (some s))) = mt at hL hF hM2
  intro x23 h23 x24 h24
  rw [e13, sh2 (by omega)] at h23
  rw [e14, sh1 (by omega)] at h24
  subst h23 h24
  have hD9 : ∀ lx : L2, (∀ j, j ≠ 7 → j ≠ 8 → j ≠ 9 → lx j = ml j) → MG ms ma ml mt mb lx := fun lx q => (hF ml).g.trans ⟨fun _ _ _ _ => rfl, fun _ _ _ _ _ => rfl, fun _ _ => rfl, fun _ _ => rfl, q 0 (by decide) (by decide) (by decide)⟩
  -- a night's end: one state's sums
  have S3 : ∀ (i : Nat) (D : Nat → Int64), ∀ (x6 : Int32) (R193 : Int32 → (Nat → Int64) → L2 → Prop) (g : Nat), g < 2 ^ (v 13 0 + 1) → ∀ (bw : Int64) (mw1 : Nat → Int64) (lx : L2), BR v D (lx 7) → mw1 2 = bw + sumL (fun g => sumL (fun c => D (g + 2048 * c) * lN (wth v g (v 13 0))) (2 ^ v 14 0)) g → (∀ c, c < 2 ^ v 14 0 → lx 9 c = sumL (fun g => D (g + 2048 * c)) g) → (∀ j, j ≠ 7 → j ≠ 8 → j ≠ 9 → lx j = ml j) → (∀ mw2 ly, BR v D (ly 7) → mw2 2 = bw + sumL (fun g => sumL (fun c => D (g + 2048 * c) * lN (wth v g (v 13 0))) (2 ^ v 14 0)) (g + 1) → (∀ c, c < 2 ^ v 14 0 → ly 9 c = sumL (fun g => D (g + 2048 * c)) (g + 1)) → (∀ j, j ≠ 7 → j ≠ 8 → j ≠ 9 → ly j = ml j) → R193 (nI (g + 1)) mw2 ly) → ∃ n, P_X12_baits_257 p1 (nI s) (nI ct) (nI (2 ^ (v 13 0 + 1))) (nI (2 ^ v 14 0)) mt mb x6 post R193 (nI g) (nI (wth v g (v 13 0))) n 0 mw1 lx := by
    intro i D x6 R193 g hg bw mw1 lx q7 q2 q9 qj kk
    have hwl := wth_le hv.1 g (Nat.le_refl (v 13 0))
    have hw2 : v 13 0 * 9999 ≤ 10 * 9999 := Nat.mul_le_mul_right _ h13
    have L : ∀ (d c : Nat) (mw2 : Nat → Int64) (ly : L2), c + d = 2 ^ v 14 0 → BR v D (ly 7) → mw2 2 = bw + sumL (fun g => sumL (fun c => D (g + 2048 * c) * lN (wth v g (v 13 0))) (2 ^ v 14 0)) g + sumL (fun c => D (g + 2048 * c) * lN (wth v g (v 13 0))) c → (∀ c', c' < c → ly 9 c' = sumL (fun g => D (g + 2048 * c')) (g + 1)) → (∀ c', c ≤ c' → c' < 2 ^ v 14 0 → ly 9 c' = sumL (fun g => D (g + 2048 * c')) g) → (∀ j, j ≠ 7 → j ≠ 8 → j ≠ 9 → ly j = ml j) → P_X12_baits_257 p1 (nI s) (nI ct) (nI (2 ^ (v 13 0 + 1))) (nI (2 ^ v 14 0)) mt mb x6 post R193 (nI g) (nI (wth v g (v 13 0))) (d + 1) (nI c) mw2 ly := by
      intro d
      induction d with
      | zero =>
        intro c mw2 ly hc r7 r2 r9 r9' rj
        obtain rfl : c = 2 ^ v 14 0 := by omega
        refine ⟨fun _ => ?_, fun z => absurd (nI_le (Nat.le_refl _) (by omega)) z⟩
        rw [nI_1]
        exact kk mw2 ly r7 (by rw [r2, sumL, Int64.add_assoc]) r9 rj
      | succ d ih =>
        intro c mw2 ly hc r7 r2 r9 r9' rj
        refine ⟨fun z => absurd ((nI_leI (by omega) (by omega)).mp z) (by omega), fun _ => ⟨vp_in_nI (by omega) (by decide), ?_⟩⟩
        simp only [P_X12_state, st64]
        rw [nI_clamp (by omega), nI_clamp (by omega), r7 g c hg (by omega), nI_l (by omega), nI_1, r9' c (Nat.le_refl _) (by omega)]
        refine ⟨vp_in_nI (by omega) (by decide), vp_in_nI (by omega) (by decide), vp_in_nI (by omega) (by decide), fun x hx => ?_⟩
        refine ih (c + 1) _ _ (by omega) (by rw [up_ne (by decide)]; exact r7) (by rw [up_at, hx, r2, sumL, Int64.add_assoc]) (fun c' hc' => ?_) (fun c' h1 h2 => by rw [up_at, uL_ne (by omega)]; exact r9' c' (by omega) h2) (fun j j7 j8 j9 => by rw [up_ne j9]; exact rj j j7 j8 j9)
        rw [up_at]
        by_cases e : c' = c
        · rw [e, uL_at, sumL]
        · rw [uL_ne e]; exact r9 c' (by omega)
    exact ⟨2 ^ v 14 0 + 1, L (2 ^ v 14 0) 0 mw1 lx (by omega) q7 (by rw [q2]; simp [sumL]) (fun c' hc' => by omega) (fun c' _ hc' => q9 c' hc') qj⟩
  -- a night's end: worth of a state
  have S2 : ∀ (x6 : Int32) (K257 : Int32 → Int32 → Int32 → (Nat → Int64) → L2 → Prop) (g : Nat), g < 2 ^ (v 13 0 + 1) → ∀ (mw1 : Nat → Int64) (lx : L2), K257 (nI g) (nI (wth v g (v 13 0))) 0 mw1 lx → ∃ n, P_X12_baits_206 p1 (nI s) (nI ct) (nI (2 ^ (v 13 0 + 1))) (nI (2 ^ v 14 0)) mt mb x6 post K257 (nI g) mw1 lx n 0 0 := by
    intro x6 K257 g hg mw1 lx kk
    have L : ∀ (d k : Nat), k + d = v 13 0 → P_X12_baits_206 p1 (nI s) (nI ct) (nI (2 ^ (v 13 0 + 1))) (nI (2 ^ v 14 0)) mt mb x6 post K257 (nI g) mw1 lx (d + 1) (nI (wth v g k)) (nI k) := by
      intro d
      induction d with
      | zero =>
        intro k hk
        obtain rfl : k = v 13 0 := by omega
        exact ⟨fun _ => kk, fun c => absurd ((cmp_le e13 (by omega) (by omega)).mpr (Nat.le_refl _)) c⟩
      | succ d ih =>
        intro k hk
        have go := ih (k + 1) (by omega)
        have e : wth v g (k + 1) = wth v g k + if g.testBit k then v 20 k else 0 := rfl
        rw [e] at go
        refine ⟨fun c => absurd ((cmp_le e13 (by omega) (by omega)).mp c) (by omega), fun _ => ?_⟩
        rw [bit_o (by omega) (by omega), nI_1]
        refine ⟨fun c x hx => ?_, fun c => ?_⟩
        · rw [if_neg c] at go
          rw [show (0 : Int32) = nI 0 from rfl, nI_add] at hx
          rw [hx]; exact go
        · rw [if_pos c] at go
          show vp_in ((5 : Int32) * ((10 : Int32) * nI 0 + nI k)) 250 ∧ (∀ x9 : Int32, x9 = (nI (wth v g k) + (mb 11 ((5 : Int32) * ((10 : Int32) * nI 0 + nI k)).toNatClampNeg)) → _)
          rw [ix50, nI_clamp (by omega), (hM2.1.2.2.2.1 k (by omega)).1]
          refine ⟨vp_in_nI (by omega) (by decide), fun x hx => ?_⟩
          rw [nI_add] at hx
          rw [hx]; exact go
    exact ⟨v 13 0 + 1, L (v 13 0) 0 (by omega)⟩
  -- a night's end
  have S1 : ∀ (i : Nat) (D : Nat → Int64) (x6 : Int32) (R68 : Int32 → (Nat → Int64) → L2 → Prop) (bw : Int64) (mw0 : Nat → Int64) (l0 : L2), BR v D (l0 7) → mw0 2 = bw → (∀ c, c < 2 ^ v 14 0 → l0 9 c = 0) → (∀ j, j ≠ 7 → j ≠ 8 → j ≠ 9 → l0 j = ml j) → (∀ mw2 ly, mw2 2 = bw + sumL (fun g => sumL (fun c => D (g + 2048 * c) * lN (wth v g (v 13 0))) (2 ^ v 14 0)) (2 ^ (v 13 0 + 1)) → (∀ c, c < 2 ^ v 14 0 → ly 9 c = sumL (fun g => D (g + 2048 * c)) (2 ^ (v 13 0 + 1))) → (∀ j, j ≠ 7 → j ≠ 8 → j ≠ 9 → ly j = ml j) → R68 (x6 + 1) mw2 ly) → ∃ n, P_X12_baits_193 p1 (nI s) (nI ct) (nI (2 ^ (v 13 0 + 1))) (nI (2 ^ v 14 0)) mt mb post R68 x6 n 0 mw0 l0 := by
    intro i D x6 R68 bw mw0 l0 q7 q2 q9 qj kk
    have L : ∀ (d g : Nat) (mw1 : Nat → Int64) (lx : L2), g + d = 2 ^ (v 13 0 + 1) → BR v D (lx 7) → mw1 2 = bw + sumL (fun g => sumL (fun c => D (g + 2048 * c) * lN (wth v g (v 13 0))) (2 ^ v 14 0)) g → (∀ c, c < 2 ^ v 14 0 → lx 9 c = sumL (fun g => D (g + 2048 * c)) g) → (∀ j, j ≠ 7 → j ≠ 8 → j ≠ 9 → lx j = ml j) → P_X12_baits_193 p1 (nI s) (nI ct) (nI (2 ^ (v 13 0 + 1))) (nI (2 ^ v 14 0)) mt mb post R68 x6 (d + 1) (nI g) mw1 lx := by
      intro d
      induction d with
      | zero =>
        intro g mw1 lx hg r7 r2 r9 rj
        obtain rfl : g = 2 ^ (v 13 0 + 1) := by omega
        exact ⟨fun _ => kk mw1 lx r2 r9 rj, fun z => absurd (nI_le (Nat.le_refl _) (by omega)) z⟩
      | succ d ih =>
        intro g mw1 lx hg r7 r2 r9 rj
        refine ⟨fun z => absurd ((nI_leI (by omega) (by omega)).mp z) (by omega), fun _ => ?_⟩
        exact S2 x6 _ g (by omega) mw1 lx (S3 i D x6 _ g (by omega) bw mw1 lx r7 r2 r9 rj (fun mw2 ly t7 t2 t9 tj => ih (g + 1) mw2 ly (by omega) t7 t2 t9 tj))
    exact ⟨2 ^ (v 13 0 + 1) + 1, L _ 0 mw0 l0 (by omega) q7 (by rw [q2]; simp [sumL]) (fun c hc => by rw [q9 c hc]; rfl) qj⟩
  have N : ∀ (k i : Nat) (mw0 : Nat → Int64) (l0 : L2), i + k = v 1 0 → mw0 2 = bLoss v s ct i → (∀ c, c < 2 ^ v 14 0 → l0 9 c = Dn v s ct i (2048 * c)) → (∀ j, j ≠ 7 → j ≠ 8 → j ≠ 9 → l0 j = ml j) → P_X12_baits_68 p1 (nI s) (nI ct) post (nI (2 ^ (v 13 0 + 1))) (nI (2 ^ v 14 0)) mt mb (k + 1) (nI i) mw0 l0 := by
    intro k
    induction k with
    | zero =>
      intro i mw0 l0 hi q2 q9 qj
      obtain rfl : i = v 1 0 := by omega
      exact ⟨fun _ => h mt mw0 mb l0 hM2 (hD9 l0 qj) q2 q9, fun c => absurd ((cmp_le e5 (by omega) (by omega)).mpr (Nat.le_refl _)) c⟩
    | succ k ih =>
      intro i mw0 l0 hi q2 q9 qj
      refine ⟨fun c => absurd ((cmp_le e5 (by omega) (by omega)).mp c) (by omega), fun _ => ?_⟩
      -- the sums are made empty
      have E9 : ∀ (lx : L2), BR v (nD v s ct (Dn v s ct i) (v 14 0)) (lx 7) → (∀ j, j ≠ 7 → j ≠ 8 → j ≠ 9 → lx j = ml j) → ∃ n, P_X12_baits_169 p1 (nI s) (nI ct) (nI (2 ^ (v 13 0 + 1))) (nI (2 ^ v 14 0)) mt mb post (fun (x6_ : Int32) (x7_ : Int32) (mw : Nat → Int64) (ml : Nat → Nat → Int64) => (∃ n : Nat, P_X12_baits_193 p1 (nI s) (nI ct) (nI (2 ^ (v 13 0 + 1))) (nI (2 ^ v 14 0)) mt mb post (P_X12_baits_68 p1 (nI s) (nI ct) post (nI (2 ^ (v 13 0 + 1))) (nI (2 ^ v 14 0)) mt mb (k + 1)) x6_ n x7_ mw ml)) (nI i) mw0 n 0 lx := by
        intro lx r7 rj
        have L : ∀ (d c : Nat) (ly : L2), c + d = 2 ^ v 14 0 → ly 7 = lx 7 → (∀ c', c' < c → ly 9 c' = 0) → (∀ j, j ≠ 7 → j ≠ 8 → j ≠ 9 → ly j = ml j) → P_X12_baits_169 p1 (nI s) (nI ct) (nI (2 ^ (v 13 0 + 1))) (nI (2 ^ v 14 0)) mt mb post (fun (x6_ : Int32) (x7_ : Int32) (mw : Nat → Int64) (ml : Nat → Nat → Int64) => (∃ n : Nat, P_X12_baits_193 p1 (nI s) (nI ct) (nI (2 ^ (v 13 0 + 1))) (nI (2 ^ v 14 0)) mt mb post (P_X12_baits_68 p1 (nI s) (nI ct) post (nI (2 ^ (v 13 0 + 1))) (nI (2 ^ v 14 0)) mt mb (k + 1)) x6_ n x7_ mw ml)) (nI i) mw0 (d + 1) (nI c) ly := by
          intro d
          induction d with
          | zero =>
            intro c ly hc t7 t9 tj
            obtain rfl : c = 2 ^ v 14 0 := by omega
            refine ⟨fun _ => ?_, fun z => absurd (nI_le (Nat.le_refl _) (by omega)) z⟩
            refine S1 i _ (nI i) _ (bLoss v s ct i) mw0 ly (by rw [t7]; exact r7) q2 t9 tj (fun mw2 lz w2 w9 wj => ?_)
            rw [nI_1]
            refine ih (i + 1) mw2 lz (by omega) (by rw [w2, bLoss_step hv.1]) (fun c hc => ?_) wj
            have hS := nD_sup (s := s) (ct := ct) h13 (Dn_sup (s := s) (ct := ct) h13 i) (v 14 0) (Nat.le_refl _)
            rw [w9 c hc, Dn, brg_at _ (by omega)]
            exact (sumL_ext hG (fun g g1 g2 => hS _ (Or.inl (by omega)))).symm
          | succ d ihd =>
            intro c ly hc t7 t9 tj
            refine ⟨fun z => absurd ((nI_leI (by omega) (by omega)).mp z) (by omega), fun _ => ⟨vp_in_nI (by omega) (by decide), ?_⟩⟩
            rw [nI_1, nI_clamp (by omega)]
            refine ihd (c + 1) _ (by omega) (by rw [up_ne (by decide)]; exact t7) (fun c' hc' => ?_) (fun j j7 j8 j9 => by rw [up_ne j9]; exact tj j j7 j8 j9)
            rw [up_at]
            by_cases e : c' = c
            · rw [e, uL_at]
            · rw [uL_ne e]; exact t9 c' (by omega)
        exact ⟨2 ^ v 14 0 + 1, L (2 ^ v 14 0) 0 lx (by omega) rfl (fun c' hc' => by omega) rj⟩
      -- the thieves
      have ET : ∀ (lx : L2), BR v (Dn v s ct i) (lx 7) → (∀ j, j ≠ 7 → j ≠ 8 → j ≠ 9 → lx j = ml j) → ∃ n, P_X12_baits_142 p1 (nI s) (nI ct) (nI (2 ^ (v 13 0 + 1))) (nI (2 ^ v 14 0)) mt mb post (fun (x6_ : Int32) (mw : Nat → Int64) (x7_ : Int32) (ml : Nat → Nat → Int64) => (∃ n : Nat, P_X12_baits_169 p1 (nI s) (nI ct) (nI (2 ^ (v 13 0 + 1))) (nI (2 ^ v 14 0)) mt mb post (fun (x6_ : Int32) (x7_ : Int32) (mw : Nat → Int64) (ml : Nat → Nat → Int64) => (∃ n : Nat, P_X12_baits_193 p1 (nI s) (nI ct) (nI (2 ^ (v 13 0 + 1))) (nI (2 ^ v 14 0)) mt mb post (P_X12_baits_68 p1 (nI s) (nI ct) post (nI (2 ^ (v 13 0 + 1))) (nI (2 ^ v 14 0)) mt mb (k + 1)) x6_ n x7_ mw ml)) x6_ mw n x7_ ml)) (nI i) mw0 n 0 lx := by
        intro lx r7 rj
        have L : ∀ (d t : Nat) (ly : L2), t + d = v 14 0 → BR v (nD v s ct (Dn v s ct i) t) (ly 7) → (∀ j, j ≠ 7 → j ≠ 8 → j ≠ 9 → ly j = ml j) → P_X12_baits_142 p1 (nI s) (nI ct) (nI (2 ^ (v 13 0 + 1))) (nI (2 ^ v 14 0)) mt mb post (fun (x6_ : Int32) (mw : Nat → Int64) (x7_ : Int32) (ml : Nat → Nat → Int64) => (∃ n : Nat, P_X12_baits_169 p1 (nI s) (nI ct) (nI (2 ^ (v 13 0 + 1))) (nI (2 ^ v 14 0)) mt mb post (fun (x6_ : Int32) (x7_ : Int32) (mw : Nat → Int64) (ml : Nat → Nat → Int64) => (∃ n : Nat, P_X12_baits_193 p1 (nI s) (nI ct) (nI (2 ^ (v 13 0 + 1))) (nI (2 ^ v 14 0)) mt mb post (P_X12_baits_68 p1 (nI s) (nI ct) post (nI (2 ^ (v 13 0 + 1))) (nI (2 ^ v 14 0)) mt mb (k + 1)) x6_ n x7_ mw ml)) x6_ mw n x7_ ml)) (nI i) mw0 (d + 1) (nI t) ly := by
          intro d
          induction d with
          | zero =>
            intro t ly ht t7 tj
            obtain rfl : t = v 14 0 := by omega
            exact ⟨fun _ => E9 ly t7 tj, fun c => absurd ((cmp_le e14 (by omega) (by omega)).mpr (Nat.le_refl _)) c⟩
          | succ d ihd =>
            intro t ly ht t7 tj
            refine ⟨fun c => absurd ((cmp_le e14 (by omega) (by omega)).mp c) (by omega), fun _ => ?_⟩
            refine m_thiefGoes (j := 0) hv.1 hv.2.1 hs hct (by omega) hM2 hL (nD_sup h13 (Dn_sup h13 i) t (by omega)) t7 (fun mk w7 wj => ?_)
            rw [nI_1]
            exact ihd (t + 1) mk (by omega) w7 (fun j j7 j8 j9 => by rw [wj j j7 j8]; exact tj j j7 j8 j9)
        exact ⟨v 14 0 + 1, L (v 14 0) 0 lx (by omega) r7 rj⟩
      -- all are there again
      have EI : ∀ (g : Nat), g < 2 ^ (v 13 0 + 1) → ∀ (R82 : Int32 → L2 → Prop) (lx : L2), lx 9 = l0 9 → (∀ j, j ≠ 7 → j ≠ 8 → j ≠ 9 → lx j = ml j) → (∀ g' c, g' < g → c < 2 ^ v 14 0 → lx 7 (64 * g' + c) = Dn v s ct i (g' + 2048 * c)) → (∀ ly : L2, ly 9 = l0 9 → (∀ j, j ≠ 7 → j ≠ 8 → j ≠ 9 → ly j = ml j) → (∀ g' c, g' < g + 1 → c < 2 ^ v 14 0 → ly 7 (64 * g' + c) = Dn v s ct i (g' + 2048 * c)) → R82 (nI (g + 1)) ly) → ∃ n, P_X12_baits_92 p1 (nI s) (nI ct) (nI (2 ^ (v 13 0 + 1))) (nI (2 ^ v 14 0)) mt mb (nI i) mw0 post R82 (nI g) n 0 lx := by
        intro g hg R82 lx r9 rj r7 kk
        have L : ∀ (d c : Nat) (ly : L2), c + d = 2 ^ v 14 0 → ly 9 = l0 9 → (∀ j, j ≠ 7 → j ≠ 8 → j ≠ 9 → ly j = ml j) → (∀ g' c, g' < g → c < 2 ^ v 14 0 → ly 7 (64 * g' + c) = Dn v s ct i (g' + 2048 * c)) → (∀ c', c' < c → ly 7 (64 * g + c') = Dn v s ct i (g + 2048 * c')) → P_X12_baits_92 p1 (nI s) (nI ct) (nI (2 ^ (v 13 0 + 1))) (nI (2 ^ v 14 0)) mt mb (nI i) mw0 post R82 (nI g) (d + 1) (nI c) ly := by
          intro d
          induction d with
          | zero =>
            intro c ly hc t9 tj t7 t7'
            obtain rfl : c = 2 ^ v 14 0 := by omega
            refine ⟨fun _ => ?_, fun z => absurd (nI_le (Nat.le_refl _) (by omega)) z⟩
            rw [nI_1]
            refine kk ly t9 tj (fun g' c hg' hc => ?_)
            by_cases e : g' = g
            · rw [e]; exact t7' c hc
            · exact t7 g' c (by omega) hc
          | succ d ihd =>
            intro c ly hc t9 tj t7 t7'
            refine ⟨fun z => absurd ((nI_leI (by omega) (by omega)).mp z) (by omega), fun _ => ?_⟩
            simp only [P_X12_state, st64]
            rw [nI_1, nI_clamp (by omega), nI_clamp (by omega), show (nI g = (0 : Int32)) = (nI g = nI 0) from rfl, nI_eq (by omega) (by decide)]
            have st : ∀ y : Int64, y = Dn v s ct i (g + 2048 * c) → P_X12_baits_92 p1 (nI s) (nI ct) (nI (2 ^ (v 13 0 + 1))) (nI (2 ^ v 14 0)) mt mb (nI i) mw0 post R82 (nI g) (d + 1) (nI (c + 1)) (va_up ly 7 (vp_updL (ly 7) (64 * g + c) y)) := by
              intro y hy
              refine ihd (c + 1) _ (by omega) (by rw [up_ne (by decide)]; exact t9) (fun j j7 j8 j9 => by rw [up_ne j7]; exact tj j j7 j8 j9) (fun g' c' hg' hc' => by rw [up_at, uL_ne (by omega)]; exact t7 g' c' hg' hc') (fun c' hc' => ?_)
              rw [up_at]
              by_cases e : c' = c
              · rw [e, uL_at, hy]
              · rw [uL_ne (by omega)]; exact t7' c' (by omega)
            refine ⟨fun z => ⟨vp_in_nI (by omega) (by decide), st 0 (Dn_g (by omega) (by omega)).symm⟩, fun z => ⟨vp_in_nI (by omega) (by decide), vp_in_nI (by omega) (by decide), st _ ?_⟩⟩
            rw [t9, q9 c (by omega), z, Nat.zero_add]
        exact ⟨2 ^ v 14 0 + 1, L (2 ^ v 14 0) 0 lx (by omega) r9 rj r7 (fun c' hc' => by omega)⟩
      have L : ∀ (d g : Nat) (lx : L2), g + d = 2 ^ (v 13 0 + 1) → lx 9 = l0 9 → (∀ j, j ≠ 7 → j ≠ 8 → j ≠ 9 → lx j = ml j) → (∀ g' c, g' < g → c < 2 ^ v 14 0 → lx 7 (64 * g' + c) = Dn v s ct i (g' + 2048 * c)) → P_X12_baits_82 p1 (nI s) (nI ct) (nI (2 ^ (v 13 0 + 1))) (nI (2 ^ v 14 0)) mt mb post (fun (x6_ : Int32) (mw : Nat → Int64) (x7_ : Int32) (ml : Nat → Nat → Int64) => (∃ n : Nat, P_X12_baits_142 p1 (nI s) (nI ct) (nI (2 ^ (v 13 0 + 1))) (nI (2 ^ v 14 0)) mt mb post (fun (x6_ : Int32) (mw : Nat → Int64) (x7_ : Int32) (ml : Nat → Nat → Int64) => (∃ n : Nat, P_X12_baits_169 p1 (nI s) (nI ct) (nI (2 ^ (v 13 0 + 1))) (nI (2 ^ v 14 0)) mt mb post (fun (x6_ : Int32) (x7_ : Int32) (mw : Nat → Int64) (ml : Nat → Nat → Int64) => (∃ n : Nat, P_X12_baits_193 p1 (nI s) (nI ct) (nI (2 ^ (v 13 0 + 1))) (nI (2 ^ v 14 0)) mt mb post (P_X12_baits_68 p1 (nI s) (nI ct) post (nI (2 ^ (v 13 0 + 1))) (nI (2 ^ v 14 0)) mt mb (k + 1)) x6_ n x7_ mw ml)) x6_ mw n x7_ ml)) x6_ mw n x7_ ml)) (nI i) mw0 (d + 1) (nI g) lx := by
        intro d
        induction d with
        | zero =>
          intro g lx hg r9 rj r7
          obtain rfl : g = 2 ^ (v 13 0 + 1) := by omega
          exact ⟨fun _ => ET lx (fun g' c h1 h2 => r7 g' c h1 h2) rj, fun z => absurd (nI_le (Nat.le_refl _) (by omega)) z⟩
        | succ d ihd =>
          intro g lx hg r9 rj r7
          refine ⟨fun z => absurd ((nI_leI (by omega) (by omega)).mp z) (by omega), fun _ => ?_⟩
          exact EI g (by omega) _ lx r9 rj r7 (fun ly t9 tj t7 => ihd (g + 1) ly (by omega) t9 tj t7)
      exact ⟨2 ^ (v 13 0 + 1) + 1, L _ 0 l0 (by omega) rfl qj (fun g' c hg' => by omega)⟩
  have L : ∀ (d c : Nat) (lx : L2), c + d = 2 ^ v 14 0 → (∀ c', c' < c → lx 9 c' = D1 (2048 * c')) → (∀ j, j ≠ 7 → j ≠ 8 → j ≠ 9 → lx j = ml j) → P_X12_baits_33 p1 (nI s) (nI ct) post (fun (x4_ : Int32) (x5_ : Int32) (ms : Nat → Int32) (ma : Nat → Nat → Int32) (x6_ : Int32) (mw : Nat → Int64) (ml : Nat → Nat → Int64) => (∃ n : Nat, P_X12_baits_68 p1 (nI s) (nI ct) post x4_ x5_ ms ma n x6_ mw ml)) (nI (2 ^ (v 13 0 + 1))) (nI (2 ^ v 14 0)) mt (va_up mw 2 0) mb (d + 1) (nI c) lx := by
    intro d
    induction d with
    | zero =>
      intro c lx hc r9 rj
      obtain rfl : c = 2 ^ v 14 0 := by omega
      refine ⟨fun _ => ⟨v 1 0 + 1, N (v 1 0) 0 _ lx (by omega) ?_ r9 rj⟩, fun z => absurd (nI_le (Nat.le_refl _) (by omega)) z⟩
      rw [up_at]
      unfold bLoss
      rw [sumL_zero (fun b _ => ?_)]
      rw [sumL_zero (fun t _ => ?_), Int64.mul_zero]
      unfold hadB
      split <;> rfl
    | succ d ih =>
      intro c lx hc r9 rj
      refine ⟨fun z => absurd ((nI_leI (by omega) (by omega)).mp z) (by omega), fun _ => ?_⟩
      rw [nI_1, nI_clamp (by omega), show (nI c = (0 : Int32)) = (nI c = nI 0) from rfl, nI_eq (by omega) (by decide)]
      have st : ∀ y : Int64, y = D1 (2048 * c) → P_X12_baits_33 p1 (nI s) (nI ct) post (fun (x4_ : Int32) (x5_ : Int32) (ms : Nat → Int32) (ma : Nat → Nat → Int32) (x6_ : Int32) (mw : Nat → Int64) (ml : Nat → Nat → Int64) => (∃ n : Nat, P_X12_baits_68 p1 (nI s) (nI ct) post x4_ x5_ ms ma n x6_ mw ml)) (nI (2 ^ (v 13 0 + 1))) (nI (2 ^ v 14 0)) mt (va_up mw 2 0) mb (d + 1) (nI (c + 1)) (va_up lx 9 (vp_updL (lx 9) c y)) := by
        intro y hy
        refine ih (c + 1) _ (by omega) (fun c' hc' => ?_) (fun j j7 j8 j9 => by rw [up_ne j9]; exact rj j j7 j8 j9)
        rw [up_at]
        by_cases e : c' = c
        · rw [e, uL_at, hy]
        · rw [uL_ne e]; exact r9 c' (by omega)
      refine ⟨fun z => ⟨vp_in_nI (by omega) (by decide), st 0 ?_⟩, fun z => ⟨vp_in_nI (by omega) (by decide), st _ ?_⟩⟩
      · unfold D1; rw [if_neg (by omega)]
      · unfold D1; rw [if_pos (by omega)]
  exact ⟨2 ^ v 14 0 + 1, L (2 ^ v 14 0) 0 ml (by omega) (fun c' hc' => by omega) (fun _ _ _ _ => rfl)⟩
/-- a bait that may stand there, or why not: both say the same -/
theorem bait_cases {v : Rl} (hC : RelC v rs ra) (hN : RelN v 0 ma) (hv : okV v) (p s ct : Int32) : (∃ r : Int32, r ≠ 0 ∧ (∀ post : Int32 → Prop, post r → P_X11_refusedBait rs ra p s ct post) ∧ ∀ post : Int32 → Prop, post r → P_X12_whyNot ma p s ct post) ∨ ∃ a b, a ≤ 9999 ∧ b ≤ 100 ∧ s = nI a ∧ ct = nI b ∧ (∀ post : Int32 → Prop, post 0 → P_X11_refusedBait rs ra p s ct post) ∧ ∀ post : Int32 → Prop, post 0 → P_X12_whyNot ma p s ct post := by
  have h0 := ok0 hv
  have h13 := ok13 hv
  rcases ixs p (n := v 0 0) (by omega) with h | ⟨q, hq, rfl⟩
  · exact Or.inl ⟨-2, by decide, fun post hp => c_hasP0 hC h (b0f hp), fun post hp => m_isP0 hN hv h (b0f hp)⟩
  · rcases ixs s (n := 10000) (by decide) with h | ⟨a, ha, rfl⟩
    · refine Or.inl ⟨-2, by decide, fun post hp => c_hasP hC hv hq (b1f ⟨fun _ => hp, fun c => ⟨fun _ => hp, fun c2 => absurd ?_ c2⟩⟩), fun post hp => m_isP hN hv hq (b1f (m_inL_bad (m := 9999) h (by decide) (b0f hp)))⟩
      have h2 := h.resolve_left c
      rw [Int32.le_iff_toInt_le, nI_toInt (by decide)] at h2
      rw [Int32.lt_iff_toInt_lt, show (9999 : Int32).toInt = 9999 from rfl]
      omega
    · have n9 : ¬ (9999 : Int32) < nI a := fun c => absurd ((nI_ltI (a := 9999) (by decide) (by omega)).mp c) (by omega)
      rcases ixs ct (n := 101) (by decide) with h | ⟨b, hb, rfl⟩
      · refine Or.inl ⟨-2, by decide, fun post hp => c_hasP hC hv hq (b1f ⟨fun c => absurd c (nI_pos (by omega)), fun _ => ⟨fun c => absurd c n9, fun _ => ⟨fun _ => hp, fun c => ⟨fun c2 => absurd c2 ?_, fun _ => hp⟩⟩⟩⟩), fun post hp => m_isP hN hv hq (b1f (m_inL_ok (m := 9999) (by omega) (by decide) (b1f (m_inL_bad (m := 100) h (by decide) (b0t hp)))))⟩
        have h2 := h.resolve_left c
        rw [Int32.le_iff_toInt_le, nI_toInt (by decide)] at h2
        rw [Int32.le_iff_toInt_le, show (100 : Int32).toInt = 100 from rfl]
        omega
      · have A : ∀ post : Int32 → Prop, ((stI v q = -1) → post 0) ∧ ((¬ stI v q = -1) → post (-5)) → P_X11_refusedBait rs ra (nI q) (nI a) (nI b) post := fun post hp => c_hasP hC hv hq (b1f ⟨fun c => absurd c (nI_pos (by omega)), fun _ => ⟨fun c => absurd c n9, fun _ => ⟨fun c => absurd c (nI_pos (by omega)), fun _ => ⟨fun _ => c_stands hC hv (by omega) ⟨fun c => hp.2 c, fun c => hp.1 c⟩, fun c => absurd (nI_le (b := 100) (by omega) (by decide)) c⟩⟩⟩⟩)
        have B : ∀ post : Int32 → Prop, ((stI v q = -1) → post 0) ∧ ((¬ stI v q = -1) → post (-5)) → P_X12_whyNot ma (nI q) (nI a) (nI b) post := fun post hp => m_isP hN hv hq (b1f (m_inL_ok (m := 9999) (by omega) (by decide) (b1f (m_inL_ok (m := 100) (by omega) (by decide) (b1t (m_stands hN hv (by omega) hp))))))
        by_cases c : stI v q = -1
        · exact Or.inr ⟨a, b, by omega, by omega, rfl, rfl, fun post hp => A post ⟨fun _ => hp, fun z => absurd c z⟩, fun post hp => B post ⟨fun _ => hp, fun z => absurd c z⟩⟩
        · exact Or.inl ⟨-5, by decide, fun post hp => A post ⟨fun z => absurd z c, fun _ => hp⟩, fun post hp => B post ⟨fun z => absurd z c, fun _ => hp⟩⟩
theorem q_bait (hI : Inv us ua rs ra ra2 sa sl ns na nl yt im ms ma ml) (mw : Nat → Int64) (p s ct : Int32) : P_X11_bait rs ra ns na nl p s ct (fun r ns' na' nl' => P_X12_bait ms mw ma ml p s ct (fun r' mt _ mb mk => r = r' ∧ Inv us ua rs ra ra2 sa sl ns' na' nl' yt im mt mb mk)) := by
  obtain ⟨v, hv, hC, hM, hP, hY, hK, hB, F⟩ := hI.get
  have fin := F ra2 ns na nl _ _ _ (MG.refl _ _ _) hM.1 hB hK
  rcases bait_cases hC hM.1 hv.1 p s ct with ⟨r, hr, h1, h2⟩ | ⟨a, b, ha, hb, rfl, rfl, h1, h2⟩
  · exact h1 _ ⟨fun c => absurd c hr, fun _ => h2 _ ⟨fun c => absurd c hr, fun _ => ⟨rfl, fin⟩⟩⟩
  · refine h1 _ ⟨fun _ => c_playBaited hC hv.1 hK ha hb (fun ns' na' nl' hBt => c_baitedLoss hC hv.1 hBt.2.2.2.2 ?_), fun c => absurd rfl c⟩
    refine h2 _ ⟨fun _ => m_baits hv hM _ ha hb (fun mt mw' mb mk hM' hG h2 _ => ?_), fun c => absurd rfl c⟩
    rw [h2]
    exact ⟨rfl, F _ _ _ _ _ _ _ hG hM'.1 hB hBt.2.1⟩
theorem q_caught (hI : Inv us ua rs ra ra2 sa sl ns na nl yt im ms ma ml) (mw : Nat → Int64) (t p s ct : Int32) : P_X11_caught rs ra ns na nl t p s ct (fun r ns' na' nl' => P_X12_caught ms mw ma ml t p s ct (fun r' mt _ mb mk => r = r' ∧ Inv us ua rs ra ra2 sa sl ns' na' nl' yt im mt mb mk)) := by
  obtain ⟨v, hv, hC, hM, hP, hY, hK, hB, F⟩ := hI.get
  have h13 := ok13 hv.1
  have h14 := ok14 hv.1
  have hCl := C_le h14
  have fin := F ra2 ns na nl _ _ _ (MG.refl _ _ _) hM.1 hB hK
  rcases ixs t (n := v 14 0) (by omega) with h | ⟨k, hk, rfl⟩
  · exact c_hasT0 hC h (b0f ⟨fun c => absurd c (by decide), fun _ => m_isT0 hM.2.1 hv.1 h (b0t ⟨rfl, fin⟩)⟩)
  · rcases bait_cases hC hM.1 hv.1 p s ct with ⟨r, hr, h1, h2⟩ | ⟨a, b, ha, hb, rfl, rfl, h1, h2⟩
    · exact c_hasT hC hv.1 hk (b1f (h1 _ ⟨fun c => absurd c hr, fun _ => m_isT hM.2.1 hv.1 hk (b1t (h2 _ ⟨fun c => absurd c hr, fun _ => ⟨rfl, fin⟩⟩))⟩))
    · refine c_hasT hC hv.1 hk (b1f (h1 _ ⟨fun _ => c_playBaited hC hv.1 hK ha hb (fun ns' na' nl' hBt => ?_), fun c => absurd rfl c⟩))
      obtain ⟨⟨E, hE, -⟩, hK', -, -, -⟩ := hBt
      refine c_partsCaught hE (by omega) ?_
      refine m_isT hM.2.1 hv.1 hk (b1t (h2 _ ⟨fun _ => m_baits hv hM _ ha hb (fun mt mw' mb mk hM' hG _ h9 => ?_), fun c => absurd rfl c⟩))
      have e14 : mb 12 0 = nI (v 14 0) := hM'.2.1.1
      have fin2 := F ra2 ns' na' nl' mt mb mk hG hM'.1 hB hK'
      have hsum : sumL (fun q => if q.testBit (11 + k) then Dn v a b (v 1 0) q else 0) N17 = sumL (fun c => if c.testBit k then Dn v a b (v 1 0) (2048 * c) else 0) (2 ^ v 14 0) := by
        rw [sumL_17, sumL_ext hCl (fun c h1 h2 => sumL_zero (fun g hg => by rw [Dn_sup h13 _ _ (Or.inr (by omega))]; simp))]
        refine sumL_cong (fun c _ => ?_)
        rw [sumL_one (i := 0) (by decide) (fun g hg hne => by rw [Dn_g (by omega) hg]; simp), en_tb (by decide)]
        simp
      have L : ∀ d i, i + d = 2 ^ v 14 0 → P_X12_caught_50 (nI k) p (nI a) (nI b) (fun r' mt _ mb mk => sumL (fun q => if q.testBit (11 + k) then Dn v a b (v 1 0) q else 0) N17 = r' ∧ Inv us ua rs ra ra2 sa sl ns' na' nl' yt im mt mb mk) mt mw' mb mk (d + 1) (sumL (fun c => if c.testBit k then Dn v a b (v 1 0) (2048 * c) else 0) i) (nI i) := by
        intro d
        induction d with
        | zero =>
          intro i hi
          obtain rfl : i = 2 ^ v 14 0 := by omega
          unfold P_X12_caught_50 P_X12_caught_50_b
          rw [e14, sh1 (by omega)]
          exact ⟨fun _ => ⟨hsum, fin2⟩, fun z => absurd (nI_le (Nat.le_refl _) (by omega)) z⟩
        | succ d ih =>
          intro i hi
          have go := ih (i + 1) (by omega)
          rw [sumL] at go
          unfold P_X12_caught_50 P_X12_caught_50_b
          rw [e14, sh1 (by omega), bit_o (by omega) (by omega), nI_clamp (by omega), nI_1, h9 i (by omega)]
          refine ⟨fun z => absurd ((nI_leI (by omega) (by omega)).mp z) (by omega), fun _ => ⟨fun c x hx => ?_, fun c => ⟨vp_in_nI (by omega) (by decide), fun x hx => ?_⟩⟩⟩
          · rw [if_neg c] at go
            rw [hx]; exact go
          · rw [if_pos c] at go
            rw [hx]; exact go
      exact ⟨2 ^ v 14 0 + 1, L (2 ^ v 14 0) 0 (by omega)⟩
end BB
end
section
/-! promises 39 and 40: the law on locks -/
def vl (v : Rl) (l : Nat) : Nat → Rl
  | 0 => v
  | n + 1 => vo (vl v l n) n (2 * max (v 23 n) l + v 24 n)
theorem vl_so (v : Rl) (l : Nat) : ∀ n, n ≤ v 13 0 → SO (vl v l n) v
  | 0, _ => SO.refl v
  | n + 1, h => (vl_so v l n (by omega)).vo (by omega) _
theorem vl_at (v : Rl) (l : Nat) : ∀ n b, n ≤ b → vl v l n 23 b = v 23 b ∧ vl v l n 24 b = v 24 b
  | 0, _, _ => ⟨rfl, rfl⟩
  | n + 1, b, h => by
    rw [vl, vo_23, vo_24, if_neg (by omega), if_neg (by omega)]
    exact vl_at v l n b (by omega)
theorem vl_ok {v : Rl} (hv : okR v) {l : Nat} (hl : l ≤ v 12 0) : ∀ n, n ≤ v 13 0 → okR (vl v l n)
  | 0, _ => hv
  | n + 1, h => by
    have h1 := (vl_so v l n (by omega)).m
    obtain ⟨-, -, -, b23, b24⟩ := hv.1.2.2.2.2.1 n (by omega)
    exact (vl_ok hv hl n (by omega)).vo (by rw [h1]; omega)
theorem pre_lt {a b : Nat} (ha : a < 2 ^ 30) (hb : b < 2 ^ 30) : nI a - 1 < nI b - 1 ↔ a < b := by
  rw [Int32.lt_iff_toInt_lt, show (1 : Int32) = nI 1 from rfl, nS ha (by decide), nS hb (by decide)]
  omega
theorem pre_le {a b : Nat} (ha : a < 2 ^ 30) (hb : b < 2 ^ 30) : nI a - 1 ≤ nI b - 1 ↔ a ≤ b := by
  rw [Int32.le_iff_toInt_le, show (1 : Int32) = nI 1 from rfl, nS ha (by decide), nS hb (by decide)]
  omega
theorem upd_id {f : Nat → Int32} {k : Nat} {x : Int32} (h : x = f k) : upd f k x = f := by
  funext i
  by_cases c : i = k
  · rw [c, u_at, h]
  · rw [u_ne c]
theorem vup_id {α : Type} {f : Nat → α} {k : Nat} {x : α} (h : x = f k) : va_up f k x = f := by
  funext i
  by_cases c : i = k
  · rw [c, up_at, h]
  · rw [up_ne c]
theorem m_at0 {b : Nat} {post : Int32 → Prop} (h : post (nI (5 * (10 * 0 + b)))) : P_X12_at 0 (nI b) post := by
  show post ((5 : Int32) * ((10 : Int32) * nI 0 + nI b))
  rw [show (5 : Int32) * ((10 : Int32) * nI 0 + nI b) = nI (5 * (10 * 0 + b)) by simp only [fa_lit, pk_mul, nI_add]]
  exact h
section LW
variable {us : A1} {ua : A2} {rs : A1} {ra ra2 sa : A2} {sl : L2} {ns : A1} {na : A2} {nl : L2} {yt : Int32} {im : Img} {ms : A1} {ma : A2} {ml : L2}
def fL (v : Rl) (l : Nat) : Int64 := allL (vl v l (v 13 0)) 2
theorem c_costByLaw {v : Rl} (hv : okR v) (hC : RelC v rs ra) (hK : NOK ns na nl) (rs2 : A1) (ra2 : A2) {l : Nat} (hl : l ≤ v 12 0) {post : Int64 → A1 → A2 → A1 → A2 → L2 → Prop} (h : ∀ rs' ra' ns' na' nl', BOK ra' → NOK ns' na' nl' → post (fL v l) rs' ra' ns' na' nl') : P_X11_costByLaw rs ra rs2 ra2 ns na nl (nI l - 1) post := by
  have h13 := ok13 hv.1
  have h12 := ok12 hv.1
  refine c_copyFrom hC hv.1 (fun rs' ra' hC1 hB1 _ => ?_)
  have L : ∀ (k i : Nat) (rx : A2), i + k = v 13 0 → RelC (vl v l i) rs' rx → P_X11_costByLaw_13 rs ra (nI l - 1) post (fun (rs2 : Nat → Int32) (ra2 : Nat → Nat → Int32) (ns : Nat → Int32) (na : Nat → Nat → Int32) (nl : Nat → Nat → Int64) => P_X11_costByLaw_61 rs ra (nI l - 1) post rs2 ra2 ns na nl) rs' ns na nl (k + 1) (nI i) rx := by
    intro k
    induction k with
    | zero =>
      intro i rx hi q1
      obtain rfl : i = v 13 0 := by omega
      have hg := vl_ok hv hl (v 13 0) (Nat.le_refl _)
      exact ⟨fun _ => c_allOn (w := 2) q1 hg.1 hK (by decide) (fun n4 a4 l4 hK4 => h _ _ _ _ _ q1.bok hK4), fun c => absurd ((cmp_le (rc_s hC1 13) (by omega) (by omega)).mpr (Nat.le_refl _)) c⟩
    | succ k ih =>
      intro i rx hi q1
      obtain ⟨-, -, -, b23, b24⟩ := hv.1.2.2.2.2.1 i (by omega)
      refine ⟨fun c => absurd ((cmp_le (rc_s hC1 13) (by omega) (by omega)).mp c) (by omega), fun _ => ⟨vp_in_nI (by omega) (by decide), vp_in_nI (by omega) (by decide), ?_⟩⟩
      obtain ⟨a1, a2⟩ := vl_at v l i i (Nat.le_refl _)
      obtain ⟨-, -, -, e7, e8⟩ := q1.2.2.2.2.1 i (by rw [(vl_so v l i (by omega)).n]; omega)
      rw [nI_1, nI_clamp (by omega)]
      refine ih (i + 1) _ (by omega) ?_
      have R := q1.vo (b := i) (o := 2 * max (v 23 i) l + v 24 i) (by omega) rfl rfl
      rw [a1] at e7
      rw [a2] at e8
      have z1 : (2 * max (v 23 i) l + v 24 i) / 2 = max (v 23 i) l := by omega
      have z2 : (2 * max (v 23 i) l + v 24 i) % 2 = v 24 i := by omega
      rw [z1, z2, upd_id (f := rx 8) (k := i) e8.symm, vup_id (f := va_up rx 7 (upd (rx 7) i (nI (max (v 23 i) l) - 1))) (k := 8) (by rw [up_ne (by decide)])] at R
      have z3 : (if rx 7 i < nI l - 1 then nI l - 1 else rx 7 i) = nI (max (v 23 i) l) - 1 := by
        rw [e7]
        by_cases q : v 23 i < l
        · rw [if_pos ((pre_lt (by omega) (by omega)).mpr q), show max (v 23 i) l = l by omega]
        · rw [if_neg (fun w => q ((pre_lt (by omega) (by omega)).mp w)), show max (v 23 i) l = v 23 i by omega]
      rw [z3]
      exact R
  exact ⟨v 13 0 + 1, L (v 13 0) 0 ra' (by omega) hC1⟩
theorem m_byLaw {v : Rl} (hv : okR v) (hM : RM v 0 ms ma) {l : Nat} (hl : l ≤ v 12 0) {post : Int64 → A1 → A2 → L2 → Prop} (h : ∀ mt mb mk, RM v 0 mt mb → MG ms ma ml mt mb mk → post (fL v l) mt mb mk) : P_X12_byLaw ms ma ml (nI l - 1) post := by
  have h13 := ok13 hv.1
  have h12 := ok12 hv.1
  refine m_laysAside hv.1 hM (fun mb h1 h2 => ?_)
  have L : ∀ (k i : Nat) (mx : A2), i + k = v 13 0 → RM (vl v l i) 0 ms mx → MG ms ma ml ms mx ml → mx 20 = mb 20 → P_X12_byLaw_6 (nI l - 1) post (fun (ms : Nat → Int32) (ma : Nat → Nat → Int32) (ml : Nat → Nat → Int64) => P_X12_byLaw_51 (nI l - 1) post ms ma ml) ms ml (k + 1) (nI i) mx := by
    intro k
    induction k with
    | zero =>
      intro i mx hi q1 q2 q3
      obtain rfl : i = v 13 0 := by omega
      have hg := vl_ok hv hl (v 13 0) (Nat.le_refl _)
      have hS := vl_so v l (v 13 0) (Nat.le_refl _)
      refine ⟨fun _ => m_allNow (w := 2) hg.1 hg.2.1 q1 (by decide) (fun mt2 mc2 mk2 hF => ?_), fun c => absurd ((cmp_le (q1.1.1.2.2.2.2.trans (by rw [hS.n])) (by omega) (by omega)).mpr (Nat.le_refl _)) c⟩
      refine m_takesBack hv.1 hS (hF.rm q1) (fun b hb => by rw [hF.2.1 20 (by decide) (by decide), q3]; exact h2 b hb) (fun md hMd hGd => ?_)
      exact h mt2 md mk2 hMd ((q2.trans hF.g).trans (hGd _ _))
    | succ k ih =>
      intro i mx hi q1 q2 q3
      obtain ⟨-, -, -, b23, b24⟩ := hv.1.2.2.2.2.1 i (by omega)
      obtain ⟨a1, a2⟩ := vl_at v l i i (Nat.le_refl _)
      have hS := vl_so v l i (by omega)
      obtain ⟨-, -, -, e3, e4⟩ := q1.1.2.2.2.1 i (by rw [hS.n]; omega)
      rw [a1] at e3
      rw [a2] at e4
      refine ⟨fun c => absurd ((cmp_le (q1.1.1.2.2.2.2.trans (by rw [hS.n])) (by omega) (by omega)).mp c) (by omega), fun _ => m_at0 ?_⟩
      rw [show nI (5 * (10 * 0 + i)) + 3 = nI (5 * (10 * 0 + i) + 3) from nI_add _ _, nI_clamp (by omega), e3, pre_le (by omega) (by omega), nI_1]
      refine ⟨vp_in_nI (by omega) (by decide), fun c => ?_, fun c => m_at0 ?_⟩
      · refine ih (i + 1) mx (by omega) ?_ q2 q3
        rw [vl, show max (v 23 i) l = v 23 i by omega, show 2 * v 23 i + v 24 i = opt (vl v l i) i by unfold opt; rw [a1, a2], vo_opt (by rw [a2]; exact b24)]
        exact q1
      · rw [show nI (5 * (10 * 0 + i)) + 3 = nI (5 * (10 * 0 + i) + 3) from nI_add _ _, nI_clamp (by omega)]
        refine ⟨vp_in_nI (by omega) (by decide), ?_⟩
        have S := m_hasOption (ma := mx) q1.1 (b := i) (o := 2 * max (v 23 i) l + v 24 i) (by omega) (by omega) (post := fun mb => RelN (vo (vl v l i) i (2 * max (v 23 i) l + v 24 i)) 0 mb) (fun mb g1 _ _ => g1)
        have S2 : RelN (vo (vl v l i) i (2 * max (v 23 i) l + v 24 i)) 0 (va_up mx 11 (upd (upd (mx 11) (((5 : Int32) * ((10 : Int32) * nI 0 + nI i) + 3).toNatClampNeg) ((nI (2 * max (v 23 i) l + v 24 i) / 2) - 1)) (((5 : Int32) * ((10 : Int32) * nI 0 + nI i) + 4).toNatClampNeg) (nI (2 * max (v 23 i) l + v 24 i) - nI (2 * max (v 23 i) l + v 24 i) / 2 * 2))) := S.2.2
        rw [show (5 : Int32) * ((10 : Int32) * nI 0 + nI i) + 3 = nI (5 * (10 * 0 + i) + 3) from ix5 0 i 3, show (5 : Int32) * ((10 : Int32) * nI 0 + nI i) + 4 = nI (5 * (10 * 0 + i) + 4) from ix5 0 i 4, nI_clamp (by omega), nI_clamp (by omega), show (2 : Int32) = nI 2 from rfl, pk_rem (by omega) (by decide) (by decide), pk_div (by omega) (by decide) (by decide), show (2 * max (v 23 i) l + v 24 i) / 2 = l by omega, show (2 * max (v 23 i) l + v 24 i) % 2 = v 24 i by omega, upd_id (k := 5 * (10 * 0 + i) + 4) (by rw [u_ne (by omega)]; exact e4.symm)] at S2
        refine ih (i + 1) _ (by omega) ⟨S2, (q1.2.1.vo i _).eq (up_ne (by decide)) (up_ne (by decide)), ?_⟩ (q2.trans ⟨fun _ _ _ _ => rfl, fun j _ h11 _ _ => up_ne h11, fun x hx => by rw [up_at, u_ne (by omega)], fun x _ => by rw [up_ne (by decide)], rfl⟩) ((up_ne (by decide)).trans q3)
        have := q1.2.2.vo i (2 * max (v 23 i) l + v 24 i)
        unfold LX at this ⊢
        rw [up_ne (by decide), up_ne (by decide)]
        exact this
  exact ⟨v 13 0 + 1, L (v 13 0) 0 mb (by omega) (hM.fr (fun i _ _ => h1 i (by omega)) rfl rfl) (MG.of20 h1) rfl⟩
theorem fL_top {v : Rl} (hv : okR v) {l : Nat} (hl : l ≤ v 12 0) : fL v l < 9223372036854775807 := by
  have := all_rng (vl_ok hv hl (v 13 0) (Nat.le_refl _)).1 2
  exact lt_top (by unfold fL; omega)
theorem q_law (hI : Inv us ua rs ra ra2 sa sl ns na nl yt im ms ma ml) (rs2 : A1) (p : Int32) : P_X11_law rs ra rs2 ra2 ns na nl p (fun r _ ra2' ns' na' nl' => P_X12_law ms ma ml p (fun r' mt mb mk => r = r' ∧ Inv us ua rs ra ra2' sa sl ns' na' nl' yt im mt mb mk)) := by
  obtain ⟨v, hv, hC, hM, hP, hY, hK, hB, F⟩ := hI.get
  have h12 := ok12 hv.1
  have fin := F ra2 ns na nl _ _ _ (MG.refl _ _ _) hM.1 hB hK
  have e8 : ma 8 0 = nI (v 12 0) := hM.1.1.2.2.2.1
  rcases Nat.eq_zero_or_pos (v 2 0) with z | z
  · exact c_told0 hC z (b0f (m_rail0 hM.1 hv.1 z (b0f ⟨rfl, fin⟩)))
  · have A : ∀ l, l ≤ v 12 0 → P_X11_law_30 rs ra (nI l - 1) (fun r _ ra2' ns' na' nl' => P_X12_law ms ma ml (nI l - 1) (fun r' mt mb mk => r = r' ∧ Inv us ua rs ra ra2' sa sl ns' na' nl' yt im mt mb mk)) rs2 ra2 ns na nl := by
      intro l hl
      refine c_costByLaw hv hC hK rs2 ra2 hl (fun rs' ra' ns' na' nl' hB' hK' => m_rail hM.1 hv.1 z (b1f ?_))
      unfold P_X12_in
      rw [e8]
      have n1 : ¬ (nI l - 1).toInt64 < (-1 : Int64) := by
        rw [show (-1 : Int64) = (-1 : Int32).toInt64 from rfl, fa_wide_lt, Int32.lt_iff_toInt_lt, show (1 : Int32) = nI 1 from rfl, nS (by omega) (by decide), show (-(nI 1)).toInt = -1 from rfl]
        omega
      have n2 : ¬ (nI (v 12 0) - 1).toInt64 < (nI l - 1).toInt64 := by
        rw [fa_wide_lt, pre_lt (by omega) (by omega)]
        omega
      refine ⟨fun c => absurd c n1, fun _ => ⟨fun c => absurd c n2, fun _ => b1f (m_byLaw hv hM hl (fun mt mb mk hM' hG => ⟨rfl, F _ _ _ _ _ _ _ hG hM'.1 hB' hK'⟩))⟩⟩
    refine c_told hC hv.1 z (b1f ⟨fun c => ?_, fun c => ?_⟩)
    · have := A 0 (Nat.zero_le _)
      rw [show nI 0 - 1 = (-1 : Int32) from rfl] at this
      rw [c]
      exact this
    · rcases ixs p (n := v 12 0) (by omega) with h | ⟨l, hl, rfl⟩
      · refine c_hasL0 hC h (b0t (m_rail hM.1 hv.1 z (b1f ?_)))
        unfold P_X12_in
        rw [e8]
        refine ⟨fun _ => b0f ⟨rfl, fin⟩, fun c1 => ⟨fun _ => b0f ⟨rfl, fin⟩, fun c2 => ?_⟩⟩
        exfalso
        rw [show (-1 : Int64) = (-1 : Int32).toInt64 from rfl, fa_wide_lt, Int32.lt_iff_toInt_lt, show ((-1 : Int32)).toInt = -1 from rfl] at c1
        rw [fa_wide_lt, Int32.lt_iff_toInt_lt, show (1 : Int32) = nI 1 from rfl, nS (by omega) (by decide)] at c2
        have c3 : p.toInt ≠ -1 := fun q => c (Int32.toInt_inj.mp q)
        rcases h with h | h
        · rw [Int32.lt_iff_toInt_lt, show (0 : Int32).toInt = 0 from rfl] at h
          omega
        · rw [Int32.le_iff_toInt_le, nI_toInt (by omega)] at h
          omega
      · have := A (l + 1) (by omega)
        rw [nI_pre (by omega), show l + 1 - 1 = l by omega] at this
        exact c_hasL hC hv.1 hl (b1t this)
theorem q_laws (hI : Inv us ua rs ra ra2 sa sl ns na nl yt im ms ma ml) (rs2 : A1) : P_X11_laws rs ra rs2 ra2 ns na nl (fun r _ ra2' ns' na' nl' => P_X12_laws ms ma ml (fun r' mt mb mk => r = r' ∧ Inv us ua rs ra ra2' sa sl ns' na' nl' yt im mt mb mk)) := by
  obtain ⟨v, hv, hC, hM, hP, hY, hK, hB, F⟩ := hI.get
  have h12 := ok12 hv.1
  have fin := F ra2 ns na nl _ _ _ (MG.refl _ _ _) hM.1 hB hK
  rcases Nat.eq_zero_or_pos (v 2 0) with z | z
  · exact c_told0 hC z (b0t (m_rail0 hM.1 hv.1 z (b0t ⟨rfl, fin⟩)))
  · have M : ∀ (ra3 : A2) (ns' : A1) (na' : A2) (nl' : L2), BOK ra3 → NOK ns' na' nl' → P_X12_laws ms ma ml (fun r' mt mb mk => nI (am (fL v) (v 12 0)).1 - 1 = r' ∧ Inv us ua rs ra ra3 sa sl ns' na' nl' yt im mt mb mk) := by
      intro ra3 ns' na' nl' hB3 hK3
      have L : ∀ (k i : Nat) (mt : A1) (mb : A2) (mk : L2), i + k = v 12 0 → RM v 0 mt mb → MG (va_up ms 0 0) ma ml mt mb mk → P_X12_laws_26 (fun r' mt mb mk => nI (am (fL v) (v 12 0)).1 - 1 = r' ∧ Inv us ua rs ra ra3 sa sl ns' na' nl' yt im mt mb mk) (k + 1) (nI (am (fL v) i).1 - 1) (am (fL v) i).2 (nI i) mt mb mk := by
        intro k
        induction k with
        | zero =>
          intro i mt mb mk hi r1 r2
          obtain rfl : i = v 12 0 := by omega
          exact ⟨fun _ => ⟨rfl, F _ _ _ _ _ _ _ r2 r1.1 hB3 hK3⟩, fun c => absurd ((cmp_le r1.1.1.2.2.2.1 (by omega) (by omega)).mpr (Nat.le_refl _)) c⟩
        | succ k ih =>
          intro i mt mb mk hi r1 r2
          refine ⟨fun c => absurd ((cmp_le r1.1.1.2.2.2.1 (by omega) (by omega)).mp c) (by omega), fun _ => ?_⟩
          rw [show nI i = nI (i + 1) - 1 by rw [nI_pre (by omega)]; rfl]
          refine m_byLaw hv r1 (by omega) (fun m2 a2 l2 hM' hG => ?_)
          have go := ih (i + 1) m2 a2 l2 (by omega) hM' (r2.trans hG)
          rw [Int32.sub_add_cancel]
          refine ⟨fun c => ?_, fun c => ?_⟩
          · rw [am, if_pos c] at go
            exact go
          · rw [am, if_neg c] at go
            exact go
      refine m_rail hM.1 hv.1 z (b1t ?_)
      have := m_byLaw (ml := ml) hv hM (l := 0) (Nat.zero_le _) (post := fun r12 ms_9 ma_10 ml_11 => ∃ n : Nat, P_X12_laws_26 (fun r' mt mb mk => nI (am (fL v) (v 12 0)).1 - 1 = r' ∧ Inv us ua rs ra ra3 sa sl ns' na' nl' yt im mt mb mk) n (-1) r12 0 ms_9 ma_10 ml_11) (fun m2 a2 l2 hM' hG => ⟨v 12 0 + 1, L (v 12 0) 0 m2 a2 l2 (by omega) hM' hG⟩)
      exact this
    have L : ∀ (k i : Nat) (rx : A1) (ry : A2) (nx : A1) (ax : A2) (lx : L2), i + k = v 12 0 → BOK ry → NOK nx ax lx → P_X11_laws_22 rs ra (fun r _ ra2' ns' na' nl' => P_X12_laws ms ma ml (fun r' mt mb mk => r = r' ∧ Inv us ua rs ra ra2' sa sl ns' na' nl' yt im mt mb mk)) (k + 1) (nI (am (fL v) i).1 - 1) (am (fL v) i).2 (nI i) rx ry nx ax lx := by
      intro k
      induction k with
      | zero =>
        intro i rx ry nx ax lx hi r1 r2
        obtain rfl : i = v 12 0 := by omega
        exact ⟨fun _ => M _ _ _ _ r1 r2, fun c => absurd ((cmp_le (rc_s hC 12) (by omega) (by omega)).mpr (Nat.le_refl _)) c⟩
      | succ k ih =>
        intro i rx ry nx ax lx hi r1 r2
        refine ⟨fun c => absurd ((cmp_le (rc_s hC 12) (by omega) (by omega)).mp c) (by omega), fun _ => ?_⟩
        rw [show nI i = nI (i + 1) - 1 by rw [nI_pre (by omega)]; rfl]
        refine c_costByLaw hv hC r2 rx ry (by omega) (fun rs' ra' ns' na' nl' hB' hK' => ?_)
        have go := ih (i + 1) rs' ra' ns' na' nl' (by omega) hB' hK'
        rw [Int32.sub_add_cancel]
        refine ⟨fun c => ?_, fun c => ?_⟩
        · rw [am, if_neg (Int64.not_lt.mpr c)] at go
          exact go
        · rw [am, if_pos (Int64.not_le.mp c)] at go
          exact go
    refine c_told hC hv.1 z (b1t ⟨v 12 0 + 2, ?_⟩)
    refine ⟨fun c => ?_, fun _ => ?_⟩
    · exfalso
      rw [rc_s hC 12, Int32.le_iff_toInt_le, nI_toInt (by omega), show ((-1 : Int32)).toInt = -1 from rfl] at c
      omega
    · have := c_costByLaw (post := fun (r8 : Int64) (rs_3 : Nat → Int32) (ra_4 : Nat → Nat → Int32) (ns_5 : Nat → Int32) (na_6 : Nat → Nat → Int32) (nl_7 : Nat → Nat → Int64) => (((9223372036854775807 ≤ r8) → P_X11_laws_22 rs ra (fun r _ ra2' ns' na' nl' => P_X12_laws ms ma ml (fun r' mt mb mk => r = r' ∧ Inv us ua rs ra ra2' sa sl ns' na' nl' yt im mt mb mk)) (v 12 0 + 1) (-1) 9223372036854775807 (-1 + 1) rs_3 ra_4 ns_5 na_6 nl_7) ∧ ((¬ 9223372036854775807 ≤ r8) → P_X11_laws_22 rs ra (fun r _ ra2' ns' na' nl' => P_X12_laws ms ma ml (fun r' mt mb mk => r = r' ∧ Inv us ua rs ra ra2' sa sl ns' na' nl' yt im mt mb mk)) (v 12 0 + 1) (-1) r8 (-1 + 1) rs_3 ra_4 ns_5 na_6 nl_7))) hv hC hK rs2 ra2 (l := 0) (Nat.zero_le _) (fun rs' ra' ns' na' nl' hB' hK' => ⟨fun c => absurd (fL_top hv (Nat.zero_le _)) (Int64.not_lt.mpr c), fun _ => L (v 12 0) 0 rs' ra' ns' na' nl' (by omega) hB' hK'⟩)
      exact this
end LW
end
section
/-! promises 37 and 38: the cover -/
def fC (v : Rl) (b : Nat) (p q : Int32) (o : Nat) : Int64 := ((1000 * p.toInt64) + lN (paidZ (vo v b o) b)) + (((100 - q).toInt64 * lossL (vo v b o) b) / 100)
def cO (v : Rl) (b : Nat) (p q : Int32) : Nat → Option (Nat × Int64)
  | 0 => none
  | k + 1 => mn (cO v b p q k) k (fC v b p q k)
theorem cO_at (v : Rl) (b : Nat) (p q : Int32) : ∀ k s, cO v b p q k = some s → s.1 < k ∧ s.2 = fC v b p q s.1
  | 0, s, h => by simp [cO] at h
  | k + 1, s, h => by
    unfold cO mn at h
    cases hs : cO v b p q k with
    | none =>
      rw [hs] at h
      simp at h
      subst h
      exact ⟨Nat.lt_succ_self _, rfl⟩
    | some r =>
      rw [hs] at h
      simp only at h
      split at h
      · simp at h
        subst h
        exact ⟨Nat.lt_succ_self _, rfl⟩
      · simp at h
        subst h
        have := cO_at v b p q k r hs
        exact ⟨by omega, this.2⟩
theorem cO_some (v : Rl) (b : Nat) (p q : Int32) (k : Nat) : ∃ s, cO v b p q (k + 1) = some s := by
  unfold cO mn
  split
  · exact ⟨_, rfl⟩
  · split <;> exact ⟨_, rfl⟩
theorem div100_rng (x : Int64) : (x / 100).toInt ≤ 92233720368547759 ∧ -92233720368547759 ≤ (x / 100).toInt := by
  have h1 := fb_rngL x
  rw [Int64.toInt_div, show (100 : Int64).toInt = 100 from rfl]
  have h2 : x.toInt.tdiv 100 ≤ 92233720368547759 ∧ -92233720368547759 ≤ x.toInt.tdiv 100 := by
    rcases Int.lt_or_le x.toInt 0 with c | c
    · obtain ⟨y, hy⟩ : ∃ y : Int, x.toInt = -y := ⟨-x.toInt, by omega⟩
      rw [hy, Int.neg_tdiv, Int.tdiv_eq_ediv_of_nonneg (by omega)]
      omega
    · rw [Int.tdiv_eq_ediv_of_nonneg c]
      omega
  rw [fb_bmodL (by omega) (by omega)]
  exact h2
theorem fC_top {v : Rl} (hv : okR v) {b : Nat} (hb : b < v 13 0) {a : Nat} (ha : a ≤ 9999) (q : Int32) {o : Nat} (ho : o < nO v) : fC v b (nI a) q o < 9223372036854775807 := by
  have h1 := hv.vo (b := b) (o := o) ho
  have h2 := paid_le h1.1 (b := b) (by rw [vo_f (by decide) (by decide)]; exact hb)
  unfold fC
  have h3 := div100_rng ((100 - q).toInt64 * lossL (vo v b o) b)
  generalize ((100 - q).toInt64 * lossL (vo v b o) b) / 100 = x at h3
  rw [nI_l (by omega), show (1000 : Int64) = lN 1000 from rfl, lN_mul, lN_add, Int64.lt_iff_toInt_lt]
  have e : (lN (1000 * a + paidZ (vo v b o) b)).toInt = ((1000 * a + paidZ (vo v b o) b : Nat) : Int) := pk_lT (by omega)
  rw [fb_addL (by rw [e]; omega) (by rw [e]; omega), e, show (9223372036854775807 : Int64).toInt = 9223372036854775807 from rfl]
  omega
section CV
variable {us : A1} {ua : A2} {rs : A1} {ra ra2 sa : A2} {sl : L2} {ns : A1} {na : A2} {nl : L2} {yt : Int32} {im : Img} {ms : A1} {ma : A2} {ml : L2}
theorem cover_cases {v : Rl} (hC : RelC v rs ra) (hN : RelN v 0 ma) (hv : okV v) (p s c : Int32) : ((∀ post : Int32 → Prop, post 0 → P_X11_isCover rs p s c post) ∧ ∀ post : Int32 → Prop, post 0 → P_X12_isCover ma p s c post) ∨ ∃ b a d, b < v 13 0 ∧ a ≤ 9999 ∧ d ≤ 100 ∧ p = nI b ∧ s = nI a ∧ c = nI d ∧ (∀ post : Int32 → Prop, post 1 → P_X11_isCover rs p s c post) ∧ ∀ post : Int32 → Prop, post 1 → P_X12_isCover ma p s c post := by
  have h13 := ok13 hv
  rcases ixs p (n := v 13 0) (by omega) with h | ⟨b, hb, rfl⟩
  · exact Or.inl ⟨fun post hp => c_hasB0 hC h (b0f hp), fun post hp => m_isB0 hN hv h (b0f hp)⟩
  · rcases ixs s (n := 10000) (by decide) with h | ⟨a, ha, rfl⟩
    · refine Or.inl ⟨fun post hp => c_hasB hC hv hb (b1f ⟨fun _ => hp, fun c => ⟨fun _ => hp, fun c2 => absurd ?_ c2⟩⟩), fun post hp => m_isB hN hv hb (b1f (m_inL_bad (m := 9999) h (by decide) (b0f hp)))⟩
      have h2 := h.resolve_left c
      rw [Int32.le_iff_toInt_le, nI_toInt (by decide)] at h2
      rw [Int32.lt_iff_toInt_lt, show (9999 : Int32).toInt = 9999 from rfl]
      omega
    · have n9 : ¬ (9999 : Int32) < nI a := fun c => absurd ((nI_ltI (a := 9999) (by decide) (by omega)).mp c) (by omega)
      rcases ixs c (n := 101) (by decide) with h | ⟨d, hd, rfl⟩
      · refine Or.inl ⟨fun post hp => c_hasB hC hv hb (b1f ⟨fun c => absurd c (nI_pos (by omega)), fun _ => ⟨fun c => absurd c n9, fun _ => ⟨fun _ => hp, fun c => ⟨fun _ => hp, fun c2 => absurd ?_ c2⟩⟩⟩⟩), fun post hp => m_isB hN hv hb (b1f (m_inL_ok (m := 9999) (by omega) (by decide) (b1f (m_inL_bad (m := 100) h (by decide) (b0f hp)))))⟩
        have h2 := h.resolve_left c
        rw [Int32.le_iff_toInt_le, nI_toInt (by decide)] at h2
        rw [Int32.lt_iff_toInt_lt, show (100 : Int32).toInt = 100 from rfl]
        omega
      · have n1 : ¬ (100 : Int32) < nI d := fun c => absurd ((nI_ltI (a := 100) (by decide) (by omega)).mp c) (by omega)
        exact Or.inr ⟨b, a, d, hb, by omega, by omega, rfl, rfl, rfl, fun post hp => c_hasB hC hv hb (b1f ⟨fun c => absurd c (nI_pos (by omega)), fun _ => ⟨fun c => absurd c n9, fun _ => ⟨fun c => absurd c (nI_pos (by omega)), fun _ => ⟨fun c => absurd c n1, fun _ => hp⟩⟩⟩⟩), fun post hp => m_isB hN hv hb (b1f (m_inL_ok (m := 9999) (by omega) (by decide) (b1f (m_inL_ok (m := 100) (by omega) (by decide) (b1f hp)))))⟩
theorem c_coveredOn {v : Rl} (hv : okR v) {b o : Nat} (hb : b < v 13 0) (ho : o < nO v) (hC : RelC (vo v b o) rs ra) (hK : NOK ns na nl) (p q : Int32) {post : Int64 → A1 → A2 → L2 → Prop} (h : ∀ ns' na' nl', NOK ns' na' nl' → post (fC v b p q o) ns' na' nl') : P_X11_coveredOn rs ra ns na nl (nI b) p q post := by
  have hv' := hv.vo (b := b) (o := o) ho
  have hb' : b < vo v b o 13 0 := by rw [vo_f (by decide) (by decide)]; exact hb
  refine c_play hC hv'.1 hK (fun n1 a1 l1 hPl => ?_)
  refine c_costOf (w := 1) hC hv'.1 hPl.2.2.2 hb' (by decide) (c_costOf (w := 0) hC hv'.1 hPl.2.2.2 hb' (by decide) (h _ _ _ hPl.2.1))
theorem c_careless {v : Rl} (hv : okR v) (hC : RelC v rs ra) (hK : NOK ns na nl) (rs2 : A1) (ra2 : A2) {b : Nat} (hb : b < v 13 0) {a : Nat} (ha : a ≤ 9999) (q : Int32) {post : Int32 → A1 → A2 → A1 → A2 → L2 → Prop} (h : ∀ rs' ra' ns' na' nl' u, RelC u rs' ra' → (∀ o, vo u b o = vo v b o) → BOK ra' → NOK ns' na' nl' → post (oN 0 (cO v b (nI a) q (nO v))) rs' ra' ns' na' nl') : P_X11_carelessOption rs ra rs2 ra2 ns na nl (nI b) (nI a) q post := by
  have h13 := ok13 hv.1
  have h12 := ok12 hv.1
  have hnO : nO v = 2 * (v 12 0 + 1) := rfl
  have z := told_of hv hb
  refine c_copyFrom hC hv.1 (fun rs' ra' hC1 hB1 _ => ?_)
  have L : ∀ (k i : Nat) (rx : A2) (nx : A1) (ax : A2) (lx : L2) (u : Rl), i + k = nO v → RelC u rs' rx → (∀ o, vo u b o = vo v b o) → NOK nx ax lx → P_X11_carelessOption_22 rs ra (nI b) (nI a) q post rs' (k + 1) (oN 0 (cO v b (nI a) q i)) (oV 9223372036854775807 (cO v b (nI a) q i)) (nI i) rx nx ax lx := by
    intro k
    induction k with
    | zero =>
      intro i rx nx ax lx u hi q1 q2 q3
      obtain rfl : i = nO v := by omega
      unfold P_X11_carelessOption_22 P_X11_carelessOption_22_b
      exact c_options hC1 hv.1 z ⟨fun _ => h _ _ _ _ _ u q1 q2 q1.bok q3, fun c => absurd (nI_le (Nat.le_refl _) (by omega)) c⟩
    | succ k ih =>
      intro i rx nx ax lx u hi q1 q2 q3
      unfold P_X11_carelessOption_22 P_X11_carelessOption_22_b
      refine c_options hC1 hv.1 z ⟨fun c => absurd ((nI_leI (by omega) (by omega)).mp c) (by omega), fun _ => ?_⟩
      refine c_setOption q1 (by omega) (by omega) (fun loc mar hC' => ?_)
      rw [q2] at hC'
      refine c_coveredOn hv hb (by omega) hC' q3 _ _ (fun n1 a1 l1 hK1 => ?_)
      have go := ih (i + 1) (va_up (va_up rx 7 loc) 8 mar) n1 a1 l1 (vo v b i) (by omega) hC' (fun o => vo_vo v b i o) hK1
      rw [nI_1]
      exact mn_c (A := fun n l => P_X11_carelessOption_22 rs ra (nI b) (nI a) q post rs' (k + 1) n l (nI (i + 1)) (va_up (va_up rx 7 loc) 8 mar) n1 a1 l1) (fC_top hv hb ha q (by omega)) 0 go
  exact ⟨nO v + 1, L (nO v) 0 ra' ns na nl v (by omega) hC1 (fun _ => rfl) hK⟩
theorem m_covers {v : Rl} (hv : okR v) (hM : RM v 0 ms ma) (mw : Nat → Int64) {b : Nat} (hb : b < v 13 0) (p q : Int32) {post : Int32 → A1 → (Nat → Int64) → A2 → L2 → Prop} (h : ∀ mt mw' mb mk, RM v 0 mt mb → MG ms ma ml mt mb mk → mw' 3 = oV (mw 3) (cO v b p q (nO v)) → post (oN (-1) (cO v b p q (nO v))) mt mw' mb mk) : P_X12_covers ms mw ma ml (nI b) p q post := by
  have h13 := ok13 hv.1
  have h12 := ok12 hv.1
  have hnO : nO v = 2 * (v 12 0 + 1) := rfl
  have hol := opt_lt hv.1 hb
  refine m_optionOf hM.1 hv.1 hb ?_
  have L : ∀ (k i : Nat) (mt : A1) (mw' : Nat → Int64) (mb : A2) (mk : L2) (u : Rl), i + k = nO v → RM u 0 mt mb → u 12 0 = v 12 0 → (∀ o, vo u b o = vo v b o) → MG ms ma ml mt mb mk → mw' 3 = oV (mw 3) (cO v b p q i) → P_X12_covers_13 (nI b) p q post (fun (x4_ : Int32) (x5_ : Int32) (ms : Nat → Int32) (mw : Nat → Int64) (ma : Nat → Nat → Int32) (ml : Nat → Nat → Int64) => P_X12_covers_98 (nI b) p q post x4_ x5_ ms mw ma ml) (nI (opt v b)) (k + 1) (oN (-1) (cO v b p q i)) (nI i) mt mw' mb mk := by
    intro k
    induction k with
    | zero =>
      intro i mt mw' mb mk u hi r1 r2 r3 r4 r5
      obtain rfl : i = nO v := by omega
      unfold P_X12_covers_13 P_X12_covers_13_b
      refine m_optionMany r1.1 ?_
      rw [r2]
      refine ⟨fun _ => m_setO r1 (by omega) (by omega) (fun a1 s1 s2 _ => ?_), fun c => absurd (nI_le (Nat.le_refl _) (by omega)) c⟩
      rw [r3, vo_opt (hv.1.2.2.2.2.1 b hb).2.2.2.2] at s1
      exact h _ _ _ _ s1 (r4.trans (s2 _ _)) r5
    | succ k ih =>
      intro i mt mw' mb mk u hi r1 r2 r3 r4 r5
      unfold P_X12_covers_13 P_X12_covers_13_b
      refine m_optionMany r1.1 ?_
      rw [r2]
      refine ⟨fun c => absurd ((nI_leI (by omega) (by omega)).mp c) (by omega), fun _ => m_setO r1 (by omega) (by omega) (fun a1 s1 s2 _ => ?_)⟩
      rw [r3] at s1
      have hv' := hv.vo (b := b) (o := i) (by omega)
      have hb' : b < vo v b i 13 0 := by rw [vo_f (by decide) (by decide)]; exact hb
      refine m_nightF hv'.1 hv'.2.1 s1 (fun m3 a3 l3 hF hMP => ?_)
      have hM3 := hF.rm s1
      refine m_paidOf hv'.1 hM3.1 hb' (m_lossOf hv'.1 hM3.1 hMP hb' (fun x hx => ?_))
      have hx' : x = fC v b p q i := hx
      have hw : ∀ w : Nat → Int64, w 3 = oV (mw 3) (cO v b p q (i + 1)) → P_X12_covers_13 (nI b) p q post (fun (x4_ : Int32) (x5_ : Int32) (ms : Nat → Int32) (mw : Nat → Int64) (ma : Nat → Nat → Int32) (ml : Nat → Nat → Int64) => P_X12_covers_98 (nI b) p q post x4_ x5_ ms mw ma ml) (nI (opt v b)) (k + 1) (oN (-1) (cO v b p q (i + 1))) (nI (i + 1)) m3 w a3 l3 := fun w e => ih (i + 1) m3 w a3 l3 (vo v b i) (by omega) hM3 (by rw [vo_f (by decide) (by decide)]) (fun o => vo_vo v b i o) ((r4.trans (s2 _ _)).trans hF.g) e
      rw [nI_1]
      have := mn_m (A := fun n l => ∀ w : Nat → Int64, w 3 = l → P_X12_covers_13 (nI b) p q post (fun (x4_ : Int32) (x5_ : Int32) (ms : Nat → Int32) (mw : Nat → Int64) (ma : Nat → Nat → Int32) (ml : Nat → Nat → Int64) => P_X12_covers_98 (nI b) p q post x4_ x5_ ms mw ma ml) (nI (opt v b)) (k + 1) n (nI (i + 1)) m3 w a3 l3) (s := cO v b p q i) (n := i) (x := fC v b p q i) (fun s hs => Nat.lt_trans (cO_at v b p q i s hs).1 (by omega)) (mw 3) hw
      rw [hx', r5]
      exact ⟨fun c => this.1 c _ up_at, fun c => ⟨fun c2 => (this.2 c).1 c2 _ up_at, fun c2 => (this.2 c).2 c2 _ r5⟩⟩
  exact ⟨nO v + 1, L (nO v) 0 ms mw ma ml v (by omega) hM rfl (fun _ => rfl) (MG.refl _ _ _) rfl⟩
theorem q_careless (hI : Inv us ua rs ra ra2 sa sl ns na nl yt im ms ma ml) (rs2 : A1) (mw : Nat → Int64) (p s c : Int32) : P_X11_careless rs ra rs2 ra2 ns na nl p s c (fun r _ ra2' ns' na' nl' => P_X12_careless ms mw ma ml p s c (fun r' mt _ mb mk => r = r' ∧ Inv us ua rs ra ra2' sa sl ns' na' nl' yt im mt mb mk)) := by
  obtain ⟨v, hv, hC, hM, hP, hY, hK, hB, F⟩ := hI.get
  have fin := F ra2 ns na nl _ _ _ (MG.refl _ _ _) hM.1 hB hK
  rcases cover_cases hC hM.1 hv.1 p s c with ⟨h1, h2⟩ | ⟨b, a, d, hb, ha, hd, rfl, rfl, rfl, h1, h2⟩
  · exact h1 _ (b0f (h2 _ (b0f ⟨rfl, fin⟩)))
  · refine h1 _ (b1f (c_careless hv hC hK rs2 ra2 hb ha _ (fun rs' ra' ns' na' nl' u hCu hu hB' hK' => h2 _ (b1f (m_covers hv hM mw hb _ _ (fun mt mw' mb mk hM' hG h3 => ⟨?_, F _ _ _ _ _ _ _ hG hM'.1 hB' hK'⟩))))))
    obtain ⟨q, hq⟩ : ∃ q, cO v b (nI a) (nI d) (nO v) = some q := by
      rw [show nO v = (nO v - 1) + 1 by unfold nO; omega]
      exact cO_some _ _ _ _ _
    rw [hq]
    rfl
theorem q_cover (hI : Inv us ua rs ra ra2 sa sl ns na nl yt im ms ma ml) (rs2 : A1) (mw : Nat → Int64) (p s c : Int32) : P_X11_cover rs ra rs2 ra2 ns na nl p s c (fun r _ ra2' ns' na' nl' => P_X12_cover ms mw ma ml p s c (fun r' mt _ mb mk => r = r' ∧ Inv us ua rs ra ra2' sa sl ns' na' nl' yt im mt mb mk)) := by
  obtain ⟨v, hv, hC, hM, hP, hY, hK, hB, F⟩ := hI.get
  have h13 := ok13 hv.1
  have h12 := ok12 hv.1
  have hnO : nO v = 2 * (v 12 0 + 1) := rfl
  have fin := F ra2 ns na nl _ _ _ (MG.refl _ _ _) hM.1 hB hK
  rcases cover_cases hC hM.1 hv.1 p s c with ⟨h1, h2⟩ | ⟨b, a, d, hb, ha, hd, rfl, rfl, rfl, h1, h2⟩
  · exact h1 _ (b0t (h2 _ (b0t ⟨rfl, fin⟩)))
  · obtain ⟨q, hq⟩ : ∃ q, cO v b (nI a) (nI d) (nO v) = some q := by
      rw [show nO v = (nO v - 1) + 1 by unfold nO; omega]
      exact cO_some _ _ _ _ _
    obtain ⟨hq1, hq2⟩ := cO_at _ _ _ _ _ _ hq
    refine h1 _ (b1t (c_careless hv hC hK rs2 ra2 hb ha _ (fun rs' ra' ns' na' nl' u hCu hu hB' hK' => ?_)))
    rw [hq]
    refine c_setOption hCu (by omega) (by omega) (fun loc mar hC' => ?_)
    rw [hu] at hC'
    refine c_coveredOn hv hb hq1 hC' hK' _ _ (fun n1 a1 l1 hK1 => ?_)
    refine h2 _ (b1t (m_covers hv hM mw hb _ _ (fun mt mw' mb mk hM' hG h3 => ⟨?_, F _ _ _ _ _ _ _ hG hM'.1 hC'.bok hK1⟩)))
    rw [h3, hq]
    exact hq2.symm
end CV
end
section
/-! promise 36: the least bait -/
def lureO (v : Rl) (t : Nat) (o : Option Nat) : Nat := if v 28 t = 2 then 10000 else match o with
  | none => 1
  | some b => if v 28 t = 0 then (net v t b).toNat + 1 else if trouble v t b = 0 then 10000 else 1
def lure (v : Rl) (t : Nat) : Nat := lureO v t (tk v 0 t 0)
theorem scn_lt (v : Rl) (s t g : Nat) : ∀ k b, scn v s t g k = some b → b < k ∧ wnt v s t b = true
  | 0, b, h => by simp [scn] at h
  | k + 1, b, h => by
    have ih := scn_lt v s t g k
    unfold scn at h
    split at h
    · rename_i c
      have cw : wnt v s t k = true := by
        simp at c
        exact c.1
      cases hs : scn v s t g k with
      | none =>
        rw [hs] at h
        simp at h
        subst h
        exact ⟨Nat.lt_succ_self _, cw⟩
      | some d =>
        rw [hs] at h
        simp only at h
        have := ih d hs
        split at h
        · simp at h
          subst h
          exact ⟨Nat.lt_succ_self _, cw⟩
        · simp at h
          subst h
          exact ⟨by omega, this.2⟩
    · have := ih b h
      exact ⟨by omega, this.2⟩
theorem scn_s (v : Rl) (s t g : Nat) : ∀ k, k ≤ v 13 0 → scn v s t g k = scn v 0 t g k
  | 0, _ => rfl
  | k + 1, h => by
    have w : wnt v s t k = wnt v 0 t k := by
      unfold wnt
      rw [if_pos (by omega), if_pos (by omega)]
    have r : ∀ b, b < v 13 0 → rnk v s t b = rnk v 0 t b := fun b hb => by
      unfold rnk
      rw [if_pos hb, if_pos hb, if_pos hb]
    rw [scn, scn, w, scn_s v s t g k (by omega)]
    cases hs : scn v 0 t g k with
    | none => rfl
    | some d =>
      have := (scn_lt v 0 t g k d hs).1
      simp only
      rw [r k (by omega), r d (by omega)]
theorem lure_iff {v : Rl} {s t : Nat} (hs : s ≤ 9999) : tk v s t 0 = some (v 13 0) ↔ lure v t ≤ s := by
  unfold lure lureO
  rw [tk_no_bait, tk_scn, scn, scn_s v s t 0 (v 13 0) (Nat.le_refl _)]
  have hw : wnt v s t (v 13 0) = (decide (0 < s) && v 28 t != 2) := by
    unfold wnt
    rw [if_neg (Nat.lt_irrefl _)]
    simp
  have hno : scn v 0 t 0 (v 13 0) ≠ some (v 13 0) := fun e => Nat.lt_irrefl _ (scn_lt v 0 t 0 _ _ e).1
  rw [hw]
  simp only [Nat.zero_testBit, Bool.not_false, Bool.and_true]
  by_cases k2 : v 28 t = 2
  · rw [if_pos k2]
    simp only [k2]
    simp
    exact ⟨fun e => absurd e hno, fun e => by omega⟩
  · rw [if_neg k2]
    rcases Nat.eq_zero_or_pos s with z | z
    · subst z
      simp
      refine ⟨fun e => absurd e hno, fun e => ?_⟩
      exfalso
      split at e
      · omega
      · split at e
        · omega
        · split at e <;> omega
    · have : (decide (0 < s) && v 28 t != 2) = true := by simp [k2]; omega
      rw [this]
      simp only [if_true]
      cases hc : scn v 0 t 0 (v 13 0) with
      | none => simp; omega
      | some b =>
        obtain ⟨hb, hwb⟩ := scn_lt v 0 t 0 _ _ hc
        have hnet : 0 < net v t b := by
          unfold wnt at hwb
          rw [if_pos hb] at hwb
          simp at hwb
          exact hwb.1
        simp only
        unfold rnk
        rw [if_neg (Nat.lt_irrefl _), if_pos hb]
        by_cases k0 : v 28 t = 0
        · rw [if_pos k0, if_pos k0, if_pos k0]
          split
          · simp; omega
          · simp; omega
        · rw [if_neg k0, if_neg k0, if_neg k0]
          simp only [Nat.lt_irrefl, if_false]
          by_cases q : trouble v t b = 0
          · rw [if_neg (by omega), if_pos q]
            simp
            omega
          · rw [if_pos (by omega), if_neg q]
            simp
            omega
def mL (v : Rl) : Nat → Nat
  | 0 => 10000
  | k + 1 => min (lure v k) (mL v k)
theorem mL_le (v : Rl) : ∀ k, mL v k ≤ 10000
  | 0 => Nat.le_refl _
  | k + 1 => Nat.le_trans (Nat.min_le_right _ _) (mL_le v k)
theorem mL_lt (v : Rl) {s : Nat} : ∀ k, s < mL v k ↔ s < 10000 ∧ ∀ t, t < k → s < lure v t
  | 0 => by
    rw [mL]
    exact ⟨fun h => ⟨h, fun t ht => by omega⟩, fun h => h.1⟩
  | k + 1 => by
    rw [mL, Nat.lt_min, mL_lt v k]
    refine ⟨fun h => ⟨h.2.1, fun t ht => ?_⟩, fun h => ⟨h.2 k (by omega), h.1, fun t ht => h.2 t (by omega)⟩⟩
    by_cases c : t = k
    · rw [c]; exact h.1
    · exact h.2.2 t (by omega)
theorem lure_rng {v : Rl} (hv : okV v) {t : Nat} (ht : t < v 14 0) : lure v t ≤ 10000 := by
  unfold lure lureO
  split
  · omega
  · split
    · omega
    · rename_i b hb
      split
      · rw [tk_no_bait] at hb
        have := gain_le hv (scn_lt _ _ _ _ _ _ hb).1
        unfold net
        omega
      · split <;> omega
section LU
variable {us : A1} {ua : A2} {rs : A1} {ra ra2 sa : A2} {sl : L2} {ns : A1} {na : A2} {nl : L2} {yt : Int32} {im : Img} {ms : A1} {ma : A2} {ml : L2}
theorem c_leastLure {v : Rl} (hC : RelC v rs ra) (hv : okR v) (hN : NR v 0 ns na) {t : Nat} (ht : t < v 14 0) {post : Int32 → Prop} (h : post (nI (lure v t))) : P_X3_leastLure na ra (nI t) post := by
  have h13 := ok13 hv.1
  have h14 := ok14 hv.1
  obtain ⟨-, -, -, e12, -⟩ := hC.2.2.2.2.2.1 t ht
  obtain ⟨-, -, -, b28, -⟩ := hv.1.2.2.2.2.2.1 t ht
  refine c_pickN hN ht h14 (g := 0) (by decide) ⟨vp_in_nI (by omega) (by decide), fun x hx => ?_⟩
  rw [nI_clamp (by omega), e12] at hx
  subst hx
  unfold lure lureO at h
  refine ⟨fun c => ?_, fun c => ?_⟩
  · have k2 : v 28 t ≠ 2 := fun q => c (by rw [q]; rfl)
    rw [if_neg k2] at h
    cases hk : tk v 0 t 0 with
    | none =>
      rw [hk] at h
      exact ⟨fun z => absurd rfl z, fun _ => h⟩
    | some b =>
      rw [hk] at h
      simp only at h
      rw [tk_no_bait] at hk
      obtain ⟨hb, hwb⟩ := scn_lt v 0 t 0 _ _ hk
      have hnet : 0 < net v t b := by
        unfold wnt at hwb
        rw [if_pos hb] at hwb
        simp at hwb
        exact hwb.1
      refine ⟨fun _ => ⟨fun c0 => ?_, fun c0 => ?_⟩, fun z => absurd z (nI_nm1 (by omega))⟩
      · rw [if_neg (fun q => c0 (by rw [q]; rfl))] at h
        refine ⟨vp_in_nI (show b < 10 by omega) (by decide), ?_⟩
        show P_X4_troubleOf ra (nI t) (nI b) (na 0 (nI b).toNatClampNeg) _
        rw [nI_clamp (by omega), (hN.2.1 b hb).1]
        have htr := trouble_le hv.1 ht hb
        refine c_troubleOf hC hv.1 ht hb rfl ⟨fun z => ?_, fun z => ?_⟩
        · rw [if_neg (fun q => z (by rw [q]; rfl))] at h
          exact h
        · rw [if_pos ((nI_eq (b := 0) (by omega) (by decide)).mp z)] at h
          exact h
      · have k0 : v 28 t = 0 := (nI_eq (b := 0) (by omega) (by decide)).mp c0
        rw [if_pos k0] at h
        refine c_netOf hC hv.1 hN ht hb ?_
        have e : (net v t b).toNat = gain v b - trouble v t b := by unfold net; omega
        have l : trouble v t b ≤ gain v b := by unfold net at hnet; omega
        rw [e] at h
        rw [pk_sub l, nI_1]
        exact h
  · have k2 : v 28 t = 2 := (nI_eq (b := 2) (by omega) (by decide)).mp c
    rw [if_pos k2] at h
    exact h
/-- what was laid, whatever the baits of the thieves are set at -/
def LB (v : Rl) (ms : A1) (ma : A2) : Prop := ms 12 = nI (v 13 0 + 1) ∧ ∀ t, t < v 14 0 → (∀ b, b < v 13 0 → ma 18 (11 * t + b) = nI (trouble v t b) ∧ ma 19 (11 * t + b) = nI (gain v b) - nI (trouble v t b)) ∧ ma 18 (11 * t + v 13 0) = 0
theorem LB.set {v : Rl} (hv : okV v) (h : LB v ms ma) {t : Nat} (ht : t < v 14 0) (s : Nat) : LB v ms (va_up ma 19 (upd (ma 19) (11 * t + v 13 0) (nI s))) ∧ LRt v s (v 13 0 + 1) ms (va_up ma 19 (upd (ma 19) (11 * t + v 13 0) (nI s))) t := by
  have h13 := ok13 hv
  have A : ∀ t', t' < v 14 0 → ∀ b, b < v 13 0 → va_up ma 19 (upd (ma 19) (11 * t + v 13 0) (nI s)) 18 (11 * t' + b) = nI (trouble v t' b) ∧ va_up ma 19 (upd (ma 19) (11 * t + v 13 0) (nI s)) 19 (11 * t' + b) = nI (gain v b) - nI (trouble v t' b) := by
    intro t' ht' b hb
    rw [up_ne (by decide), up_at, u_ne (by omega)]
    exact (h.2 t' ht').1 b hb
  refine ⟨⟨h.1, fun t' ht' => ⟨A t' ht', by rw [up_ne (by decide)]; exact (h.2 t' ht').2⟩⟩, h.1, Or.inr rfl, A t ht, fun _ => ⟨by rw [up_ne (by decide)]; exact (h.2 t ht).2, by rw [up_at, u_at]⟩⟩
theorem oI_eq {o : Option Nat} {n : Nat} (ho : ∀ b, o = some b → b ≤ 10) (hn : n ≤ 10) : oI o = nI n ↔ o = some n := by
  cases o with
  | none => exact ⟨fun e => absurd e.symm (nI_nm1 (by omega)), fun e => absurd e (by simp)⟩
  | some b =>
    have := ho b rfl
    rw [show oI (some b) = nI b from rfl, nI_eq (by omega) (by omega)]
    simp
theorem q_lures (hI : Inv us ua rs ra ra2 sa sl ns na nl yt im ms ma ml) (p : Int32) : P_X11_lures rs ra ns na p (fun r ns' na' => P_X12_lures ms ma p (fun r' mt mb => r = r' ∧ Inv us ua rs ra ra2 sa sl ns' na' nl yt im mt mb ml)) := by
  obtain ⟨v, hv, hC, hM, hP, hY, hK, hB, F⟩ := hI.get
  have h13 := ok13 hv.1
  have h14 := ok14 hv.1
  have fin := F ra2 ns na nl _ _ _ (MG.refl _ _ _) hM.1 hB hK
  rcases bait_cases hC hM.1 hv.1 p 0 0 with ⟨r, hr, h1, h2⟩ | ⟨a, b, ha, hb, -, -, h1, h2⟩
  · exact h1 _ ⟨fun c => absurd c hr, fun _ => h2 _ ⟨fun c => absurd c hr, fun _ => ⟨rfl, fin⟩⟩⟩
  · refine h1 _ ⟨fun _ => c_lookAt hC hv.1 (fun nb hN hb => ?_), fun c => absurd rfl c⟩
    have hK1 := hK.look hb (nI (v 13 0))
    have M : P_X12_lures ms ma p (fun r' mt mb => (if mL v (v 14 0) ≤ 9999 then nI (mL v (v 14 0)) else -1) = r' ∧ Inv us ua rs ra ra2 sa sl (va_up ns 0 (nI (v 13 0))) nb nl yt im mt mb ml) := by
      refine h2 _ ⟨fun _ => ?_, fun c => absurd rfl c⟩
      refine m_lays hv.1 hM (some 0) (by decide) (fun mb hL hmb => ?_)
      have hF : MF (va_up ms 0 0) ma ml (va_up (va_up ms 0 0) 12 (nI (thO v (some 0)))) mb ml := ⟨fun j hj => up_ne hj, hmb, fun _ _ _ _ => rfl⟩
      have hM1 := hF.rm hM
      have hB0 : LB v (va_up (va_up ms 0 0) 12 (nI (thO v (some 0)))) mb := ⟨hL.1, fun t ht => ⟨hL.2.2.1 t ht, (hL.2.2.2 rfl t ht).1⟩⟩
      generalize va_up (va_up ms 0 0) 12 (nI (thO v (some 0))) = mt at hF hM1 hB0
      have I : ∀ (s : Nat), s ≤ 9999 → s ≤ mL v (v 14 0) → ∀ (R26 : Int32 → A2 → Prop) (mc : A2), LB v mt mc → (∀ j, j ≠ 19 → mc j = mb j) → (s < mL v (v 14 0) → ∀ md, LB v mt md → (∀ j, j ≠ 19 → md j = mb j) → R26 (nI (s + 1)) md) → ∃ n, P_X12_lures_36 p mt (fun r' mt mb => (if mL v (v 14 0) ≤ 9999 then nI (mL v (v 14 0)) else -1) = r' ∧ Inv us ua rs ra ra2 sa sl (va_up ns 0 (nI (v 13 0))) nb nl yt im mt mb ml) R26 (nI s) n 0 mc := by
        intro s hs hms R26 mc g1 g2 kk
        have L : ∀ (k i : Nat) (md : A2), i + k = v 14 0 → LB v mt md → (∀ j, j ≠ 19 → md j = mb j) → (∀ t, t < i → s < lure v t) → P_X12_lures_36 p mt (fun r' mt mb => (if mL v (v 14 0) ≤ 9999 then nI (mL v (v 14 0)) else -1) = r' ∧ Inv us ua rs ra ra2 sa sl (va_up ns 0 (nI (v 13 0))) nb nl yt im mt mb ml) R26 (nI s) (k + 1) (nI i) md := by
          intro k
          induction k with
          | zero =>
            intro i md hi q1 q2 q3
            obtain rfl : i = v 14 0 := by omega
            have hMd : RM v 0 mt md := hM1.fr (fun j _ _ => q2 j (by omega)) rfl rfl
            refine ⟨fun _ => ?_, fun c => absurd ((cmp_le hMd.2.1.1 (by omega) (by omega)).mpr (Nat.le_refl _)) c⟩
            rw [nI_1]
            exact kk ((mL_lt v _).mpr ⟨by omega, q3⟩) md q1 q2
          | succ k ih =>
            intro i md hi q1 q2 q3
            have hMd : RM v 0 mt md := hM1.fr (fun j _ _ => q2 j (by omega)) rfl rfl
            have e10 : md 10 0 = nI (v 13 0) := hMd.1.1.2.2.2.2
            refine ⟨fun c => absurd ((cmp_le hMd.2.1.1 (by omega) (by omega)).mp c) (by omega), fun _ => ?_⟩
            rw [e10, show (11 : Int32) * nI i + nI (v 13 0) = nI (11 * i + v 13 0) by simp only [fa_lit, pk_mul, nI_add], nI_clamp (by omega), nI_1]
            obtain ⟨s1, s2⟩ := q1.set hv.1 (show i < v 14 0 by omega) s
            have q2' : ∀ j, j ≠ 19 → va_up md 19 (upd (md 19) (11 * i + v 13 0) (nI s)) j = mb j := fun j hj => by rw [up_ne hj]; exact q2 j hj
            have hMe : RM v 0 mt (va_up md 19 (upd (md 19) (11 * i + v 13 0) (nI s))) := hM1.fr (fun j _ _ => q2' j (by omega)) rfl rfl
            refine ⟨vp_in_nI (by omega) (by decide), m_takesOfT (g := 0) hv.1 hv.2.1 hs hMe.2.1 s2 (by omega) (by decide) ?_⟩
            rw [oI_eq (fun b hb => by have := (tk_some hb).1; omega) h13, lure_iff hs]
            refine ⟨fun c => ih (i + 1) _ (by omega) s1 q2' (fun t ht => ?_), fun c => ?_⟩
            · by_cases e : t = i
              · rw [e]; omega
              · exact q3 t (by omega)
            · have hms2 : mL v (v 14 0) ≤ s := by
                rcases Nat.lt_or_ge s (mL v (v 14 0)) with w | w
                · have := ((mL_lt v _).mp w).2 i (by omega)
                  omega
                · exact w
              have e : mL v (v 14 0) = s := by omega
              rw [e, if_pos hs]
              refine ⟨rfl, F _ _ _ _ _ _ _ (hF.g.trans ⟨fun _ _ _ _ => rfl, fun j hj _ _ _ => q2' j (by omega), fun x _ => by rw [q2' 11 (by decide)], fun x _ => by rw [q2' 14 (by decide)], rfl⟩) hMe.1 hB hK1⟩
        exact ⟨v 14 0 + 1, L (v 14 0) 0 mc (by omega) g1 g2 (fun t ht => by omega)⟩
      have L : ∀ (k s : Nat) (mc : A2), s + k = 10000 → s ≤ mL v (v 14 0) → LB v mt mc → (∀ j, j ≠ 19 → mc j = mb j) → P_X12_lures_26 p (fun r' mt mb => (if mL v (v 14 0) ≤ 9999 then nI (mL v (v 14 0)) else -1) = r' ∧ Inv us ua rs ra ra2 sa sl (va_up ns 0 (nI (v 13 0))) nb nl yt im mt mb ml) mt (k + 1) (nI s) mc := by
        intro k
        induction k with
        | zero =>
          intro s mc hs hm g1 g2
          obtain rfl : s = 10000 := by omega
          have hMe : RM v 0 mt mc := hM1.fr (fun j _ _ => g2 j (by omega)) rfl rfl
          refine ⟨fun _ => ⟨by rw [if_neg (by omega)], F _ _ _ _ _ _ _ (hF.g.trans ⟨fun _ _ _ _ => rfl, fun j hj _ _ _ => g2 j (by omega), fun x _ => by rw [g2 11 (by decide)], fun x _ => by rw [g2 14 (by decide)], rfl⟩) hMe.1 hB hK1⟩, fun c => absurd (nI_lt (a := 9999) (by decide) (by decide)) c⟩
        | succ k ih =>
          intro s mc hs hm g1 g2
          refine ⟨fun c => absurd ((nI_ltI (a := 9999) (by decide) (by omega)).mp c) (by omega), fun _ => ?_⟩
          exact I s (by omega) hm _ mc g1 g2 (fun hlt md d1 d2 => ih (s + 1) md (by omega) (by omega) d1 d2)
      exact ⟨10001, L 10000 0 mb (by omega) (Nat.zero_le _) hB0 (fun _ _ => rfl)⟩
    have hmle := mL_le v
    have L : ∀ (k i : Nat), i + k = v 14 0 → P_X11_lures_32 rs ra p (fun r ns' na' => P_X12_lures ms ma p (fun r' mt mb => r = r' ∧ Inv us ua rs ra ra2 sa sl ns' na' nl yt im mt mb ml)) (fun (x3_ : Int32) (ns : Nat → Int32) (na : Nat → Nat → Int32) => P_X11_lures_71 rs ra p (fun r ns' na' => P_X12_lures ms ma p (fun r' mt mb => r = r' ∧ Inv us ua rs ra ra2 sa sl ns' na' nl yt im mt mb ml)) x3_ ns na) (va_up ns 0 (nI (v 13 0))) nb (k + 1) (nI (mL v i)) (nI i) := by
      intro k
      induction k with
      | zero =>
        intro i hi
        obtain rfl : i = v 14 0 := by omega
        have := hmle (v 14 0)
        refine ⟨fun _ => ⟨fun c => ?_, fun c => ?_⟩, fun c => absurd ((cmp_le (rc_s hC 14) (by omega) (by omega)).mpr (Nat.le_refl _)) c⟩
        · rw [if_pos ((nI_leI (b := 9999) (by omega) (by decide)).mp c)] at M
          exact M
        · rw [if_neg (fun q => c (nI_le (b := 9999) q (by decide)))] at M
          exact M
      | succ k ih =>
        intro i hi
        have h2 := hmle i
        have h3 := lure_rng hv.1 (show i < v 14 0 by omega)
        refine ⟨fun c => absurd ((cmp_le (rc_s hC 14) (by omega) (by omega)).mp c) (by omega), fun _ => c_leastLure hC hv hN (by omega) (fun x hx => ?_)⟩
        have e : x = nI (mL v (i + 1)) := by
          rw [hx, mL]
          by_cases q : lure v i < mL v i
          · rw [if_pos (nI_lt q (by omega)), Nat.min_eq_left (by omega)]
          · rw [if_neg (nI_nlt (by omega) (by omega)), Nat.min_eq_right (by omega)]
        rw [e, nI_1]
        exact ih (i + 1) (by omega)
    exact ⟨v 14 0 + 1, L (v 14 0) 0 (by omega)⟩
end LU
end
