/-! promises 42, 43: the class with a bait -/
theorem sumL_split (f : Nat → Int64) (n : Nat) : ∀ m : Nat, sumL f (n + m) = sumL f n + sumL (fun k => f (n + k)) m
  | 0 => by simp [sumL]
  | m + 1 => by rw [show n + (m + 1) = (n + m) + 1 by omega, sumL, sumL, sumL_split f n m, Int64.add_assoc]
theorem sumL_2d (f : Nat → Int64) (a : Nat) : ∀ b : Nat, sumL f (a * b) = sumL (fun c => sumL (fun g => f (g + a * c)) a) b
  | 0 => rfl
  | b + 1 => by
    rw [Nat.mul_succ, sumL_split, sumL, sumL_2d f a b]
    congr 1
    exact sumL_cong (fun g _ => by rw [Nat.add_comm])
theorem sumL_17 (f : Nat → Int64) : sumL f N17 = sumL (fun c => sumL (fun g => f (g + 2048 * c)) 2048) 64 := sumL_2d f 2048 64
theorem sumL_17' (f : Nat → Int64) : sumL f N17 = sumL (fun g => sumL (fun c => f (g + 2048 * c)) 64) 2048 := by rw [sumL_17, sumL_swap (fun g c => f (g + 2048 * c))]
/-- a night's end: all are there again -/
def brg (D : Nat → Int64) : Nat → Int64 := fun x => sumL (fun q => if x = 2048 * (q / 2048) then D q else 0) N17
theorem brg_at (D : Nat → Int64) {c : Nat} (hc : c < 64) : brg D (2048 * c) = sumL (fun g => D (g + 2048 * c)) 2048 := by
  unfold brg
  rw [sumL_17, sumL_one (i := c) hc (fun k _ hne => ?_)]
  · exact sumL_cong (fun g hg => by rw [if_pos (by omega)])
  · exact sumL_zero (fun g hg => by rw [if_neg (by omega)])
theorem brg_out (D : Nat → Int64) {x : Nat} (hx : x % 2048 ≠ 0) : brg D x = 0 := sumL_zero (fun q _ => by rw [if_neg (by omega)])
def Dn (v : Rl) (s ct : Nat) : Nat → Nat → Int64
  | 0 => D1
  | k + 1 => brg (nD v s ct (Dn v s ct k) (v 14 0))
theorem Dn_bit (v : Rl) (s ct : Nat) {b : Nat} (hb : b < 11) (k : Nat) : sumL (fun x => bitW b x * Dn v s ct k x) N17 = 0 := by
  refine sumL_zero (fun x _ => ?_)
  cases k with
  | zero =>
    unfold Dn D1 bitW
    by_cases e : x = 0
    · subst e; simp
    · simp [e]
  | succ k =>
    by_cases e : x % 2048 = 0
    · have : bitW b x = 0 := by
        unfold bitW
        rw [← tb_mod hb, e]
        simp
      rw [this, Int64.zero_mul]
    · rw [Dn, brg_out _ e, Int64.mul_zero]
/-- what each thief has of each bike in all nights -/
def hadB (v : Rl) (s ct k t b : Nat) : Int64 := if t < v 14 0 ∧ b < v 13 0 then sumL (fun i => hst v s t (nD v s ct (Dn v s ct i) t) b) k else 0
def sumEN (f : Nat → Nat) : List Nat → Nat
  | [] => 0
  | q :: E => f q + sumEN f E
theorem sumN_offN {f : Nat → Nat} {i : Nat} : ∀ {n : Nat}, i < n → sumN f n = f i + sumN (fun k => if k = i then 0 else f k) n
  | 0, h => by omega
  | n + 1, h => by
    rw [sumN, sumN]
    by_cases e : i = n
    · rw [if_pos e.symm, sumN_cong (f := fun k => if k = i then 0 else f k) (g := f) (fun k hk => by rw [if_neg (by omega)]), e]
      omega
    · have := sumN_offN (f := f) (i := i) (n := n) (by omega)
      rw [if_neg (fun q => e q.symm)]
      omega
theorem sumEN_cong {f g : Nat → Nat} : ∀ {E : List Nat}, (∀ q, q ∈ E → f q = g q) → sumEN f E = sumEN g E
  | [], _ => rfl
  | a :: E, h => by rw [sumEN, sumEN, sumEN_cong (E := E) (fun q hq => h q (List.mem_cons_of_mem _ hq)), h a List.mem_cons_self]
theorem sumEN_le {n : Nat} : ∀ {E : List Nat} {f : Nat → Nat}, E.Nodup → (∀ q, q ∈ E → q % 2048 = 0 ∧ q / 2048 < n) → sumEN (fun q => f (q / 2048)) E ≤ sumN f n
  | [], f, _, _ => Nat.zero_le _
  | a :: E, f, hn, h => by
    rw [List.nodup_cons] at hn
    have ha := h a List.mem_cons_self
    have ih := sumEN_le (n := n) (E := E) (f := fun k => if k = a / 2048 then 0 else f k) hn.2 (fun q hq => h q (List.mem_cons_of_mem _ hq))
    have e : sumEN (fun q => if q / 2048 = a / 2048 then 0 else f (q / 2048)) E = sumEN (fun q => f (q / 2048)) E := sumEN_cong (fun q hq => by
      rw [if_neg]
      intro e
      have hq2 := h q (List.mem_cons_of_mem _ hq)
      have : q = a := by omega
      exact hn.1 (this ▸ hq))
    rw [e] at ih
    rw [sumEN, sumN_offN ha.2]
    omega
theorem sumEN_len (E : List Nat) : sumEN (fun _ => 1) E = E.length := by
  induction E with
  | nil => rfl
  | cons a E ih => rw [sumEN, ih, List.length_cons]; omega
theorem wsm_EN (v : Rl) (t : Nat) (E : List Nat) : wsm v t E = sumEN (wgt v t) E := by
  induction E with
  | nil => rfl
  | cons a E ih => rw [wsm, sumEN, ih]
theorem wpr_dec : sumN (fun c => 2 * wpr (2048 * c) 6) 64 = 1458 := by decide +kernel
theorem one_dec : sumN (fun _ => 1) 64 = 64 := by decide
theorem wgt_c {v : Rl} (h13 : v 13 0 ≤ 10) {q : Nat} (hq : q % 2048 = 0) : wgt v 0 q = 2 * wpr (2048 * (q / 2048)) 6 := by
  have e : q.testBit (v 13 0) = false := by
    rw [← tb_mod (by omega), hq]
    simp
  unfold wgt
  rw [e, show 2048 * (q / 2048) = q by omega]
  rfl
theorem mults {v : Rl} (h13 : v 13 0 ≤ 10) {E : List Nat} (hn : E.Nodup) (h : ∀ q, q ∈ E → q % 2048 = 0 ∧ q < 131072) : wsm v 0 E ≤ 1458 ∧ E.length ≤ 64 := by
  have h2 : ∀ q, q ∈ E → q % 2048 = 0 ∧ q / 2048 < 64 := fun q hq => by
    have := h q hq
    omega
  constructor
  · rw [wsm_EN, sumEN_cong (g := fun q => (fun c => 2 * wpr (2048 * c) 6) (q / 2048)) (fun q hq => wgt_c h13 (h q hq).1), ← wpr_dec]
    exact sumEN_le (f := fun c => 2 * wpr (2048 * c) 6) hn h2
  · rw [← sumEN_len, ← one_dec]
    exact sumEN_le (f := fun _ => 1) hn h2
theorem mask_dec : ∀ i, i < 32 → (-2048 : Int32).toBitVec.getLsbD i = decide (11 ≤ i) := by decide
theorem andm {q : Nat} (hq : q < 131072) : nI q &&& (-2048) = nI (2048 * (q / 2048)) := by
  apply Int32.toBitVec_inj.1
  apply BitVec.eq_of_getLsbD_eq
  intro i hi
  rw [Int32.toBitVec_and, BitVec.getLsbD_and, mask_dec i hi]
  show ((BitVec.ofNat 32 q).getLsbD i && decide (11 ≤ i)) = (BitVec.ofNat 32 (2048 * (q / 2048))).getLsbD i
  rw [BitVec.getLsbD_ofNat, BitVec.getLsbD_ofNat, show 2048 * (q / 2048) = 2 ^ 11 * (q / 2 ^ 11) from rfl, Nat.testBit_two_pow_mul, Nat.testBit_div_two_pow]
  by_cases c : 11 ≤ i
  · simp [c, hi]
  · simp [c]
theorem c_bringBack {v : Rl} (h13 : v 13 0 ≤ 10) {ns : A1} {na : A2} {nl : L2} {E : List Nat} {D : Nat → Int64} (hS : SP E D (ns 2) (na 5) (nl 1) (na 6) (na 7)) (hS2 : SPx (ns 3) (na 8) (nl 2) (na 9) (na 10)) {post : A1 → A2 → L2 → Prop}
    (h : ∀ (ns' : A1) (na' : A2) (nl' : L2) (E1 : List Nat), SP E1 (brg D) (ns' 2) (na' 5) (nl' 1) (na' 6) (na' 7) → SPx (ns' 3) (na' 8) (nl' 2) (na' 9) (na' 10) → wsm v 0 E1 ≤ 1458 → NF ns na ns' na' → nl' 0 = nl 0 → post ns' na' nl') : P_X3_bringBack ns na nl post := by
  obtain ⟨E2, D2, hS2⟩ := hS2
  have hSk := hS
  obtain ⟨s1, s2, s3, s4, s5, -⟩ := hS
  refine c_wipe hS2 (fun tb' hT => ?_)
  have L : ∀ (k i : Nat) (nx : A1) (ax : A2) (lx : L2) (E1 : List Nat), i + k = E.length → SP E1 (fun x => sumE (E.take i) (fun q => if x = 2048 * (q / 2048) then D q else 0)) (nx 3) (ax 8) (lx 2) (ax 9) (ax 10) → (∀ q, q ∈ E1 → q % 2048 = 0) → (∀ j, j ≠ 3 → nx j = ns j) → (∀ j, j < 8 → ax j = na j) → (∀ j, j ≠ 2 → lx j = nl j) → P_X3_bringBack_9 post (fun ns na nl => P_X3_bringBack_55 post ns na nl) (k + 1) (nI i) nx ax lx := by
    intro k
    induction k with
    | zero =>
      intro i nx ax lx E1 hi g1 g2 g3 g4 g5
      obtain rfl : i = E.length := by omega
      rw [List.take_length] at g1
      have e : (fun x => sumE E (fun q => if x = 2048 * (q / 2048) then D q else 0)) = brg D := by
        funext x
        unfold brg
        exact sumE_range (n := N17) s3 (fun q hq => by
          obtain ⟨i, hi, e⟩ := mem_getD hq
          rw [← e]
          exact (s5 i hi).2.1) (fun q _ hq => by rw [s4 q hq]; simp)
      rw [e] at g1
      have hm := mults h13 g1.2.2.1 (fun q hq => ⟨g2 q hq, by
        obtain ⟨i, hi, e⟩ := mem_getD hq
        rw [← e]
        exact (g1.2.2.2.2.1 i hi).2.1⟩)
      refine ⟨fun _ => ?_, fun c => absurd ((cmp_le ((g3 2 (by decide)).trans s1) (by omega) (by omega)).mpr (Nat.le_refl _)) c⟩
      refine h _ _ _ E1 ?_ ⟨E, D, ?_⟩ hm.1 ⟨fun j hj => ?_, fun j hj => ?_⟩ ?_
      · simp only [va_up]
        exact g1
      · simp only [va_up]
        simp only [g3 2 (by decide), g4 5 (by decide), g4 6 (by decide), g4 7 (by decide), g5 1 (by decide)]
        exact hSk
      · rw [up_ne (by omega), up_ne (by omega), g3 j (by omega)]
      · rw [up_ne (by omega), up_ne (by omega), up_ne (by omega), up_ne (by omega), up_ne (by omega), up_ne (by omega), g4 j (by omega)]
      · rw [up_ne (by decide), up_ne (by decide), g5 0 (by decide)]
    | succ k ih =>
      intro i nx ax lx E1 hi g1 g2 g3 g4 g5
      have hil : i < E.length := by omega
      obtain ⟨a1, a2, a3⟩ := s5 i hil
      have hm := mults h13 g1.2.2.1 (fun q hq => ⟨g2 q hq, by
        obtain ⟨i, hi, e⟩ := mem_getD hq
        rw [← e]
        exact (g1.2.2.2.2.1 i hi).2.1⟩)
      refine ⟨fun c => absurd ((cmp_le ((g3 2 (by decide)).trans s1) (by omega) (by omega)).mp c) (by omega), fun _ => ⟨vp_in_nI (by omega) (by omega), vp_in_nI (by omega) (by omega), ?_⟩⟩
      rw [nI_clamp (by omega), g4 5 (by decide), a1, g5 1 (by decide), a3, andm a2, nI_1]
      refine c_put g1 (by omega) (by omega) (fun sz st pa so tb hP2 => ?_)
      refine ih (i + 1) _ _ _ (addE E1 (2048 * (E.getD i 0 / 2048)) (D (E.getD i 0))) (by omega) ?_ (fun q hq => ?_) (fun j hj => by rw [up_ne hj]; exact g3 j hj) (fun j hj => by rw [up_ne (by omega), up_ne (by omega), up_ne (by omega)]; exact g4 j hj) (fun j hj => by rw [up_ne hj]; exact g5 j hj)
      · rw [up_at, up_at, up_at, up_ne (by decide), up_ne (by decide), up_at, up_ne (by decide), up_at]
        have : (fun x => sumE (E.take (i + 1)) (fun q => if x = 2048 * (q / 2048) then D q else 0)) = addA (fun x => sumE (E.take i) (fun q => if x = 2048 * (q / 2048) then D q else 0)) (2048 * (E.getD i 0 / 2048)) (D (E.getD i 0)) := by
          funext x
          rw [addA_eq, sumE_take hil]
        rw [this]
        exact hP2
      · unfold addE at hq
        split at hq
        · exact g2 q hq
        · rcases List.mem_append.mp hq with z | z
          · exact g2 q z
          · simp at z
            omega
  refine ⟨E.length + 1, L E.length 0 _ _ _ [] (by omega) ?_ (fun q hq => by simp at hq) (fun j hj => up_ne hj) (fun j hj => up_ne (by omega)) (fun _ _ => rfl)⟩
  rw [up_at, up_at, up_ne (by decide), up_ne (by decide)]
  exact hT
def Baited (v : Rl) (s ct k : Nat) (ns : A1) (na : A2) (nl : L2) : Prop := (∃ E, SP E (Dn v s ct k) (ns 2) (na 5) (nl 1) (na 6) (na 7) ∧ wsm v 0 E ≤ 1458) ∧ NOK ns na nl ∧ NR v s ns na ∧ ns 1 = nI ct ∧ ∀ t b, t < 6 → b < 10 → nl 0 (t * 10 + b) = hadB v s ct k t b
theorem c_playBaited {v : Rl} {rs : A1} {ra : A2} (hR : RelC v rs ra) (hv : okV v) {ns : A1} {na : A2} {nl : L2} (hK : NOK ns na nl) {s ct : Nat} (hs : s ≤ 9999) (hct : ct ≤ 100) {post : A1 → A2 → L2 → Prop}
    (h : ∀ (ns' : A1) (na' : A2) (nl' : L2), Baited v s ct (v 1 0) ns' na' nl' → post ns' na' nl') : P_X3_playBaited ns na nl rs ra (nI s) (nI ct) post := by
  have h13 := ok13 hv
  have h14 := ok14 hv
  have h1 := ok1 hv
  have e14 := rc_s hR 14
  have e1 := rc_s hR 1
  refine c_lookAtBaited hR hv hs (fun nb hN hb => ?_)
  refine c_begin (by
    unfold NOK at hK ⊢
    rw [up_ne (by decide), up_ne (by decide), up_ne (by decide), up_ne (by decide), hb 5 (by omega), hb 6 (by omega), hb 7 (by omega), hb 8 (by omega), hb 9 (by omega), hb 10 (by omega)]
    exact hK) (fun ns1 na1 nl1 g1 g2 g3 g4 => ?_)
  have hN1 : NR v s ns1 na1 := by
    have : NR v s (va_up (va_up ns 0 (nI (v 13 0))) 1 (nI ct)) nb := ⟨by rw [up_ne (by decide)]; exact hN.1, hN.2⟩
    exact this.frame g3
  have hct1 : ns1 1 = nI ct := by rw [g3.1 1 (by decide), up_at]
  -- a night
  have T : ∀ (n : Nat) (K64 : Int32 → A1 → A2 → L2 → Prop) (x4 : Int32) (nx : A1) (ax : A2) (lx : L2), Baited v s ct n nx ax lx → (∀ ny ay ly E, SP E (nD v s ct (Dn v s ct n) (v 14 0)) (ny 2) (ay 5) (ly 1) (ay 6) (ay 7) → SPx (ny 3) (ay 8) (ly 2) (ay 9) (ay 10) → NR v s ny ay → ny 1 = nI ct → (∀ t b, t < 6 → b < 10 → ly 0 (t * 10 + b) = hadB v s ct (n + 1) t b) → K64 x4 ny ay ly) → ∃ m, P_X3_playBaited_30 rs ra (nI s) (nI ct) post K64 x4 m 0 nx ax lx := by
    intro n K64 x4 nx ax lx ⟨⟨E0, hE0, hw0⟩, hK0, hN0, hc0, hh0⟩ kk
    have L : ∀ (k i : Nat) (ny : A1) (ay : A2) (ly : L2) (E : List Nat), i + k = v 14 0 → SP E (nD v s ct (Dn v s ct n) i) (ny 2) (ay 5) (ly 1) (ay 6) (ay 7) → SPx (ny 3) (ay 8) (ly 2) (ay 9) (ay 10) → wsm v i E ≤ 1458 → NR v s ny ay → ny 1 = nI ct → (∀ t b, t < 6 → b < 10 → ly 0 (t * 10 + b) = if t < i then hadB v s ct (n + 1) t b else hadB v s ct n t b) → P_X3_playBaited_30 rs ra (nI s) (nI ct) post K64 x4 (k + 1) (nI i) ny ay ly := by
      intro k
      induction k with
      | zero =>
        intro i ny ay ly E hi q1 q2 q3 q4 q5 q6
        obtain rfl : i = v 14 0 := by omega
        refine ⟨fun _ => kk ny ay ly E q1 q2 q4 q5 (fun t b ht hb => ?_), fun c => absurd ((cmp_le e14 (by omega) (by omega)).mpr (Nat.le_refl _)) c⟩
        rw [q6 t b ht hb]
        split
        · rfl
        · unfold hadB
          rw [if_neg (by omega), if_neg (by omega)]
      | succ k ih =>
        intro i ny ay ly E hi q1 q2 q3 q4 q5 q6
        have hit : i < v 14 0 := by omega
        refine ⟨fun c => absurd ((cmp_le e14 (by omega) (by omega)).mp c) (by omega), fun _ => ⟨vp_in_nI (by omega) (by omega), ?_⟩⟩
        rw [nI_clamp (by omega), (hR.2.2.2.2.2.1 i hit).2.1]
        refine c_letCome (ct := ct) hv hit q4 (fun _ => ⟨q5, hct⟩) q1 q2 q3 (fun nz az lz E1 r1 r2 r3 r4 r5 => ?_)
        rw [nI_1]
        refine ih (i + 1) nz az lz E1 (by omega) r1 r2 r3 (q4.frame r4) ((r4.1 1 (by decide)).trans q5) (fun t b ht hb => ?_)
        by_cases e : t = i
        · subst e
          rw [if_pos (by omega)]
          by_cases hbb : b < v 13 0
          · rw [r5.1 b hbb, q6 t b ht hb, if_neg (Nat.lt_irrefl t)]
            unfold hadB
            rw [if_pos ⟨hit, hbb⟩, if_pos ⟨hit, hbb⟩, sumL]
          · rw [r5.2 _ (by omega), q6 t b ht hb, if_neg (Nat.lt_irrefl t)]
            unfold hadB
            rw [if_neg (by omega), if_neg (by omega)]
        · rw [r5.2 _ (by omega), q6 t b ht hb]
          by_cases c : t < i
          · rw [if_pos c, if_pos (by omega)]
          · rw [if_neg c, if_neg (by omega)]
    exact ⟨v 14 0 + 1, L (v 14 0) 0 nx ax lx E0 (by omega) hE0 hK0.2 hw0 hN0 hc0 (fun t b ht hb => by rw [if_neg (by omega)]; exact hh0 t b ht hb)⟩
  have L : ∀ (k i : Nat) (nx : A1) (ax : A2) (lx : L2), i + k = v 1 0 → Baited v s ct i nx ax lx → P_X3_playBaited_18 rs ra (nI s) (nI ct) post (k + 1) (nI i) nx ax lx := by
    intro k
    induction k with
    | zero =>
      intro i nx ax lx hi q
      obtain rfl : i = v 1 0 := by omega
      exact ⟨fun _ => h nx ax lx q, fun c => absurd ((cmp_le e1 (by omega) (by omega)).mpr (Nat.le_refl _)) c⟩
    | succ k ih =>
      intro i nx ax lx hi q
      refine ⟨fun c => absurd ((cmp_le e1 (by omega) (by omega)).mp c) (by omega), fun _ => ?_⟩
      refine T i _ (nI i) nx ax lx q (fun ny ay ly E r1 r2 r3 r4 r5 => ?_)
      refine c_bringBack h13 r1 r2 (fun nz az lz E1 t1 t2 t3 t4 t5 => ?_)
      rw [nI_1]
      exact ih (i + 1) nz az lz (by omega) ⟨⟨E1, t1, t3⟩, ⟨⟨E1, _, t1⟩, t2⟩, r3.frame t4, (t4.1 1 (by decide)).trans r4, fun t b ht hb => by rw [t5]; exact r5 t b ht hb⟩
  exact ⟨v 1 0 + 1, L (v 1 0) 0 ns1 na1 nl1 (by omega) ⟨⟨[0], g1, wgt_0 v⟩, ⟨⟨[0], D1, g1⟩, g2⟩, hN1, hct1, fun t b ht hb => by
    rw [g4 _ (by omega)]
    unfold hadB
    split <;> rfl⟩⟩
/-- LOSS with a bait, PARTS still -/
def bLoss (v : Rl) (s ct k : Nat) : Int64 := sumL (fun b => lN (v 20 b) * sumL (fun t => hadB v s ct k t b) 6) (v 13 0)
theorem c_baitedLoss {v : Rl} {rs : A1} {ra : A2} (hR : RelC v rs ra) (hv : okV v) {nl : L2} {s ct k : Nat} (hH : ∀ t b, t < 6 → b < 10 → nl 0 (t * 10 + b) = hadB v s ct k t b) {post : Int64 → Prop} (h : post (bLoss v s ct k / 1000000000)) : P_X3_baitedLoss nl rs ra post := by
  have h13 := ok13 hv
  have R : ∀ (b : Nat), b < 10 → ∀ (Q : Int64 → Prop), Q (sumL (fun t => hadB v s ct k t b) 6) → P_X3_riskOf nl (nI b) Q := by
    intro b hb Q hQ
    have L : ∀ (d i : Nat), i + d = 6 → P_X3_riskOf_5 nl (nI b) Q (d + 1) (sumL (fun t => hadB v s ct k t b) i) (nI i) := by
      intro d
      induction d with
      | zero =>
        intro i hi
        obtain rfl : i = 6 := by omega
        exact ⟨fun _ => hQ, fun c => absurd (by decide) c⟩
      | succ d ih =>
        intro i hi
        refine ⟨fun c => absurd ((nI_leI (a := 6) (by omega) (by omega)).mp c) (by omega), fun _ => ?_⟩
        unfold P_X3_hadBy
        rw [show (nI i * 10) + nI b = nI (i * 10 + b) by rw [show (10 : Int32) = nI 10 from rfl, pk_mul, nI_add], nI_clamp (by omega), hH i b (by omega) hb]
        refine ⟨vp_in_nI (by omega) (by omega), fun x hx => ?_⟩
        rw [hx, nI_1]
        exact ih (i + 1) (by omega)
    exact ⟨7, L 6 0 (by omega)⟩
  have L : ∀ (d i : Nat), i + d = v 13 0 → P_X3_baitedLoss_5 nl rs ra post (d + 1) (sumL (fun b => lN (v 20 b) * sumL (fun t => hadB v s ct k t b) 6) i) (nI i) := by
    intro d
    induction d with
    | zero =>
      intro i hi
      obtain rfl : i = v 13 0 := by omega
      exact ⟨fun _ => h, fun c => absurd ((cmp_le (rc_s hR 13) (by omega) (by omega)).mpr (Nat.le_refl _)) c⟩
    | succ d ih =>
      intro i hi
      have hw := (hv.2.2.2.2.1 i (by omega)).1
      refine ⟨fun c => absurd ((cmp_le (rc_s hR 13) (by omega) (by omega)).mp c) (by omega), fun _ => ⟨vp_in_nI (by omega) (by decide), R i (by omega) _ (fun x hx => ?_)⟩⟩
      rw [nI_clamp (by omega), (hR.2.2.2.2.1 i (by omega)).1, nI_l (by omega)] at hx
      rw [hx, nI_1]
      exact ih (i + 1) (by omega)
  exact ⟨v 13 0 + 1, L (v 13 0) 0 (by omega)⟩
theorem c_partsCaught {ns : A1} {na : A2} {nl : L2} {E : List Nat} {D : Nat → Int64} (hS : SP E D (ns 2) (na 5) (nl 1) (na 6) (na 7)) {t : Nat} (ht : t < 6) {post : Int64 → Prop} (h : post (sumL (fun q => if q.testBit (11 + t) then D q else 0) N17)) : P_X3_partsCaught ns na nl (nI t) post := by
  obtain ⟨s1, s2, s3, s4, s5, -⟩ := hS
  have L : ∀ (k i : Nat), i + k = E.length → P_X3_partsCaught_5 ns na nl (nI t) post (k + 1) (sumE (E.take i) (fun q => if q.testBit (11 + t) then D q else 0)) (nI i) := by
    intro k
    induction k with
    | zero =>
      intro i hi
      obtain rfl : i = E.length := by omega
      rw [List.take_length, sumE_range (n := N17) s3 (fun q hq => by
          obtain ⟨i, hi, e⟩ := mem_getD hq
          rw [← e]
          exact (s5 i hi).2.1) (fun q _ hq => by rw [s4 q hq]; simp)]
      exact ⟨fun _ => h, fun c => absurd ((cmp_le s1 (by omega) (by omega)).mpr (Nat.le_refl _)) c⟩
    | succ k ih =>
      intro i hi
      have hil : i < E.length := by omega
      obtain ⟨a1, a2, a3⟩ := s5 i hil
      have go := ih (i + 1) (by omega)
      rw [sumE_take hil] at go
      refine ⟨fun c => absurd ((cmp_le s1 (by omega) (by omega)).mp c) (by omega), fun _ => ⟨vp_in_nI (by omega) (by omega), ?_⟩⟩
      rw [nI_clamp (by omega), a1, a3, nI_1]
      show (((nI (E.getD i 0) &&& ((1 : Int32) <<< ((11 + nI t) &&& 31))) = 0) → _) ∧ ((¬ (nI (E.getD i 0) &&& ((1 : Int32) <<< ((11 + nI t) &&& 31))) = 0) → _)
      rw [show (11 : Int32) + nI t = nI (11 + t) from nI_add 11 t, sh1 (by omega), fa_bit (by omega)]
      refine ⟨fun c => ⟨fun _ => ?_, fun z => absurd rfl z⟩, fun c => ⟨fun z => absurd z (by decide), fun _ => ⟨vp_in_nI (by omega) (by omega), fun x hx => ?_⟩⟩⟩
      · rw [c] at go
        simpa using go
      · rw [if_pos (by simpa using c)] at go
        rw [hx]; exact go
  exact ⟨E.length + 1, L E.length 0 (by omega)⟩
