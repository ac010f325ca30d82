/-! what is read: the state of a reader is (fault, where, token) -/
abbrev PS : Type := Nat × Nat × Nat
def adv (f : Nat → Int32) (n s : Nat) : Nat := sk f n (s + tl f n s)
def rF (c : Nat) (p : PS) : PS := if p.1 = 0 then (c, p.2.2, p.2.2) else p
def rW (f : Nat → Int32) (n : Nat) (w : List Int32) (p : PS) : PS := if p.1 = 0 then (if tokIs f n p.2.2 w then (0, 0, adv f n p.2.2) else (1, p.2.2, p.2.2)) else p
def vlT (f : Nat → Int32) (n s : Nat) : Nat := vlC f s (tl f n s)
def rN (f : Nat → Int32) (n lo hi : Nat) (p : PS) : Nat × PS := if p.1 = 0 then (if kd f n p.2.2 = 2 then (if lo ≤ vlT f n p.2.2 ∧ vlT f n p.2.2 < hi then (vlT f n p.2.2, 0, 0, adv f n p.2.2) else (lo, 2, p.2.2, p.2.2)) else (lo, 1, p.2.2, p.2.2)) else (lo, p)
def rI (f : Nat → Int32) (n : Nat) (w : List Int32) (p : PS) : Nat × PS := if p.1 = 0 ∧ tokIs f n p.2.2 w then (1, 0, 0, adv f n p.2.2) else (0, p)
def rS (f : Nat → Int32) (n : Nat) (p : PS) : PS := if p.1 = 0 then (if kd f n p.2.2 = 3 then (0, 0, adv f n p.2.2) else (1, p.2.2, p.2.2)) else p
/-- the class -/
def CS (f : Nat → Int32) (n : Nat) (p : PS) (us : A1) : Prop := p.2.2 ≤ n ∧ p.1 < 4 ∧ p.2.1 ≤ n ∧ us 2 = nI n ∧ us 0 = nI p.1 ∧ (p.1 = 0 → us 1 = -1 ∧ us 3 = nI p.2.2 ∧ us 4 = nI (p.2.2 + tl f n p.2.2) ∧ us 5 = nI (kd f n p.2.2) ∧ us 6 = nI (if kd f n p.2.2 = 2 then vlT f n p.2.2 else 0)) ∧ (p.1 ≠ 0 → us 1 = nI p.2.1)
section CR
variable {f : Nat → Int32} {n : Nat} {us : A1} {ua : A2} {p : PS}
theorem adv_le (hs : p.2.2 ≤ n) : adv f n p.2.2 ≤ n := (sk_le (tl_le hs)).2
theorem CS.f0 (h : CS f n p us) (h0 : p.1 = 0) : us 0 = 0 := by rw [h.2.2.2.2.1, h0]; rfl
theorem CS.f1 (h : CS f n p us) (h0 : p.1 ≠ 0) : ¬ us 0 = 0 := fun e => h0 ((nI_eq (b := 0) (by have := h.2.1; omega) (by decide)).mp (h.2.2.2.2.1.symm.trans e))
theorem CS.next (h : CS f n p us) (h0 : p.1 = 0) : CS f n (0, 0, adv f n p.2.2) (va_up (va_up (va_up (va_up us 3 (nI (adv f n p.2.2))) 4 (nI (adv f n p.2.2 + tl f n (adv f n p.2.2)))) 5 (nI (kd f n (adv f n p.2.2)))) 6 (nI (if kd f n (adv f n p.2.2) = 2 then vlC f (adv f n p.2.2) (tl f n (adv f n p.2.2)) else 0))) := by
  obtain ⟨a, b, c, d, e, g, k⟩ := h
  refine ⟨adv_le a, show (0 : Nat) < 4 by decide, Nat.zero_le _, ?_, ?_, fun _ => ⟨?_, ?_, ?_, ?_, ?_⟩, fun q => absurd rfl q⟩
  · rw [up_ne (by decide), up_ne (by decide), up_ne (by decide), up_ne (by decide)]; exact d
  · rw [up_ne (by decide), up_ne (by decide), up_ne (by decide), up_ne (by decide), e, h0]
  · rw [up_ne (by decide), up_ne (by decide), up_ne (by decide), up_ne (by decide)]; exact (g h0).1
  · rw [up_ne (by decide), up_ne (by decide), up_ne (by decide), up_at]
  · rw [up_ne (by decide), up_ne (by decide), up_at]
  · rw [up_ne (by decide), up_at]
  · rw [up_at]; rfl
theorem c_fail (h : CS f n p us) {c : Nat} (hc : c ≠ 0) (hc4 : c < 4) {post : A1 → Prop} (hp : ∀ us', CS f n (rF c p) us' → post us') : P_X5_fail us (nI c) post := by
  obtain ⟨a, b, c', d, e, g, k⟩ := h
  by_cases h0 : p.1 = 0
  · have z : us 0 = 0 := by rw [e, h0]; rfl
    refine ⟨fun q => absurd z q, fun _ x hx => hp _ ?_⟩
    unfold rF
    rw [if_pos h0]
    refine ⟨a, hc4, a, ?_, ?_, fun q => absurd q hc, fun _ => ?_⟩
    · rw [up_ne (by decide), up_ne (by decide)]; exact d
    · rw [up_ne (by decide), up_at]
    · rw [up_at, hx]; exact (g h0).2.1
  · have z : ¬ us 0 = 0 := fun q => h0 ((nI_eq (b := 0) (by omega) (by decide)).mp (e.symm.trans q))
    refine ⟨fun _ => hp _ ?_, fun q => absurd q z⟩
    unfold rF
    rw [if_neg h0]
    exact ⟨a, b, c', d, e, g, k⟩
theorem c_stepT (hn : n ≤ 1600) (ha : ∀ i, i < n → ua 0 i = f i) (h : CS f n p us) (h0 : p.1 = 0) {post : Int32 → Int32 → Int32 → Int32 → Prop} (hp : post (nI (adv f n p.2.2)) (nI (adv f n p.2.2 + tl f n (adv f n p.2.2))) (nI (kd f n (adv f n p.2.2))) (nI (if kd f n (adv f n p.2.2) = 2 then vlC f (adv f n p.2.2) (tl f n (adv f n p.2.2)) else 0))) : P_X8_step (ua 0) (us 2) (us 3) (us 4) (us 5) (us 6) post := by
  obtain ⟨a, b, c', d, e, g, k⟩ := h
  rw [d, (g h0).2.2.1]
  exact c_step hn (tl_le a) ha _ _ _ hp
theorem c_readWord (hn : n ≤ 1600) (ha : ∀ i, i < n → ua 0 i = f i) (h : CS f n p us) {w : List Int32} (hw : okW w) {post : A1 → Prop} (hp : ∀ us', CS f n (rW f n w p) us' → post us') : P_X5_readWord us ua w post := by
  by_cases h0 : p.1 = 0
  · refine ⟨fun q => absurd (h.f0 h0) q, fun _ => ?_⟩
    have g := h.2.2.2.2.2.1 h0
    rw [g.2.1, g.2.2.1, g.2.2.2.1]
    unfold rW at hp
    rw [if_pos h0] at hp
    refine c_isWord hn h.1 ha hw (fun t => b1f ?_) (fun t => b0f ?_)
    · rw [if_pos t] at hp
      have := c_stepT hn ha h h0 (post := fun (spo_5 : Int32) (beh_6 : Int32) (kin_7 : Int32) (num_8 : Int32) => post (va_up (va_up (va_up (va_up us 3 spo_5) 4 beh_6) 5 kin_7) 6 num_8)) (hp _ (h.next h0))
      rw [g.2.1, g.2.2.1, g.2.2.2.1] at this
      exact this
    · rw [if_neg t] at hp
      refine c_fail (c := 1) h (by decide) (by decide) (fun us' h' => hp us' ?_)
      unfold rF at h'
      rw [if_pos h0] at h'
      exact h'
  · refine ⟨fun _ => c_fail (c := 1) h (by decide) (by decide) (fun us' h' => hp us' ?_), fun q => absurd q (h.f1 h0)⟩
    unfold rF at h'
    unfold rW
    rw [if_neg h0] at h' ⊢
    exact h'
theorem c_readIf (hn : n ≤ 1600) (ha : ∀ i, i < n → ua 0 i = f i) (h : CS f n p us) {w : List Int32} (hw : okW w) {post : Int32 → A1 → Prop} (hp : ∀ us', CS f n (rI f n w p).2 us' → post (nI (rI f n w p).1) us') : P_X5_readIf us ua w post := by
  unfold rI at hp
  by_cases h0 : p.1 = 0
  · refine ⟨fun q => absurd (h.f0 h0) q, fun _ => ?_⟩
    have g := h.2.2.2.2.2.1 h0
    rw [g.2.1, g.2.2.1, g.2.2.2.1]
    refine c_isWord hn h.1 ha hw (fun t => b1f ⟨fun q => absurd q (by decide), fun _ => ?_⟩) (fun t => b0f ⟨fun _ => ⟨Or.inl rfl, ?_⟩, fun q => absurd rfl q⟩)
    · rw [if_pos ⟨h0, t⟩] at hp
      exact c_stepT hn ha h h0 ⟨Or.inr rfl, hp _ (h.next h0)⟩
    · rw [if_neg (fun q => t q.2)] at hp
      exact hp us h
  · refine ⟨fun _ => ⟨fun _ => ⟨Or.inl rfl, ?_⟩, fun q => absurd rfl q⟩, fun q => absurd q (h.f1 h0)⟩
    rw [if_neg (fun q => h0 q.1)] at hp
    exact hp us h
theorem c_readSign (hn : n ≤ 1600) (ha : ∀ i, i < n → ua 0 i = f i) (h : CS f n p us) {post : A1 → Prop} (hp : ∀ us', CS f n (rS f n p) us' → post us') : P_X5_readSign us ua post := by
  have hk5 := kd_le f n p.2.2
  unfold rS at hp
  by_cases h0 : p.1 = 0
  · rw [if_pos h0] at hp
    refine ⟨fun q => absurd (h.f0 h0) q, fun _ => ?_⟩
    have g := h.2.2.2.2.2.1 h0
    have e5 : us 5 = 3 ↔ kd f n p.2.2 = 3 := by rw [g.2.2.2.1]; exact nI_eq (b := 3) (by omega) (by decide)
    refine ⟨fun t => c_fail (c := 1) h (by decide) (by decide) (fun us' h' => hp us' ?_), fun t => ?_⟩
    · rw [if_neg (fun q => t (e5.mpr q))]
      unfold rF at h'
      rw [if_pos h0] at h'
      exact h'
    · rw [if_pos (e5.mp t)] at hp
      exact c_stepT hn ha h h0 (hp _ (h.next h0))
  · rw [if_neg h0] at hp
    refine ⟨fun _ => c_fail (c := 1) h (by decide) (by decide) (fun us' h' => hp us' ?_), fun q => absurd q (h.f1 h0)⟩
    unfold rF at h'
    rw [if_neg h0] at h'
    exact h'
theorem c_readHead (hn : n ≤ 1600) (ha : ∀ i, i < n → ua 0 i = f i) (h : CS f n p us) (h0 : p.1 = 0) {b c : Nat} (hb : b ≤ 1) (hc : c ≠ 0) (hc4 : c < 4) {post : A1 → Prop} (hp : ∀ us', CS f n (if b = 1 then (0, 0, adv f n p.2.2) else rF c p) us' → post us') : P_X5_readHead us ua (nI b) (nI c) post := by
  refine ⟨fun t => ?_, fun t => ?_⟩
  · have : b = 0 := (nI_eq (b := 0) (by omega) (by decide)).mp t
    rw [if_neg (by omega)] at hp
    exact c_fail h hc hc4 hp
  · have : b = 1 := by
      have : b ≠ 0 := fun q => t (by rw [q]; rfl)
      omega
    rw [if_pos this] at hp
    exact c_stepT hn ha h h0 (hp _ (h.next h0))
/-- bounds lo .. hi - 1; the class's bound is the number below hi -/
theorem c_readNumber (hn : n ≤ 1600) (ha : ∀ i, i < n → ua 0 i = f i) (h : CS f n p us) {lo hi : Nat} (hlo : lo < 2 ^ 20) (hhi : hi < 2 ^ 20) {post : Int32 → A1 → Prop} (hp : ∀ us', CS f n (rN f n lo hi p).2 us' → post (nI (rN f n lo hi p).1) us') : P_X5_readNumber us ua (nI lo) (nI hi - 1) post := by
  have hk5 := kd_le f n p.2.2
  unfold rN at hp
  by_cases h0 : p.1 = 0
  · rw [if_pos h0] at hp
    have g := h.2.2.2.2.2.1 h0
    have e5 : us 5 = 2 ↔ kd f n p.2.2 = 2 := by rw [g.2.2.2.1]; exact nI_eq (b := 2) (by omega) (by decide)
    have hv : vlT f n p.2.2 ≤ 1000000 := vlC_le _ _ _
    have K46 : ∀ us', ¬ us' 0 = 0 → post (nI lo) us' → P_X5_readNumber_46 ua (nI lo) (nI hi - 1) post us' := fun us' q r => ⟨fun z => absurd z q, fun _ => r⟩
    refine ⟨fun t => ?_, fun t => ?_⟩
    · have k2 := e5.mp t
      rw [if_pos k2] at hp
      have e6 : us 6 = nI (vlT f n p.2.2) := by rw [g.2.2.2.2, if_pos k2]
      have K41 : ¬ (lo ≤ vlT f n p.2.2 ∧ vlT f n p.2.2 < hi) → P_X5_readNumber_41 ua (nI lo) (nI hi - 1) post us := by
        intro q
        rw [if_neg q] at hp
        refine c_fail (c := 2) h (by decide) (by decide) (fun us' h' => ?_)
        unfold rF at h'
        rw [if_pos h0] at h'
        exact K46 us' (h'.f1 (show (2 : Nat) ≠ 0 by decide)) (hp us' h')
      have e7 : us 6 ≤ nI hi - 1 ↔ vlT f n p.2.2 < hi := by
        rw [e6, Int32.le_iff_toInt_le, show (1 : Int32) = nI 1 from rfl, nS (by omega) (by decide), nI_toInt (by omega)]
        omega
      have e8 : us 6 < nI lo ↔ vlT f n p.2.2 < lo := by rw [e6]; exact nI_ltI (by omega) (by omega)
      refine ⟨fun q => K41 (fun r => by have := e8.mp q; omega), fun q => ⟨fun r => ⟨fun _ x hx => ?_, fun z => absurd (h.f0 h0) z⟩, fun r => K41 (fun z => r (e7.mpr z.2))⟩⟩
      have q' : ¬ vlT f n p.2.2 < lo := fun z => q (e8.mpr z)
      rw [if_pos ⟨by omega, e7.mp r⟩] at hp
      rw [hx]
      refine c_stepT hn ha h h0 ?_
      show post (us 6) _
      rw [e6]
      exact hp _ (h.next h0)
    · rw [if_neg (fun q => t (e5.mpr q))] at hp
      refine c_fail (c := 1) h (by decide) (by decide) (fun us' h' => ?_)
      unfold rF at h'
      rw [if_pos h0] at h'
      exact K46 us' (h'.f1 (show (1 : Nat) ≠ 0 by decide)) (hp us' h')
  · rw [if_neg h0] at hp
    have z := h.f1 h0
    have fin : P_X5_readNumber_46 ua (nI lo) (nI hi - 1) post us := ⟨fun q => absurd q z, fun _ => hp us h⟩
    have F : ∀ (c : Int32) (K : A1 → Prop), K us → P_X5_fail us c K := fun c K hK => ⟨fun _ => hK, fun q => absurd q z⟩
    exact ⟨fun _ => ⟨fun _ => F 2 _ fin, fun _ => ⟨fun _ => fin, fun _ => F 2 _ fin⟩⟩, fun _ => F 1 _ fin⟩
end CR
