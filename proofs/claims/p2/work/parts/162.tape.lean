/-! the tape: feed, end, fault -/
def byt (p : Int32) (j : Nat) : Int32 := (((p >>> (nI (24 - 8 * j) &&& 31)).toInt8.toInt32).toInt8.toInt32)
theorem byt_c (p : Int32) {s : Nat} (hs : s ≤ 24) : ((((p.toUInt32 >>> ((nI s).toUInt32 &&& Int32.toUInt32 31)).toInt32).toInt8.toInt32).toInt8.toInt32) = (((p >>> (nI s &&& 31)).toInt8.toInt32).toInt8.toInt32) := by
  have h1 : ∀ s, s ≤ 24 → ((nI s).toUInt32 &&& Int32.toUInt32 31).toNat % 32 = s := by decide +kernel
  have h2 : ∀ s, s ≤ 24 → ((nI s &&& 31).toBitVec.smod 32).toNat = s := by decide +kernel
  have e : ((p.toUInt32 >>> ((nI s).toUInt32 &&& Int32.toUInt32 31)).toInt32).toInt8 = (p >>> (nI s &&& 31)).toInt8 := by
    apply Int8.toBitVec_inj.1
    show BitVec.signExtend 8 ((p.toUInt32 >>> ((nI s).toUInt32 &&& Int32.toUInt32 31)).toBitVec) = BitVec.signExtend 8 (p >>> (nI s &&& 31)).toBitVec
    have a : (p.toUInt32 >>> ((nI s).toUInt32 &&& Int32.toUInt32 31)).toBitVec = p.toBitVec >>> s := by
      apply BitVec.eq_of_toNat_eq
      show (p.toUInt32 >>> ((nI s).toUInt32 &&& Int32.toUInt32 31)).toNat = _
      rw [UInt32.toNat_shiftRight, h1 s hs, BitVec.toNat_ushiftRight]
      rfl
    have b : (p >>> (nI s &&& 31)).toBitVec = p.toBitVec.sshiftRight s := by
      show p.toBitVec.sshiftRight ((nI s &&& 31).toBitVec.smod 32).toNat = _
      rw [h2 s hs]
    rw [a, b]
    apply BitVec.eq_of_getLsbD_eq
    intro i hi
    rw [BitVec.getLsbD_signExtend, BitVec.getLsbD_signExtend]
    simp only [hi, decide_true, Bool.true_and, show i < 32 by omega, if_true]
    rw [BitVec.getLsbD_ushiftRight, BitVec.getLsbD_sshiftRight]
    simp only [show s + i < 32 by omega, if_true, show ¬ 32 ≤ i by omega, decide_false, Bool.not_false, Bool.true_and]
  rw [e]
def fA (f : Nat → Int32) (n : Nat) (p : Int32) : Nat → Int32 := fun i => if i < n then f i else byt p (i - n)
section TP
variable {us : A1} {ua : A2} {rs : A1} {ra ra2 sa : A2} {sl : L2} {ns : A1} {na : A2} {nl : L2} {yt : Int32} {im : Img} {ms : A1} {ma : A2} {ml : L2}
theorem c_append {n : Nat} (hn : n + 4 ≤ 1600) {f a : Nat → Int32} (ha : ∀ i, i < n → a i = f i) (p : Int32) {post : (Nat → Int32) → Int32 → Prop} (h : ∀ a', (∀ i, i < n + 4 → a' i = fA f n p i) → post a' (nI (n + 4))) : P_X8_append a (nI n) p post := by
  have L : ∀ (d j : Nat) (b : Nat → Int32), j + d = 4 → (∀ i, i < n + j → b i = fA f n p i) → P_X8_append_3 p post (d + 1) (nI (32 - 8 * j) - 8) b (nI (n + j)) := by
    intro d
    induction d with
    | zero =>
      intro j b hj q
      obtain rfl : j = 4 := by omega
      exact ⟨fun _ => h b q, fun c => absurd (by decide) c⟩
    | succ d ih =>
      intro j b hj q
      have e : nI (32 - 8 * j) - 8 = nI (24 - 8 * j) := by
        rw [show (8 : Int32) = nI 8 from rfl, pk_sub (by omega)]
        congr 1
        omega
      rw [e]
      refine ⟨fun c => absurd c (nI_pos (by omega)), fun _ => ⟨fun c => absurd ((nI_leI (a := 1600) (by decide) (by omega)).mp c) (by omega), fun _ => ⟨vp_in_nI (by omega) (by decide), fun x hx => ?_⟩⟩⟩
      rw [byt_c p (by omega), nI_clamp (by omega)]
      rw [nI_1] at hx
      rw [hx, show nI (24 - 8 * j) + (-8) = nI (32 - 8 * (j + 1)) - 8 by rw [show 32 - 8 * (j + 1) = 24 - 8 * j by omega, Int32.sub_eq_add_neg]]
      refine ih (j + 1) _ (by omega) (fun i hi => ?_)
      by_cases c : i = n + j
      · rw [c, u_at]
        unfold fA byt
        rw [if_neg (by omega), show n + j - n = j by omega]
      · rw [u_ne c]; exact q i (by omega)
  exact ⟨5, L 4 0 a (by omega) (fun i hi => by unfold fA; rw [if_pos (by omega)]; exact ha i (by omega))⟩
theorem m_four {n : Nat} (hn : n + 4 ≤ 1600) {f : Nat → Int32} (e1 : ms 1 = nI n) (ha : ∀ i, i < n → ma 2 i = f i) (p : Int32) {post : A1 → A2 → Prop} (h : ∀ mt mb, (∀ j, j ≠ 1 → mt j = ms j) → mt 1 = nI (n + 4) → (∀ j, j ≠ 2 → mb j = ma j) → (∀ i, i < n + 4 → mb 2 i = fA f n p i) → post mt mb) : P_X12_four ms ma p post := by
  have L : ∀ (d j : Nat) (mt : A1) (mb : A2), j + d = 4 → (∀ j, j ≠ 1 → mt j = ms j) → mt 1 = nI (n + j) → (∀ j, j ≠ 2 → mb j = ma j) → (∀ i, i < n + j → mb 2 i = fA f n p i) → P_X12_four_3 p post (d + 1) (nI (32 - 8 * j) - 8) mt mb := by
    intro d
    induction d with
    | zero =>
      intro j mt mb hj q1 q2 q3 q
      obtain rfl : j = 4 := by omega
      exact ⟨fun _ => h mt mb q1 q2 q3 q, fun c => absurd (by decide) c⟩
    | succ d ih =>
      intro j mt mb hj q1 q2 q3 q
      have e : nI (32 - 8 * j) - 8 = nI (24 - 8 * j) := by
        rw [show (8 : Int32) = nI 8 from rfl, pk_sub (by omega)]
        congr 1
        omega
      rw [e]
      refine ⟨fun c => absurd c (nI_pos (by omega)), fun _ => ?_⟩
      rw [q2]
      refine ⟨vp_in_nI (by omega) (by decide), fun x hx => ?_⟩
      rw [nI_clamp (by omega)]
      rw [nI_1] at hx
      rw [hx, show nI (24 - 8 * j) + (-8) = nI (32 - 8 * (j + 1)) - 8 by rw [show 32 - 8 * (j + 1) = 24 - 8 * j by omega, Int32.sub_eq_add_neg]]
      refine ih (j + 1) _ _ (by omega) (fun y hy => by rw [up_ne hy]; exact q1 y hy) up_at (fun y hy => by rw [up_ne hy]; exact q3 y hy) (fun i hi => ?_)
      rw [up_at]
      by_cases c : i = n + j
      · rw [c, u_at]
        unfold fA byt
        rw [if_neg (by omega), show n + j - n = j by omega]
      · rw [u_ne c]; exact q i (by omega)
  exact ⟨5, L 4 0 ms ma (by omega) (fun _ _ => rfl) e1 (fun _ _ => rfl) (fun i hi => by unfold fA; rw [if_pos (by omega)]; exact ha i (by omega))⟩
theorem q_feed (hI : Inv us ua rs ra ra2 sa sl ns na nl yt im ms ma ml) (a b c d e : Int32) : P_X11_feed us ua a b c d e (fun r us' ua' => P_X12_feed ms ma a b c d e (fun r' mt mb => r = r' ∧ Inv us' ua' rs ra ra2 sa sl ns na nl yt im mt mb ml)) := by
  have fin : Inv us ua rs ra ra2 sa sl ns na nl yt im (va_up ms 0 0) ma ml := hI.rows (fun j a _ => up_ne a) (fun _ _ => rfl) (hI.1.z rfl) hI.2.2.2.2.1
  obtain ⟨t0, t1, n, hn, e2, e1, hf⟩ := hI.1
  unfold P_X11_feed P_X12_feed
  rw [e2, e1, show nI n + 20 = nI (n + 20) by rw [show (20 : Int32) = nI 20 from rfl, nI_add], show (nI (n + 20) ≤ (1600 : Int32)) = (nI (n + 20) ≤ nI 1600) from rfl, nI_leI (by omega) (by decide)]
  refine ⟨fun z => ?_, fun z => ⟨fun q => absurd q z, fun _ => ⟨rfl, fin⟩⟩⟩
  refine c_append (by omega) (f := ma 2) hf a (fun a1 h1 => c_append (by omega) h1 b (fun a2 h2 => c_append (by omega) h2 c (fun a3 h3 => c_append (by omega) h3 d (fun a4 h4 => c_append (by omega) h4 e (fun a5 h5 => ⟨fun _ => ?_, fun q => absurd z q⟩)))))
  refine m_four (n := n) (ms := va_up ms 0 0) (by omega) (by rw [up_ne (by decide)]; exact e1) (f := ma 2) (fun _ _ => rfl) a (fun m1 b1 p1 q1 r1 s1 => m_four (by omega) q1 s1 b (fun m2 b2 p2 q2 r2 s2 => m_four (by omega) q2 s2 c (fun m3 b3 p3 q3 r3 s3 => m_four (by omega) q3 s3 d (fun m4 b4 p4 q4 r4 s4 => m_four (by omega) q4 s4 e (fun m5 b5 p5 q5 r5 s5 => ?_)))))
  have hm : ∀ j, j ≠ 0 → j ≠ 1 → m5 j = ms j := fun j j0 j1 => by rw [p5 j j1, p4 j j1, p3 j j1, p2 j j1, p1 j j1, up_ne j0]
  have hb : ∀ j, j ≠ 2 → b5 j = ma j := fun j j2 => by rw [r5 j j2, r4 j j2, r3 j j2, r2 j j2, r1 j j2]
  refine ⟨q5.symm, hI.rows hm (fun j hj => hb j (by omega)) ⟨?_, ?_, n + 20, z, up_at, q5, fun i hi => ?_⟩ (fun k hk => by rw [hb 0 (by decide), hb 1 (by decide)]; exact hI.2.2.2.2.1 k hk)⟩
  · rw [up_ne (by decide), hm 8 (by decide) (by decide)]; exact t0
  · rw [up_ne (by decide), hm 9 (by decide) (by decide)]; exact t1
  · rw [up_at, h5 i (by omega), s5 i (by omega)]
theorem q_end (hI : Inv us ua rs ra ra2 sa sl ns na nl yt im ms ma ml) (p : Int32) : P_X11_end us p (fun r us' => P_X12_end ms p (fun r' mt => r = r' ∧ Inv us' ua rs ra ra2 sa sl ns na nl yt im mt ma ml)) := by
  have fin : Inv us ua rs ra ra2 sa sl ns na nl yt im (va_up ms 0 0) ma ml := hI.rows (fun j a _ => up_ne a) (fun _ _ => rfl) (hI.1.z rfl) hI.2.2.2.2.1
  obtain ⟨t0, t1, n, hn, e2, e1, hf⟩ := hI.1
  unfold P_X11_end P_X12_end
  rw [e2, e1]
  rcases ixs p (n := n + 1) (by omega) with h | ⟨k, hk, rfl⟩
  · have B : P_X12_in p.toInt64 0 (nI n).toInt64 (fun (r1 : Int32) => (((¬ r1 = 0) → (-1 : Int32) = p ∧ Inv us ua rs ra ra2 sa sl ns na nl yt im (va_up (va_up ms 0 0) 1 p) ma ml) ∧ ((r1 = 0) → (-1 : Int32) = -1 ∧ Inv us ua rs ra ra2 sa sl ns na nl yt im (va_up ms 0 0) ma ml))) := by
      rw [nI_l (by omega)]
      exact m_inL_bad h (by omega) (b0t ⟨rfl, fin⟩)
    refine ⟨fun _ => B, fun c => ⟨fun c2 => ?_, fun _ => B⟩⟩
    exfalso
    have h2 := h.resolve_left c
    rw [Int32.le_iff_toInt_le, nI_toInt (by omega)] at h2
    rw [Int32.le_iff_toInt_le, nI_toInt (by omega)] at c2
    omega
  · refine ⟨fun c => absurd c (nI_pos (by omega)), fun _ => ⟨fun _ => ?_, fun c => absurd (nI_le (by omega) (by omega)) c⟩⟩
    rw [nI_l (show n < 2 ^ 31 by omega)]
    refine m_inL_ok (by omega) (by omega) (b1t ⟨rfl, hI.rows (fun j a b => by rw [up_ne b, up_ne a]) (fun _ _ => rfl) ⟨?_, ?_, k, by omega, up_at, up_at, fun i hi => hf i (by omega)⟩ hI.2.2.2.2.1⟩)
    · rw [up_ne (by decide), up_ne (by decide), up_ne (by decide)]; exact t0
    · rw [up_ne (by decide), up_ne (by decide), up_ne (by decide)]; exact t1
theorem q_fault (hI : Inv us ua rs ra ra2 sa sl ns na nl yt im ms ma ml) (p : Int32) : P_X11_fault us p (fun r => P_X12_fault ms p (fun r' mt => r = r' ∧ Inv us ua rs ra ra2 sa sl ns na nl yt im mt ma ml)) := by
  have fin : Inv us ua rs ra ra2 sa sl ns na nl yt im (va_up ms 0 0) ma ml := hI.rows (fun j a _ => up_ne a) (fun _ _ => rfl) (hI.1.z rfl) hI.2.2.2.2.1
  obtain ⟨t0, t1, -⟩ := hI.1
  by_cases h0 : p = 0
  · exact ⟨fun _ => ⟨fun c => absurd h0 c, fun _ => ⟨t0, fin⟩⟩, fun c => absurd (h0.symm.trans c) (by decide), fun c => absurd h0 c⟩
  · by_cases h1 : p = 1
    · exact ⟨fun c => absurd c h0, fun _ => ⟨fun _ => ⟨fun c => absurd h1 c, fun _ => ⟨t1, fin⟩⟩, fun c => absurd c h0⟩, fun _ c => absurd h1 c⟩
    · exact ⟨fun c => absurd c h0, fun c => absurd c h1, fun _ _ => ⟨fun _ => ⟨fun _ => ⟨rfl, fin⟩, fun c => absurd c h1⟩, fun c => absurd c h0⟩⟩
end TP
