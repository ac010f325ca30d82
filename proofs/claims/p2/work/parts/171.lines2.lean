/-! the class's lines: bikes, thieves, and any line -/
section C2
variable {f : Nat → Int32} {n : Nat} {us : A1} {ua : A2} {p : PS} {rs : A1} {ra : A2} {v : Rl}
theorem rI_le {f : Nat → Int32} {n : Nat} {w : List Int32} {p : PS} : (rI f n w p).1 ≤ 1 := by
  unfold rI
  split
  · exact Nat.le_refl 1
  · exact Nat.zero_le 1
theorem c_standsX (hC : RelC v rs ra) (hv : okV v) (x : Int32) {post : Int32 → Prop} (hy : ∀ b, b < v 13 0 → nI (v 22 b) = x → post (nI b)) (hno : (∀ b, b < v 13 0 → nI (v 22 b) ≠ x) → post (-1)) : P_X0_standingAt (rs 13) (ra 6) x post := by
  have h13 := ok13 hv
  have L : ∀ (k i : Nat), i + k = v 13 0 → (∀ b, b < i → nI (v 22 b) ≠ x) → P_X0_standingAt_2 (rs 13) (ra 6) x post (k + 1) (nI i) := by
    intro k
    induction k with
    | zero =>
      intro i hi q
      obtain rfl : i = v 13 0 := by omega
      exact ⟨fun _ => hno q, fun c => absurd ((cmp_le (rc_s hC 13) (by omega) (by omega)).mpr (Nat.le_refl _)) c⟩
    | succ k ih =>
      intro i hi q
      refine ⟨fun c => absurd ((cmp_le (rc_s hC 13) (by omega) (by omega)).mp c) (by omega), fun _ => ⟨vp_in_nI (by omega) (by decide), ?_⟩⟩
      rw [nI_clamp (by omega), (hC.2.2.2.2.1 i (by omega)).2.2.1, nI_1]
      refine ⟨fun c => ih (i + 1) (by omega) (fun b hb => ?_), fun c => hy i (by omega) c⟩
      by_cases e : b = i
      · rw [e]; exact c
      · exact q b (by omega)
  exact ⟨v 13 0 + 1, L (v 13 0) 0 (by omega) (fun b hb => by omega)⟩
theorem lBk_0 {q : PS} (h : (lBk f n v q).2.1 = 0) : q.1 = 0 := by
  unfold lBk at h
  split at h
  · exact rI_0 h
  · exact rI_0 (rN_0 h)
theorem lTk_0 {q : PS} (h : (lTk f n v q).2.2.1 = 0) : q.1 = 0 := by
  unfold lTk at h
  split at h
  · split at h
    · exact rI_0 (rI_0 (rW_0 (rN_0 h)))
    · exact rI_0 (rI_0 h)
  · exact rI_0 h
theorem c_bike111 (hn : n ≤ 1600) (ha : ∀ i, i < n → ua 0 i = f i) (hv : okV v) {q : PS} (h : CS f n q us) (hC : RelC v rs ra) (h13 : q.1 = 0 → v 13 0 < 10) {a b c d : Nat} {post : A1 → A1 → A2 → Prop} (hp : ∀ us' rs' ra', CS f n (rI f n [109, 97, 114, 107, 101, 100] q).2 us' → BOK ra' → ((rI f n [109, 97, 114, 107, 101, 100] q).2.1 = 0 → RelC (aBike v a b c d (rI f n [109, 97, 114, 107, 101, 100] q).1) rs' ra') → post us' rs' ra') : P_X5_readBike_111 ua post (nI a) (nI b) (nI c) (nI d - 1) us rs ra := by
  have h13' := ok13 hv
  refine c_readIf hn ha h (by decide) (fun u10 h10 => ?_)
  have hle := rI_le (f := f) (n := n) (w := [109, 97, 114, 107, 101, 100]) (p := q)
  have h01 := rI_01 (f := f) (n := n) (w := [109, 97, 114, 107, 101, 100]) (p := q)
  have hz := rI_0 (f := f) (n := n) (w := [109, 97, 114, 107, 101, 100]) (p := q)
  generalize rI f n [109, 97, 114, 107, 101, 100] q = y at hp h10 hle h01 hz ⊢
  by_cases z : y.2.1 = 0
  · have hlt := h13 (hz z)
    refine ⟨fun q => absurd (h10.f0 z) q, fun _ => ?_⟩
    rw [rc_s hC 13]
    refine ⟨fun q => absurd ((nI_leI (a := 10) (by decide) (by omega)).mp q) (by omega), fun _ => ⟨vp_in_nI (by omega) (by decide), vp_in_nI (by omega) (by decide), vp_in_nI (by omega) (by decide), vp_in_nI (by omega) (by decide), vp_in_nI (by omega) (by decide), h01, fun x hx => ?_⟩⟩
    rw [nI_1] at hx
    rw [nI_clamp (by omega), hx]
    have R := hC.aBike hlt a b c d y.1 hle
    exact hp u10 _ _ h10 R.bok (fun _ => R)
  · exact ⟨fun _ => hp u10 rs ra h10 hC.bok (fun q => absurd q z), fun q => absurd q (h10.f1 z)⟩
theorem c_bike70 (hn : n ≤ 1600) (ha : ∀ i, i < n → ua 0 i = f i) (hv : okV v) {q : PS} (h : CS f n q us) (hC : RelC v rs ra) (h13 : q.1 = 0 → v 13 0 < 10) {a b : Nat} {post : A1 → A1 → A2 → Prop} (hp : ∀ us' rs' ra', CS f n (rI f n [109, 97, 114, 107, 101, 100] (lBk f n v (rN f n 0 (v 0 0) q).2).2).2 us' → BOK ra' → ((rI f n [109, 97, 114, 107, 101, 100] (lBk f n v (rN f n 0 (v 0 0) q).2).2).2.1 = 0 → RelC (aBike v a b (rN f n 0 (v 0 0) q).1 (lBk f n v (rN f n 0 (v 0 0) q).2).1 (rI f n [109, 97, 114, 107, 101, 100] (lBk f n v (rN f n 0 (v 0 0) q).2).2).1) rs' ra') → post us' rs' ra') : P_X5_readBike_70 ua post (nI a) (nI b) us rs ra := by
  have h0 := ok0 hv
  have h12 := ok12 hv
  unfold P_X5_readBike_70
  rw [rc_s hC 0, rc_s hC 12]
  have hz := rN_0 (f := f) (n := n) (lo := 0) (hi := v 0 0) (p := q)
  refine c_readNumber (lo := 0) (hi := v 0 0) hn ha h (by decide) (by omega) (fun u7 h7 => ?_)
  generalize rN f n 0 (v 0 0) q = y7 at hp h7 hz ⊢
  have hb := lBk_0 (f := f) (n := n) (v := v) (q := y7.2)
  refine c_readIf hn ha h7 (by decide) (fun u8 h8 => ?_)
  have hle := rI_le (f := f) (n := n) (w := [108, 111, 99, 107]) (p := y7.2)
  have e0 : lBk f n v y7.2 = if (rI f n [108, 111, 99, 107] y7.2).1 = 0 then (0, (rI f n [108, 111, 99, 107] y7.2).2) else ((rN f n 0 (v 12 0) (rI f n [108, 111, 99, 107] y7.2).2).1 + 1, (rN f n 0 (v 12 0) (rI f n [108, 111, 99, 107] y7.2).2).2) := rfl
  generalize lBk f n v y7.2 = z9 at hp hb e0
  generalize rI f n [108, 111, 99, 107] y7.2 = y8 at h8 hle e0 ⊢
  refine ⟨fun t => ?_, fun t => ?_⟩
  · have e : y8.1 = 0 := (nI_eq (b := 0) (by omega) (by decide)).mp t
    rw [if_pos e] at e0
    subst e0
    exact c_bike111 (d := 0) hn ha hv h8 hC (fun z => h13 (hz (hb z))) hp
  · have e : ¬ y8.1 = 0 := fun z => t (by rw [z]; rfl)
    rw [if_neg e] at e0
    subst e0
    refine c_readNumber (lo := 0) (hi := v 12 0) hn ha h8 (by decide) (by omega) (fun u9 h9 => ?_)
    generalize rN f n 0 (v 12 0) y8.2 = y9 at hp hb h9 ⊢
    have K := c_bike111 (d := y9.1 + 1) hn ha hv h9 hC (fun z => h13 (hz (hb z))) hp
    rw [nI_pre (by omega)] at K
    exact K
theorem c_readBike (hn : n ≤ 1600) (ha : ∀ i, i < n → ua 0 i = f i) (hv : okV v) (h : CS f n p us) (hC : RelC v rs ra) (h13 : p.1 = 0 → v 13 0 < 10) {q6 : PS} (hq6 : q6 = lB2 f n v (lB1 f n p).2.2) {post : A1 → A1 → A2 → Prop} (hp : ∀ us' rs' ra', CS f n (rI f n [109, 97, 114, 107, 101, 100] (lBk f n v (rN f n 0 (v 0 0) q6).2).2).2 us' → BOK ra' → ((rI f n [109, 97, 114, 107, 101, 100] (lBk f n v (rN f n 0 (v 0 0) q6).2).2).2.1 = 0 → RelC (aBike v (lB1 f n p).1 (lB1 f n p).2.1 (rN f n 0 (v 0 0) q6).1 (lBk f n v (rN f n 0 (v 0 0) q6).2).1 (rI f n [109, 97, 114, 107, 101, 100] (lBk f n v (rN f n 0 (v 0 0) q6).2).2).1) rs' ra') → post us' rs' ra') : P_X5_readBike us ua rs ra post := by
  have h13' := ok13 hv
  have hz5 : (lB1 f n p).2.2.1 = 0 → p.1 = 0 := fun z => rW_0 (rN_0 (rW_0 (rN_0 (rW_0 z))))
  refine c_readWord hn ha h (by decide) (fun _ h1 => c_readNumber (lo := 0) (hi := 10000) hn ha h1 (by decide) (by decide) (fun _ h2 => c_readWord hn ha h2 (by decide) (fun _ h3 => c_readNumber (lo := 0) (hi := 10000) hn ha h3 (by decide) (by decide) (fun _ h4 => c_readWord hn ha h4 (by decide) (fun u5 h5' => ?_)))))
  have h5 : CS f n (lB1 f n p).2.2 u5 := h5'
  show ((¬ u5 5 = 2) → P_X5_readBike_70 ua post (nI (lB1 f n p).1) (nI (lB1 f n p).2.1) u5 rs ra) ∧ ((u5 5 = 2) → P_X0_standingAt (rs 13) (ra 6) (u5 6) (fun (r25 : Int32) => (((r25 = (-1)) → P_X5_readBike_70 ua post (nI (lB1 f n p).1) (nI (lB1 f n p).2.1) u5 rs ra) ∧ ((¬ r25 = (-1)) → P_X5_fail u5 2 (fun (us_27 : Nat → Int32) => (P_X5_readBike_70 ua post (nI (lB1 f n p).1) (nI (lB1 f n p).2.1) us_27 rs ra))))))
  generalize lB1 f n p = y at *
  obtain ⟨a, b, q5⟩ := y
  simp only at *
  have K : ∀ u6, CS f n q6 u6 → (q6.1 = 0 → p.1 = 0) → P_X5_readBike_70 ua post (nI a) (nI b) u6 rs ra := fun u6 h6 hz6 => c_bike70 hn ha hv h6 hC (fun z => h13 (hz6 z)) hp
  have K0 : ¬ (q5.1 = 0 ∧ kd f n q5.2.2 = 2 ∧ stN v (vlT f n q5.2.2) = true) → P_X5_readBike_70 ua post (nI a) (nI b) u5 rs ra := by
    intro c
    unfold lB2 at hq6
    rw [if_neg c] at hq6
    subst hq6
    exact K u5 h5 hz5
  have hk5 := kd_le f n q5.2.2
  by_cases z : q5.1 = 0
  · obtain ⟨-, -, -, g5, g6⟩ := h5.2.2.2.2.2.1 z
    have e5 : u5 5 = 2 ↔ kd f n q5.2.2 = 2 := by rw [g5]; exact nI_eq (b := 2) (by omega) (by decide)
    refine ⟨fun t => K0 (fun r => t (e5.mpr r.2.1)), fun t => ?_⟩
    have k2 := e5.mp t
    rw [if_pos k2] at g6
    have hv1 : vlT f n q5.2.2 ≤ 1000000 := vlC_le _ _ _
    refine c_standsX hC hv (u5 6) (fun b' hb e => ⟨fun r => absurd r (nI_nm1 (by omega)), fun _ => ?_⟩) (fun e => ⟨fun _ => K0 ?_, fun r => absurd rfl r⟩)
    · have b22 := (hv.2.2.2.2.1 b' hb).2.2.1
      rw [g6, nI_eq (by omega) (by omega)] at e
      have hst : stN v (vlT f n q5.2.2) = true := by
        unfold stN
        simp
        exact ⟨b', hb, e⟩
      unfold lB2 at hq6
      rw [if_pos ⟨z, k2, hst⟩] at hq6
      subst hq6
      exact c_fail (c := 2) h5 (by decide) (by decide) (fun u6 h6 => K u6 h6 (fun z => hz5 (rF_0 z)))
    · intro r
      have s := r.2.2
      unfold stN at s
      simp at s
      obtain ⟨b', hb, eb⟩ := s
      exact e b' hb (by rw [g6, eb])
  · have c0 : ¬ (q5.1 = 0 ∧ kd f n q5.2.2 = 2 ∧ stN v (vlT f n q5.2.2) = true) := fun r => z r.1
    refine ⟨fun t => K0 c0, fun t => c_standsX hC hv (u5 6) (fun b' hb e => ⟨fun r => absurd r (nI_nm1 (by omega)), fun _ => ?_⟩) (fun e => ⟨fun _ => K0 c0, fun r => absurd rfl r⟩)⟩
    exact ⟨fun _ => K0 c0, fun r => absurd r (h5.f1 z)⟩
theorem c_thief100 (hv : okV v) {q : PS} (h : CS f n q us) (hC : RelC v rs ra) (h14 : q.1 = 0 → v 14 0 < 6) {a b c d e : Nat} {post : A1 → A1 → A2 → Prop} (hp : ∀ us' rs' ra', CS f n q us' → BOK ra' → (q.1 = 0 → RelC (aThief v a b c d e) rs' ra') → post us' rs' ra') : P_X5_readThief_100 ua post (nI a) (nI b) (nI c) (nI d) (nI e - 1) us rs ra := by
  have h14' := ok14 hv
  by_cases z : q.1 = 0
  · have hlt := h14 z
    refine ⟨fun q => absurd (h.f0 z) q, fun _ => ?_⟩
    rw [rc_s hC 14]
    refine ⟨fun q => absurd ((nI_leI (a := 6) (by decide) (by omega)).mp q) (by omega), fun _ => ⟨vp_in_nI (by omega) (by decide), vp_in_nI (by omega) (by decide), vp_in_nI (by omega) (by decide), vp_in_nI (by omega) (by decide), vp_in_nI (by omega) (by decide), fun x hx => ?_⟩⟩
    rw [nI_1] at hx
    rw [nI_clamp (by omega), hx]
    have R := hC.aThief a b c d e
    exact hp us _ _ h R.bok (fun _ => R)
  · exact ⟨fun _ => hp us rs ra h hC.bok (fun q => absurd q z), fun q => absurd q (h.f1 z)⟩
theorem c_readThief (hn : n ≤ 1600) (ha : ∀ i, i < n → ua 0 i = f i) (hv : okV v) (h : CS f n p us) (hC : RelC v rs ra) (h14 : p.1 = 0 → v 14 0 < 6) {post : A1 → A1 → A2 → Prop} (hp : ∀ us' rs' ra', CS f n (lTk f n v (lT1 f n p).2.2.2).2.2 us' → BOK ra' → ((lTk f n v (lT1 f n p).2.2.2).2.2.1 = 0 → RelC (aThief v (lT1 f n p).1 (lT1 f n p).2.1 (lT1 f n p).2.2.1 (lTk f n v (lT1 f n p).2.2.2).1 (lTk f n v (lT1 f n p).2.2.2).2.1) rs' ra') → post us' rs' ra') : P_X5_readThief us ua rs ra post := by
  have h13' := ok13 hv
  have hz6 : (lT1 f n p).2.2.2.1 = 0 → p.1 = 0 := fun z => rW_0 (rN_0 (rW_0 (rN_0 (rW_0 (rN_0 z)))))
  have T : ∀ (a b c : Nat) (q : PS) (u6 : A1), CS f n q u6 → (q.1 = 0 → p.1 = 0) → (∀ us' rs' ra', CS f n (lTk f n v q).2.2 us' → BOK ra' → ((lTk f n v q).2.2.1 = 0 → RelC (aThief v a b c (lTk f n v q).1 (lTk f n v q).2.1) rs' ra') → post us' rs' ra') → P_X5_readIf u6 ua ([98, 101, 115, 116]) (fun (r18 : Int32) (us_17 : Nat → Int32) => (((r18 = 0) → P_X5_readIf us_17 ua ([97, 110, 121]) (fun (r21 : Int32) (us_20 : Nat → Int32) => (((r21 = 0) → P_X5_readWord us_20 ua ([106, 117, 115, 116]) (fun (us_23 : Nat → Int32) => (P_X5_readNumber us_23 ua 0 ((rs 13) - 1) (fun (r25 : Int32) (us_24 : Nat → Int32) => (P_X5_readThief_100 ua post (nI a) (nI b) (nI c) 2 r25 us_24 rs ra))))) ∧ ((¬ r21 = 0) → P_X5_readThief_100 ua post (nI a) (nI b) (nI c) 1 (-1) us_20 rs ra)))) ∧ ((¬ r18 = 0) → P_X5_readThief_100 ua post (nI a) (nI b) (nI c) 0 (-1) us_17 rs ra))) := by
    intro a b c q u6 h6 hz hp
    have hb := lTk_0 (f := f) (n := n) (v := v) (q := q)
    have e0 : lTk f n v q = if (rI f n [98, 101, 115, 116] q).1 = 0 then (if (rI f n [97, 110, 121] (rI f n [98, 101, 115, 116] q).2).1 = 0 then (2, (rN f n 0 (v 13 0) (rW f n [106, 117, 115, 116] (rI f n [97, 110, 121] (rI f n [98, 101, 115, 116] q).2).2)).1 + 1, (rN f n 0 (v 13 0) (rW f n [106, 117, 115, 116] (rI f n [97, 110, 121] (rI f n [98, 101, 115, 116] q).2).2)).2) else (1, 0, (rI f n [97, 110, 121] (rI f n [98, 101, 115, 116] q).2).2)) else (0, 0, (rI f n [98, 101, 115, 116] q).2) := rfl
    generalize lTk f n v q = z8 at hp hb e0
    refine c_readIf hn ha h6 (by decide) (fun u7 h7 => ?_)
    have l7 := rI_le (f := f) (n := n) (w := [98, 101, 115, 116]) (p := q)
    generalize rI f n [98, 101, 115, 116] q = y7 at h7 l7 e0 ⊢
    refine ⟨fun t => ?_, fun t => ?_⟩
    · have e : y7.1 = 0 := (nI_eq (b := 0) (by omega) (by decide)).mp t
      rw [if_pos e] at e0
      refine c_readIf hn ha h7 (by decide) (fun u8 h8 => ?_)
      have l8 := rI_le (f := f) (n := n) (w := [97, 110, 121]) (p := y7.2)
      generalize rI f n [97, 110, 121] y7.2 = y8 at h8 l8 e0 ⊢
      refine ⟨fun t2 => ?_, fun t2 => ?_⟩
      · have e2 : y8.1 = 0 := (nI_eq (b := 0) (by omega) (by decide)).mp t2
        rw [if_pos e2] at e0
        refine c_readWord hn ha h8 (by decide) (fun u9 h9 => ?_)
        generalize rW f n [106, 117, 115, 116] y8.2 = y9 at h9 e0 ⊢
        rw [rc_s hC 13]
        refine c_readNumber (lo := 0) (hi := v 13 0) hn ha h9 (by decide) (by omega) (fun u10 h10 => ?_)
        generalize rN f n 0 (v 13 0) y9 = y10 at h10 e0 ⊢
        subst e0
        have K := c_thief100 (ua := ua) (a := a) (b := b) (c := c) (d := 2) (e := y10.1 + 1) hv h10 hC (fun z => h14 (hz (hb z))) hp
        rw [nI_pre (by omega)] at K
        exact K
      · have e2 : ¬ y8.1 = 0 := fun z => t2 (by rw [z]; rfl)
        rw [if_neg e2] at e0
        subst e0
        exact c_thief100 (ua := ua) (a := a) (b := b) (c := c) (d := 1) (e := 0) hv h8 hC (fun z => h14 (hz (hb z))) hp
    · have e : ¬ y7.1 = 0 := fun z => t (by rw [z]; rfl)
      rw [if_neg e] at e0
      subst e0
      exact c_thief100 (ua := ua) (a := a) (b := b) (c := c) (d := 0) (e := 0) hv h7 hC (fun z => h14 (hz (hb z))) hp
  exact c_readWord hn ha h (by decide) (fun _ h1 => c_readNumber (lo := 0) (hi := 3) hn ha h1 (by decide) (by decide) (fun _ h2 => c_readWord hn ha h2 (by decide) (fun _ h3 => c_readNumber (lo := 0) (hi := 101) hn ha h3 (by decide) (by decide) (fun _ h4 => c_readWord hn ha h4 (by decide) (fun _ h5 => c_readNumber (lo := 0) (hi := 100) hn ha h5 (by decide) (by decide) (fun u6 h6 => T _ _ _ _ u6 h6 hz6 hp))))))
end C2
