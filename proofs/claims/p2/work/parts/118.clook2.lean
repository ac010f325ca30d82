/-! the class's Night: looking at a whole rail -/
theorem ok13 {v : Rl} (hv : okV v) : v 13 0 ≤ 10 := hv.1.2.2.2.2.2.2.2.2.2.2.2.2.2.1
theorem ok14 {v : Rl} (hv : okV v) : v 14 0 ≤ 6 := hv.1.2.2.2.2.2.2.2.2.2.2.2.2.2.2.1
theorem ok12 {v : Rl} (hv : okV v) : v 12 0 ≤ 5 := hv.1.2.2.2.2.2.2.2.2.2.2.2.2.1
theorem ok11 {v : Rl} (hv : okV v) : v 11 0 ≤ 5 := hv.1.2.2.2.2.2.2.2.2.2.2.2.1
theorem ok0 {v : Rl} (hv : okV v) : v 0 0 ≤ 20 := hv.1.1
theorem ok1 {v : Rl} (hv : okV v) : v 1 0 ≤ 60 := hv.1.2.1
theorem ok2 {v : Rl} (hv : okV v) : v 2 0 ≤ 1600 := hv.1.2.2.1
theorem ok4 {v : Rl} (hv : okV v) : v 4 0 ≤ 999 := hv.1.2.2.2.2.1
theorem ok5 {v : Rl} (hv : okV v) : v 5 0 ≤ 100 := hv.1.2.2.2.2.2.1
theorem ok6 {v : Rl} (hv : okV v) : v 6 0 ≤ 1 := hv.1.2.2.2.2.2.2.1
theorem ok7 {v : Rl} (hv : okV v) : v 7 0 ≤ 1 := hv.1.2.2.2.2.2.2.2.1
theorem ok8 {v : Rl} (hv : okV v) : v 8 0 ≤ 999 := hv.1.2.2.2.2.2.2.2.2.1
theorem ok9 {v : Rl} (hv : okV v) : v 9 0 ≤ 99 := hv.1.2.2.2.2.2.2.2.2.2.1
theorem ok10 {v : Rl} (hv : okV v) : v 10 0 ≤ 1 := hv.1.2.2.2.2.2.2.2.2.2.2.1
theorem ok15 {v : Rl} (hv : okV v) : v 15 0 ≤ 1 := hv.1.2.2.2.2.2.2.2.2.2.2.2.2.2.2.2.1
theorem c_lookAtBaited {v : Rl} {rs : Nat → Int32} {ra : Nat → Nat → Int32} (hR : RelC v rs ra) (hv : okV v) {ns : Nat → Int32} {na : Nat → Nat → Int32} {s : Nat} (hs : s ≤ 9999) {post : (Nat → Int32) → (Nat → Nat → Int32) → Prop}
    (h : ∀ nb : Nat → Nat → Int32, NR v s (va_up ns 0 (nI (v 13 0))) nb → (∀ j, 5 ≤ j → nb j = na j) → post (va_up ns 0 (nI (v 13 0))) nb) : P_X3_lookAtBaited ns na rs ra (nI s) post := by
  have h13 := ok13 hv
  have h14 := ok14 hv
  have e13 := rc_s hR 13
  have e14 := rc_s hR 14
  intro x hx
  rw [e13] at hx
  subst hx
  rw [e13]
  refine c_markedOnes h13 (fun b hb => ⟨(hR.2.2.2.2.1 b hb).2.2.2.2, (hv.2.2.2.2.1 b hb).2.2.2.2⟩) ?_
  -- the thieves
  have T : ∀ (k i : Nat) (nb : Nat → Nat → Int32), i + k = v 14 0 → (∀ b, b < v 13 0 → nb 0 b = nI (light v (v 22 b)) ∧ nb 1 b = nI (gain v b)) → (∀ t, t < i → OL nb t (ordl v s t (v 13 0 + 1))) → (∀ j, 5 ≤ j → nb j = na j) → P_X3_lookAtBaited_78 rs ra (nI s) post (va_up ns 0 (nI (v 13 0))) (k + 1) (nI i) nb := by
    intro k
    induction k with
    | zero =>
      intro i nb hi g1 g2 g3
      obtain rfl : i = v 14 0 := by omega
      exact ⟨fun _ => h nb ⟨up_at, g1, g2⟩ g3, fun c => absurd ((cmp_le e14 (by omega) (by omega)).mpr (Nat.le_refl _)) c⟩
    | succ k ih =>
      intro i nb hi g1 g2 g3
      refine ⟨fun c => absurd ((cmp_le e14 (by omega) (by omega)).mp c) (by omega), fun _ => ?_⟩
      refine c_orderFor hR hv hs (by omega) up_at g1 (fun nc q1 q2 q3 q4 => ?_)
      rw [nI_1]
      refine ih (i + 1) nc (by omega) (fun b hb => ?_) (fun t ht => ?_) (fun j hj => by rw [q2 j (by omega) (by omega) (by omega), g3 j hj])
      · rw [q2 0 (by decide) (by decide) (by decide), q2 1 (by decide) (by decide) (by decide)]
        exact g1 b hb
      · by_cases e : t = i
        · subst e; exact q1
        · exact OL_eq (g2 t (by omega)) (q3 t e) (fun x hx => q4 _ (by omega))
  have L : ∀ (k i : Nat) (nb : Nat → Nat → Int32), i + k = v 13 0 → (∀ b, b < i → nb 0 b = nI (light v (v 22 b)) ∧ nb 1 b = nI (gain v b)) → (∀ j, 5 ≤ j → nb j = na j) → P_X3_lookAtBaited_22 rs ra (nI s) post (fun (ns : Nat → Int32) (x4_ : Int32) (na : Nat → Nat → Int32) => (∃ n : Nat, P_X3_lookAtBaited_78 rs ra (nI s) post ns n x4_ na)) (nI (nMarked v)) (va_up ns 0 (nI (v 13 0))) (k + 1) (nI i) nb := by
    intro k
    induction k with
    | zero =>
      intro i nb hi g1 g3
      obtain rfl : i = v 13 0 := by omega
      refine ⟨fun _ => ⟨v 14 0 + 1, T (v 14 0) 0 nb (by omega) g1 (fun t ht => by omega) g3⟩, fun c => absurd ((cmp_le e13 (by omega) (by omega)).mpr (Nat.le_refl _)) c⟩
    | succ k ih =>
      intro i nb hi g1 g3
      have hib : i < v 13 0 := by omega
      refine ⟨fun c => absurd ((cmp_le e13 (by omega) (by omega)).mp c) (by omega), fun _ => ⟨vp_in_nI (by omega) (by omega), ?_⟩⟩
      rw [nI_clamp (by omega), (hR.2.2.2.2.1 i hib).2.2.1]
      refine c_lightOf hR hv (hv.2.2.2.2.1 i hib).2.2.1 ⟨vp_in_nI (by omega) (by omega), ?_⟩
      refine c_gainOf hR hv hib ⟨vp_in_nI (by omega) (by omega), ?_⟩
      rw [nI_1]
      refine ih (i + 1) _ (by omega) (fun b hb => ?_) (fun j hj => ?_)
      · rw [up_ne (by decide), up_at, up_at]
        by_cases e : b = i
        · subst e; rw [u_at, u_at]; exact ⟨rfl, rfl⟩
        · rw [u_ne e, u_ne e]; exact g1 b (by omega)
      · rw [up_ne (by omega), up_ne (by omega)]
        exact g3 j hj
  exact ⟨v 13 0 + 1, L (v 13 0) 0 na (by omega) (fun b hb => by omega) (fun _ _ => rfl)⟩
theorem c_lookAt {v : Rl} {rs : Nat → Int32} {ra : Nat → Nat → Int32} (hR : RelC v rs ra) (hv : okV v) {ns : Nat → Int32} {na : Nat → Nat → Int32} {post : (Nat → Int32) → (Nat → Nat → Int32) → Prop}
    (h : ∀ nb : Nat → Nat → Int32, NR v 0 (va_up ns 0 (nI (v 13 0))) nb → (∀ j, 5 ≤ j → nb j = na j) → post (va_up ns 0 (nI (v 13 0))) nb) : P_X3_lookAt ns na rs ra post := c_lookAtBaited (s := 0) hR hv (by omega) h
theorem c_pickN {v : Rl} {s : Nat} {ns : Nat → Int32} {na : Nat → Nat → Int32} (hN : NR v s ns na) {t g : Nat} (ht : t < v 14 0) (ht6 : v 14 0 ≤ 6) (hg : g < 2 ^ 31) {post : Int32 → Prop} (hp : post (oI (tk v s t g))) : P_X3_pick na (nI t) (nI g) post := c_pick (hN.2.2 t ht) (by omega) hg hp
