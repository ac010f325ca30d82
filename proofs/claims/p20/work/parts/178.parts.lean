section
/-! any line of the reference -/
section MY
variable {f : Nat → Int32} {n : Nat} {m0 ms : A1} {mw : Nat → Int64} {ma : A2} {p : PS} {v : Rl}
theorem tok_inj {s : Nat} {w w' : List Int32} (h : tokIs f n s w) (h' : tokIs f n s w') : w = w' := by
  have e : w.length = w'.length := h.2.1.symm.trans h'.2.1
  refine List.ext_getElem e (fun i h1 h2 => ?_)
  have a := h.2.2 i h1
  have b := h'.2.2 i h2
  rw [List.getD_eq_getElem?_getD, List.getElem?_eq_getElem h1] at a
  rw [List.getD_eq_getElem?_getD, List.getElem?_eq_getElem h2] at b
  exact a.symm.trans b
theorem rW_ne (h : p.1 ≠ 0) (w : List Int32) : rW f n w p = p := by
  unfold rW
  rw [if_neg h]
theorem rN_ne (h : p.1 ≠ 0) (lo hi : Nat) : rN f n lo hi p = (lo, p) := by
  unfold rN
  rw [if_neg h]
theorem rI_ne (h : p.1 ≠ 0) (w : List Int32) : rI f n w p = (0, p) := by
  unfold rI
  rw [if_neg (fun q => h q.1)]
theorem rF_ne (h : p.1 ≠ 0) (c : Nat) : rF c p = p := by
  unfold rF
  rw [if_neg h]
theorem rS_ne (h : p.1 ≠ 0) : rS f n p = p := by
  unfold rS
  rw [if_neg h]
theorem lampL_ne (h : p.1 ≠ 0) : (lampL f n v p).2 = p := by
  show (lLamp f n v p).2.2 = p
  unfold lLamp
  simp only [rW_ne h, rN_ne h]
theorem lockL_ne (h : p.1 ≠ 0) : (lockL f n v p).2 = p := by
  show (lLock f n p).2.2.2.2 = p
  unfold lLock
  simp only [rW_ne h, rN_ne h]
theorem lB1_ne (h : p.1 ≠ 0) : (lB1 f n p).2.2 = p := by
  unfold lB1
  simp only [rW_ne h, rN_ne h]
theorem lB2_ne (h : p.1 ≠ 0) : lB2 f n v p = p := by
  unfold lB2
  rw [if_neg (fun q => h q.1)]
theorem lBk_ne (h : p.1 ≠ 0) : (lBk f n v p).2 = p := by
  unfold lBk
  rw [rI_ne h, if_pos rfl]
theorem bikeL_ne (h : p.1 ≠ 0) : (bikeL f n v p).2 = p := by
  dsimp only [bikeL]
  rw [lB1_ne h, lB2_ne h, rN_ne h]
  dsimp only
  rw [lBk_ne h, rI_ne h]
theorem lT1_ne (h : p.1 ≠ 0) : (lT1 f n p).2.2.2 = p := by
  unfold lT1
  simp only [rW_ne h, rN_ne h]
theorem lTk_ne (h : p.1 ≠ 0) : (lTk f n v p).2.2 = p := by
  unfold lTk
  rw [rI_ne h, if_pos rfl]
  dsimp only
  rw [rI_ne h, if_pos rfl]
  dsimp only
  rw [rW_ne h, rN_ne h]
theorem thiefL_ne (h : p.1 ≠ 0) : (thiefL f n v p).2 = p := by
  dsimp only [thiefL]
  rw [lT1_ne h, lTk_ne h]
theorem markL_ne (h : p.1 ≠ 0) : (markL f n v p).2 = p := by
  show (lMark f n p).2.2.2 = p
  unfold lMark
  simp only [rW_ne h, rN_ne h, rI_ne h]
theorem watchL_ne (h : p.1 ≠ 0) : (watchL f n v p).2 = p := by
  show (lWatch f n p).2.2 = p
  unfold lWatch
  simp only [rW_ne h, rN_ne h]
theorem rF_1 {c : Nat} (hc : c ≠ 0) (h0 : p.1 = 0) : (rF c p).1 ≠ 0 := by
  unfold rF
  rw [if_pos h0]
  exact hc
theorem m_122F {post : A1 → (Nat → Int64) → A2 → Prop} {k : Int32} (h : MS f n p m0 ms mw) (hz : p.1 ≠ 0) (hp : post ms mw ma) : P_X12_line_122 post k ms mw ma := ⟨fun z => absurd z (h.f1 hz), fun _ => hp⟩
theorem m_lampLn (hn : n ≤ 1600) (ha : ∀ i, i < n → ma 2 i = f i) (hv : okV v) (h : MS f n p m0 ms mw) (h0 : p.1 = 0) (h4 : R4 v ma) {post : A1 → (Nat → Int64) → A2 → Prop} (hp : ∀ mt mw' mb, MS f n (lampL f n v (hd f n (decide (v 11 0 < 4)) 3 p)).2 m0 mt mw' → F4 ma mb → ((lampL f n v (hd f n (decide (v 11 0 < 4)) 3 p)).2.1 = 0 → R4 (lampL f n v (hd f n (decide (v 11 0 < 4)) 3 p)).1 mb) → post mt mw' mb) : P_X12_line_98 post 0 ms mw ma := by
  have hb : v 11 0 ≤ 4 := h4.2.2.1.2.1
  refine ⟨fun _ => ⟨fun _ => ⟨fun c => b0f ?_, fun c => b1f ?_⟩, fun c => absurd c (by decide), fun c => absurd c (by decide), fun c => absurd rfl c⟩, fun c => absurd c (by decide)⟩
  · have hne : v 11 0 ≠ 4 := fun e => c (by rw [h4.2.2.1.1, e]; rfl)
    rw [show decide (v 11 0 < 4) = true from decide_eq_true (by omega)] at hp
    rw [show hd f n true 3 p = (0, 0, adv f n p.2.2) from rfl] at hp
    exact ⟨fun _ => m_nextT hn ha h h0 (fun mt mw' h' => ⟨fun _ => m_lampLine hn ha hv h' h4 (by omega) (fun a b d e1 e2 e3 => hp a b d e1 e2 (fun _ => e3)), fun c => absurd c (by decide), fun c => absurd c (by decide), fun c => absurd rfl c⟩), fun q => absurd (h.f0 h0) q⟩
  · have hne : v 11 0 = 4 := (nI_eq (b := 4) (by omega) (by decide)).mp ((h4.2.2.1.1).symm.trans c)
    rw [show decide (v 11 0 < 4) = false from decide_eq_false (by omega)] at hp
    have hr := rF_1 (p := p) (c := 3) (by decide) h0
    have e : (lampL f n v (hd f n false 3 p)).2 = rF 3 p := lampL_ne hr
    rw [e] at hp
    exact m_fails (c := 3) h (by decide) (by decide) (fun mt h' => m_122F h' hr (hp mt mw ma h' (F4.refl ma) (fun z => absurd z hr)))
theorem m_lockLn (hn : n ≤ 1600) (ha : ∀ i, i < n → ma 2 i = f i) (hv : okV v) (h : MS f n p m0 ms mw) (h0 : p.1 = 0) (h4 : R4 v ma) {post : A1 → (Nat → Int64) → A2 → Prop} (hp : ∀ mt mw' mb, MS f n (lockL f n v (hd f n (decide (v 12 0 < 5)) 3 p)).2 m0 mt mw' → F4 ma mb → ((lockL f n v (hd f n (decide (v 12 0 < 5)) 3 p)).2.1 = 0 → R4 (lockL f n v (hd f n (decide (v 12 0 < 5)) 3 p)).1 mb) → post mt mw' mb) : P_X12_line_98 post 1 ms mw ma := by
  have hb := ok12 hv
  refine ⟨fun _ => ⟨fun c => absurd c (by decide), fun _ => ⟨fun c => b0f ?_, fun c => b1f ?_⟩, fun c => absurd c (by decide), fun _ c => absurd rfl c⟩, fun c => absurd c (by decide)⟩
  · have hne : v 12 0 ≠ 5 := fun e => c (by rw [h4.1.1.2.2.2.1, e]; rfl)
    rw [show decide (v 12 0 < 5) = true from decide_eq_true (by omega)] at hp
    rw [show hd f n true 3 p = (0, 0, adv f n p.2.2) from rfl] at hp
    exact ⟨fun _ => m_nextT hn ha h h0 (fun mt mw' h' => ⟨fun c => absurd c (by decide), fun _ => m_lockLine hn ha h' h4 (by omega) (fun a b d e1 e2 e3 => hp a b d e1 e2 (fun _ => e3)), fun c => absurd c (by decide), fun _ c => absurd rfl c⟩), fun q => absurd (h.f0 h0) q⟩
  · have hne : v 12 0 = 5 := (nI_eq (b := 5) (by omega) (by decide)).mp ((h4.1.1.2.2.2.1).symm.trans c)
    rw [show decide (v 12 0 < 5) = false from decide_eq_false (by omega)] at hp
    have hr := rF_1 (p := p) (c := 3) (by decide) h0
    have e : (lockL f n v (hd f n false 3 p)).2 = rF 3 p := lockL_ne hr
    rw [e] at hp
    exact m_fails (c := 3) h (by decide) (by decide) (fun mt h' => m_122F h' hr (hp mt mw ma h' (F4.refl ma) (fun z => absurd z hr)))
theorem m_bikeLn (hn : n ≤ 1600) (ha : ∀ i, i < n → ma 2 i = f i) (hv : okV v) (h : MS f n p m0 ms mw) (h0 : p.1 = 0) (h4 : R4 v ma) {post : A1 → (Nat → Int64) → A2 → Prop} (hp : ∀ mt mw' mb, MS f n (bikeL f n v (hd f n (decide (v 13 0 < 10)) 3 p)).2 m0 mt mw' → F4 ma mb → ((bikeL f n v (hd f n (decide (v 13 0 < 10)) 3 p)).2.1 = 0 → R4 (bikeL f n v (hd f n (decide (v 13 0 < 10)) 3 p)).1 mb) → post mt mw' mb) : P_X12_line_98 post 2 ms mw ma := by
  have hb := ok13 hv
  refine ⟨fun _ => ⟨fun c => absurd c (by decide), fun c => absurd c (by decide), fun _ => ⟨fun c => b0f ?_, fun c => b1f ?_⟩, fun _ _ c => absurd rfl c⟩, fun c => absurd c (by decide)⟩
  · have hne : v 13 0 ≠ 10 := fun e => c (by rw [h4.1.1.2.2.2.2, e]; rfl)
    rw [show decide (v 13 0 < 10) = true from decide_eq_true (by omega)] at hp
    rw [show hd f n true 3 p = (0, 0, adv f n p.2.2) from rfl] at hp
    dsimp only [bikeL] at hp
    exact ⟨fun _ => m_nextT hn ha h h0 (fun mt mw' h' => ⟨fun c => absurd c (by decide), fun c => absurd c (by decide), fun _ => m_bikeLine hn ha hv h' h4 (by omega) rfl (fun a b d e1 e2 e3 => hp a b d e1 e2 (fun _ => e3)), fun _ _ c => absurd rfl c⟩), fun q => absurd (h.f0 h0) q⟩
  · have hne : v 13 0 = 10 := (nI_eq (b := 10) (by omega) (by decide)).mp ((h4.1.1.2.2.2.2).symm.trans c)
    rw [show decide (v 13 0 < 10) = false from decide_eq_false (by omega)] at hp
    have hr := rF_1 (p := p) (c := 3) (by decide) h0
    have e : (bikeL f n v (hd f n false 3 p)).2 = rF 3 p := bikeL_ne hr
    rw [e] at hp
    exact m_fails (c := 3) h (by decide) (by decide) (fun mt h' => m_122F h' hr (hp mt mw ma h' (F4.refl ma) (fun z => absurd z hr)))
theorem m_thiefLn (hn : n ≤ 1600) (ha : ∀ i, i < n → ma 2 i = f i) (hv : okV v) (h : MS f n p m0 ms mw) (h0 : p.1 = 0) (h4 : R4 v ma) {post : A1 → (Nat → Int64) → A2 → Prop} (hp : ∀ mt mw' mb, MS f n (thiefL f n v (hd f n (decide (v 14 0 < 6)) 3 p)).2 m0 mt mw' → F4 ma mb → ((thiefL f n v (hd f n (decide (v 14 0 < 6)) 3 p)).2.1 = 0 → R4 (thiefL f n v (hd f n (decide (v 14 0 < 6)) 3 p)).1 mb) → post mt mw' mb) : P_X12_line_98 post 3 ms mw ma := by
  have hb := ok14 hv
  refine ⟨fun _ => ⟨fun c => absurd c (by decide), fun c => absurd c (by decide), fun c => absurd c (by decide), fun _ _ _ => ⟨fun c => b0f ?_, fun c => b1f ?_⟩⟩, fun c => absurd c (by decide)⟩
  · have hne : v 14 0 ≠ 6 := fun e => c (by rw [h4.2.1.1, e]; rfl)
    rw [show decide (v 14 0 < 6) = true from decide_eq_true (by omega)] at hp
    rw [show hd f n true 3 p = (0, 0, adv f n p.2.2) from rfl] at hp
    dsimp only [thiefL] at hp
    exact ⟨fun _ => m_nextT hn ha h h0 (fun mt mw' h' => ⟨fun c => absurd c (by decide), fun c => absurd c (by decide), fun c => absurd c (by decide), fun _ _ _ => m_thiefLine hn ha hv h' h4 (by omega) hp⟩), fun q => absurd (h.f0 h0) q⟩
  · have hne : v 14 0 = 6 := (nI_eq (b := 6) (by omega) (by decide)).mp ((h4.2.1.1).symm.trans c)
    rw [show decide (v 14 0 < 6) = false from decide_eq_false (by omega)] at hp
    have hr := rF_1 (p := p) (c := 3) (by decide) h0
    have e : (thiefL f n v (hd f n false 3 p)).2 = rF 3 p := thiefL_ne hr
    rw [e] at hp
    exact m_fails (c := 3) h (by decide) (by decide) (fun mt h' => m_122F h' hr (hp mt mw ma h' (F4.refl ma) (fun z => absurd z hr)))
theorem m_markLn (hn : n ≤ 1600) (ha : ∀ i, i < n → ma 2 i = f i) (hv : okV v) (h : MS f n p m0 ms mw) (h0 : p.1 = 0) (h4 : R4 v ma) {post : A1 → (Nat → Int64) → A2 → Prop} (hp : ∀ mt mw' mb, MS f n (markL f n v (hd f n (decide (v 3 0 = 0)) 2 p)).2 m0 mt mw' → F4 ma mb → ((markL f n v (hd f n (decide (v 3 0 = 0)) 2 p)).2.1 = 0 → R4 (markL f n v (hd f n (decide (v 3 0 = 0)) 2 p)).1 mb) → post mt mw' mb) : P_X12_line_29 post 0 ms mw ma := by
  refine ⟨fun c => absurd c (by decide), fun _ => m_markLine hn ha hv h h0 h4 (fun e mt mw' h' => ?_) (fun e mt mw' mb h' hF hR => ?_)⟩
  · rw [show decide (v 3 0 = 0) = false from decide_eq_false (by omega)] at hp
    have hr := rF_1 (p := p) (c := 2) (by decide) h0
    have e : (markL f n v (hd f n false 2 p)).2 = rF 2 p := markL_ne hr
    rw [e] at hp
    exact hp mt mw' ma h' (F4.refl ma) (fun z => absurd z hr)
  · rw [show decide (v 3 0 = 0) = true from decide_eq_true e] at hp
    exact hp mt mw' mb h' hF (fun _ => hR)
theorem m_watchLn (hn : n ≤ 1600) (ha : ∀ i, i < n → ma 2 i = f i) (hv : okV v) (h : MS f n p m0 ms mw) (h0 : p.1 = 0) (h4 : R4 v ma) {post : A1 → (Nat → Int64) → A2 → Prop} (hp : ∀ mt mw' mb, MS f n (watchL f n v (hd f n (decide (v 7 0 = 0)) 2 p)).2 m0 mt mw' → F4 ma mb → ((watchL f n v (hd f n (decide (v 7 0 = 0)) 2 p)).2.1 = 0 → R4 (watchL f n v (hd f n (decide (v 7 0 = 0)) 2 p)).1 mb) → post mt mw' mb) : P_X12_line_29 post 1 ms mw ma := by
  refine ⟨fun c => absurd c (by decide), fun _ => m_watchLine hn ha hv h h0 h4 (fun e mt mw' h' => ?_) (fun e mt mw' mb h' hF hR => ?_)⟩
  · rw [show decide (v 7 0 = 0) = false from decide_eq_false (by omega)] at hp
    have hr := rF_1 (p := p) (c := 2) (by decide) h0
    have e : (watchL f n v (hd f n false 2 p)).2 = rF 2 p := watchL_ne hr
    rw [e] at hp
    exact hp mt mw' ma h' (F4.refl ma) (fun z => absurd z hr)
  · rw [show decide (v 7 0 = 0) = true from decide_eq_true e] at hp
    exact hp mt mw' mb h' hF (fun _ => hR)
theorem m_noLn (h : MS f n p m0 ms mw) (h0 : p.1 = 0) {post : A1 → (Nat → Int64) → A2 → Prop} (hp : ∀ mt, MS f n (rF 1 p) m0 mt mw → post mt mw ma) : P_X12_line_98 post (-1) ms mw ma := by
  have hr := rF_1 (p := p) (c := 1) (by decide) h0
  refine ⟨fun c => absurd rfl c, fun _ => m_fails (c := 1) h (by decide) (by decide) (fun mt h' => ⟨fun c => absurd c (by decide), fun c => absurd c (by decide), fun c => absurd c (by decide), fun _ _ _ => ⟨fun _ => b0f (m_122F h' hr (hp mt h')), fun _ => b1f (m_fails (c := 3) h' (by decide) (by decide) (fun mu hu => ?_))⟩⟩)⟩
  rw [rF_ne hr] at hu
  exact m_122F hu hr (hp mu hu)
theorem m_line (hn : n ≤ 1600) (ha : ∀ i, i < n → ma 2 i = f i) (hv : okV v) (h : MS f n p m0 ms mw) (h0 : p.1 = 0) (h4 : R4 v ma) (hz : v 2 0 ≠ 0) {post : A1 → (Nat → Int64) → A2 → Prop} (hp : ∀ mt mw' mb, MS f n (lLine f n v p).2 m0 mt mw' → F4 ma mb → ((lLine f n v p).2.1 = 0 → R4 (lLine f n v p).1 mb) → post mt mw' mb) : P_X12_line ms mw ma post := by
  refine m_is h (w := [109, 97, 114, 107]) (by decide) (by decide) (fun _ t => b1f ?_) (fun u_mark => b0f ?_)
  ·
    have t_lamp : ¬ tokIs f n p.2.2 [108, 97, 109, 112] := fun q => absurd (tok_inj t q) (by decide)
    have t_lock : ¬ tokIs f n p.2.2 [108, 111, 99, 107] := fun q => absurd (tok_inj t q) (by decide)
    have t_bike : ¬ tokIs f n p.2.2 [98, 105, 107, 101] := fun q => absurd (tok_inj t q) (by decide)
    have t_thief : ¬ tokIs f n p.2.2 [116, 104, 105, 101, 102] := fun q => absurd (tok_inj t q) (by decide)
    have e : lLine f n v p = markL f n v (hd f n (decide (v 3 0 = 0)) 2 p) := by unfold lLine; rw [if_neg hz, if_neg t_lamp, if_neg t_lock, if_neg t_bike, if_neg t_thief, if_pos t]
    rw [e] at hp
    exact m_markLn hn ha hv h h0 h4 hp
  refine m_is h (w := [119, 97, 116, 99, 104]) (by decide) (by decide) (fun _ t => b1f ?_) (fun u_watch => b0f ?_)
  ·
    have t_lamp : ¬ tokIs f n p.2.2 [108, 97, 109, 112] := fun q => absurd (tok_inj t q) (by decide)
    have t_lock : ¬ tokIs f n p.2.2 [108, 111, 99, 107] := fun q => absurd (tok_inj t q) (by decide)
    have t_bike : ¬ tokIs f n p.2.2 [98, 105, 107, 101] := fun q => absurd (tok_inj t q) (by decide)
    have t_thief : ¬ tokIs f n p.2.2 [116, 104, 105, 101, 102] := fun q => absurd (tok_inj t q) (by decide)
    have t_mark : ¬ tokIs f n p.2.2 [109, 97, 114, 107] := fun q => absurd (tok_inj t q) (by decide)
    have e : lLine f n v p = watchL f n v (hd f n (decide (v 7 0 = 0)) 2 p) := by unfold lLine; rw [if_neg hz, if_neg t_lamp, if_neg t_lock, if_neg t_bike, if_neg t_thief, if_neg t_mark, if_pos t]
    rw [e] at hp
    exact m_watchLn hn ha hv h h0 h4 hp
  refine ⟨fun _ => ?_, fun c => absurd rfl c⟩
  refine m_is h (w := [108, 97, 109, 112]) (by decide) (by decide) (fun _ t => b1f ?_) (fun u_lamp => b0f ?_)
  · have e : lLine f n v p = lampL f n v (hd f n (decide (v 11 0 < 4)) 3 p) := by unfold lLine; rw [if_neg hz, if_pos t]
    rw [e] at hp
    exact m_lampLn hn ha hv h h0 h4 hp
  have t_lamp : ¬ tokIs f n p.2.2 [108, 97, 109, 112] := fun q => u_lamp ⟨h0, q⟩
  refine m_is h (w := [108, 111, 99, 107]) (by decide) (by decide) (fun _ t => b1f ?_) (fun u_lock => b0f ?_)
  · have e : lLine f n v p = lockL f n v (hd f n (decide (v 12 0 < 5)) 3 p) := by unfold lLine; rw [if_neg hz, if_neg t_lamp, if_pos t]
    rw [e] at hp
    exact m_lockLn hn ha hv h h0 h4 hp
  have t_lock : ¬ tokIs f n p.2.2 [108, 111, 99, 107] := fun q => u_lock ⟨h0, q⟩
  refine m_is h (w := [98, 105, 107, 101]) (by decide) (by decide) (fun _ t => b1f ?_) (fun u_bike => b0f ?_)
  · have e : lLine f n v p = bikeL f n v (hd f n (decide (v 13 0 < 10)) 3 p) := by unfold lLine; rw [if_neg hz, if_neg t_lamp, if_neg t_lock, if_pos t]
    rw [e] at hp
    exact m_bikeLn hn ha hv h h0 h4 hp
  have t_bike : ¬ tokIs f n p.2.2 [98, 105, 107, 101] := fun q => u_bike ⟨h0, q⟩
  refine m_is h (w := [116, 104, 105, 101, 102]) (by decide) (by decide) (fun _ t => b1f ?_) (fun u_thief => b0f ?_)
  · have e : lLine f n v p = thiefL f n v (hd f n (decide (v 14 0 < 6)) 3 p) := by unfold lLine; rw [if_neg hz, if_neg t_lamp, if_neg t_lock, if_neg t_bike, if_pos t]
    rw [e] at hp
    exact m_thiefLn hn ha hv h h0 h4 hp
  have t_thief : ¬ tokIs f n p.2.2 [116, 104, 105, 101, 102] := fun q => u_thief ⟨h0, q⟩
  have t_mark : ¬ tokIs f n p.2.2 [109, 97, 114, 107] := fun q => u_mark ⟨h0, q⟩
  have t_watch : ¬ tokIs f n p.2.2 [119, 97, 116, 99, 104] := fun q => u_watch ⟨h0, q⟩
  have e : lLine f n v p = (v, rF 1 p) := by unfold lLine; rw [if_neg hz, if_neg t_lamp, if_neg t_lock, if_neg t_bike, if_neg t_thief, if_neg t_mark, if_neg t_watch]
  rw [e] at hp
  exact m_noLn h h0 (fun mt h' => hp mt mw ma h' (F4.refl ma) (fun z => absurd z (rF_1 (by decide) h0)))
theorem R4.aLine (h4 : R4 v ma) : R4 (aLine v) (va_up ma 3 (upd (ma 3) 4 ((ma 3 4) + 1))) := by
  obtain ⟨⟨⟨a1, a2, a3, a4, a5⟩, b1⟩, hT, hP, hY, o1, o2⟩ := h4
  refine ⟨⟨⟨?_, a2, a3, a4, a5⟩, b1⟩, hT, hP, hY, o1, o2⟩
  show upd (ma 3) 4 ((ma 3 4) + 1) 4 = nI (v 2 0 + 1)
  rw [u_at, a1, nI_1]
theorem m_rail47 {w : Rl} {mb : A2} (hn : n ≤ 1600) (ha : ∀ i, i < n → ma 2 i = f i) (h : MS f n p m0 ms mw) (hF : F4 ma mb) (hR : p.1 = 0 → R4 w mb) {post : Int32 → A1 → (Nat → Int64) → A2 → Prop} {R13 : A1 → (Nat → Int64) → A2 → Prop} (hp : ∀ mt mw' mc, MS f n (rS f n p) m0 mt mw' → F4 ma mc → ((rS f n p).1 = 0 → R4 (aLine w) mc) → R13 mt mw' mc) : P_X12_rail_47 post R13 ms mw mb := by
  have hF' : F4 ma (va_up mb 3 (upd (mb 3) 4 ((mb 3 4) + 1))) := hF.row (by decide) (by decide) rfl (Or.inr (by decide)) _
  by_cases z : p.1 = 0
  · exact ⟨fun c => absurd (h.f0 z) c, fun _ => b1f (m_ends hn (fun i hi => by rw [hF.two]; exact ha i hi) h z (fun mt mw' h' => hp mt mw' _ h' hF' (fun _ => (hR z).aLine)))⟩
  · refine ⟨fun _ => b0f (hp ms mw _ ?_ hF' (fun q => absurd (rS_0 q) z)), fun c => absurd c (h.f1 z)⟩
    rw [rS_ne z]
    exact h
/-- one turn of the reference's loop -/
theorem m_turn (hn : n ≤ 1600) (ha : ∀ i, i < n → ma 2 i = f i) (hv : okV v) (h : MS f n p m0 ms mw) (h0 : p.1 = 0) (h4 : R4 v ma) {post : Int32 → A1 → (Nat → Int64) → A2 → Prop} {R13 : A1 → (Nat → Int64) → A2 → Prop} (hp : ∀ mt mw' mc, MS f n (rS f n (lLine f n v p).2) m0 mt mw' → F4 ma mc → ((rS f n (lLine f n v p).2).1 = 0 → R4 (aLine (lLine f n v p).1) mc) → R13 mt mw' mc) : ((¬ (ma 3 4) = 0) → P_X12_line ms mw ma (fun (ms_12 : Nat → Int32) (mw_13 : Nat → Int64) (ma_14 : Nat → Nat → Int32) => (P_X12_rail_47 post R13 ms_12 mw_13 ma_14))) ∧ (((ma 3 4) = 0) → P_X12_railLine ms mw ma (fun (ms_15 : Nat → Int32) (mw_16 : Nat → Int64) (ma_17 : Nat → Nat → Int32) => (P_X12_rail_47 post R13 ms_15 mw_16 ma_17))) := by
  have h2 := ok2 hv
  have e3 : ma 3 4 = nI (v 2 0) := h4.1.1.1
  refine ⟨fun c => m_line hn ha hv h h0 h4 (fun z => c (by rw [e3, z]; rfl)) (fun mt mw' mb h' hF hR => m_rail47 hn ha h' hF hR hp), fun c => ?_⟩
  have z : v 2 0 = 0 := (nI_eq (b := 0) (by omega) (by decide)).mp (e3.symm.trans c)
  have e : lLine f n v p = (aRail v (lRail f n p).1 (lRail f n p).2.1, (lRail f n p).2.2) := by unfold lLine; rw [if_pos z]
  rw [e] at hp
  exact m_railLine hn ha h h4 (fun mt mw' mb h' hF hR => m_rail47 hn ha h' hF (fun _ => hR) hp)
end MY
end
section
/-! a line without a fault keeps what a rail keeps to, and goes on -/
section OKL
variable {f : Nat → Int32} {n : Nat} {p q : PS} {v : Rl}
theorem rN_in {lo hi : Nat} (h : (rN f n lo hi p).2.1 = 0) : lo ≤ (rN f n lo hi p).1 ∧ (rN f n lo hi p).1 < hi := by
  have h0 := rN_0 h
  unfold rN at h ⊢
  rw [if_pos h0] at h ⊢
  by_cases k : kd f n p.2.2 = 2
  · rw [if_pos k] at h ⊢
    by_cases q : lo ≤ vlT f n p.2.2 ∧ vlT f n p.2.2 < hi
    · rw [if_pos q]
      exact q
    · rw [if_neg q] at h
      exact absurd (show (2 : Nat) = 0 from h) (by decide)
  · rw [if_neg k] at h
    exact absurd (show (1 : Nat) = 0 from h) (by decide)
theorem hd_ok {b : Bool} {c : Nat} (hc : c ≠ 0) (h : (hd f n b c p).1 = 0) : b = true := by
  cases b with
  | true => rfl
  | false =>
    exfalso
    have h' : (rF c p).1 = 0 := h
    have h0 := rF_0 h'
    exact rF_1 hc h0 h'
theorem lRail_in (h : (lRail f n p).2.2.1 = 0) : p.1 = 0 ∧ (1 ≤ (lRail f n p).1 ∧ (lRail f n p).1 < 21) ∧ (1 ≤ (lRail f n p).2.1 ∧ (lRail f n p).2.1 < 61) := by
  unfold lRail at h ⊢
  dsimp only at h ⊢
  exact ⟨rW_0 (rW_0 (rN_0 (rW_0 (rN_0 h)))), rN_in (rW_0 (rN_0 h)), rN_in h⟩
theorem lLamp_in (h : (lLamp f n v p).2.2.1 = 0) : p.1 = 0 ∧ (lLamp f n v p).1 < v 0 0 ∧ (lLamp f n v p).2.1 < 100 := by
  unfold lLamp at h ⊢
  dsimp only at h ⊢
  exact ⟨rW_0 (rN_0 (rW_0 (rN_0 h))), (rN_in (rW_0 (rN_0 h))).2, (rN_in h).2⟩
theorem lLock_in (h : (lLock f n p).2.2.2.2.1 = 0) : p.1 = 0 ∧ (lLock f n p).1 < 1000 ∧ (lLock f n p).2.1 < 1000 ∧ (lLock f n p).2.2.1 < 1000 ∧ (lLock f n p).2.2.2.1 < 1000 := by
  unfold lLock at h ⊢
  dsimp only at h ⊢
  exact ⟨rW_0 (rN_0 (rW_0 (rN_0 (rN_0 (rN_0 h))))), (rN_in (rW_0 (rN_0 (rN_0 (rN_0 h))))).2, (rN_in (rN_0 (rN_0 h))).2, (rN_in (rN_0 h)).2, (rN_in h).2⟩
theorem lMark_in (h : (lMark f n p).2.2.2.1 = 0) : p.1 = 0 ∧ (lMark f n p).1 < 1000 ∧ (lMark f n p).2.1 < 101 ∧ (lMark f n p).2.2.1 ≤ 1 := by
  unfold lMark at h ⊢
  dsimp only at h ⊢
  exact ⟨rW_0 (rN_0 (rW_0 (rN_0 (rI_0 h)))), (rN_in (rW_0 (rN_0 (rI_0 h)))).2, (rN_in (rI_0 h)).2, rI_le⟩
theorem lWatch_in (h : (lWatch f n p).2.2.1 = 0) : p.1 = 0 ∧ (lWatch f n p).1 < 1000 ∧ (lWatch f n p).2.1 < 100 := by
  unfold lWatch at h ⊢
  dsimp only at h ⊢
  exact ⟨rW_0 (rN_0 (rW_0 (rN_0 h))), (rN_in (rW_0 (rN_0 h))).2, (rN_in h).2⟩
theorem lB1_in (h : (lB1 f n p).2.2.1 = 0) : p.1 = 0 ∧ (lB1 f n p).1 < 10000 ∧ (lB1 f n p).2.1 < 10000 := by
  unfold lB1 at h ⊢
  dsimp only at h ⊢
  exact ⟨rW_0 (rN_0 (rW_0 (rN_0 (rW_0 h)))), (rN_in (rW_0 (rN_0 (rW_0 h)))).2, (rN_in (rW_0 h)).2⟩
theorem lB2_0 (h : (lB2 f n v p).1 = 0) : p.1 = 0 := by
  unfold lB2 at h
  split at h
  · exact rF_0 h
  · exact h
theorem lBk_in (h : (lBk f n v p).2.1 = 0) : p.1 = 0 ∧ (lBk f n v p).1 ≤ v 12 0 := by
  unfold lBk at h ⊢
  by_cases c : (rI f n [108, 111, 99, 107] p).1 = 0
  · rw [if_pos c] at h ⊢
    exact ⟨rI_0 h, Nat.zero_le _⟩
  · rw [if_neg c] at h ⊢
    exact ⟨rI_0 (rN_0 h), (rN_in h).2⟩
theorem lT1_in (h : (lT1 f n p).2.2.2.1 = 0) : p.1 = 0 ∧ (lT1 f n p).1 < 3 ∧ (lT1 f n p).2.1 < 101 ∧ (lT1 f n p).2.2.1 < 100 := by
  unfold lT1 at h ⊢
  dsimp only at h ⊢
  exact ⟨rW_0 (rN_0 (rW_0 (rN_0 (rW_0 (rN_0 h))))), (rN_in (rW_0 (rN_0 (rW_0 (rN_0 h))))).2, (rN_in (rW_0 (rN_0 h))).2, (rN_in h).2⟩
theorem lTk_in (h : (lTk f n v p).2.2.1 = 0) : p.1 = 0 ∧ (lTk f n v p).1 ≤ 2 ∧ (lTk f n v p).2.1 ≤ v 13 0 := by
  unfold lTk at h ⊢
  by_cases c : (rI f n [98, 101, 115, 116] p).1 = 0
  · rw [if_pos c] at h ⊢
    by_cases d : (rI f n [97, 110, 121] (rI f n [98, 101, 115, 116] p).2).1 = 0
    · rw [if_pos d] at h ⊢
      exact ⟨rI_0 (rI_0 (rW_0 (rN_0 h))), Nat.le_refl 2, (rN_in h).2⟩
    · rw [if_neg d] at h ⊢
      exact ⟨rI_0 (rI_0 h), (by decide : (1 : Nat) ≤ 2), Nat.zero_le _⟩
  · rw [if_neg c] at h ⊢
    exact ⟨rI_0 h, Nat.zero_le _, Nat.zero_le _⟩
theorem okV.aLine (hv : okV v) (h2 : v 2 0 < 1600) (h0 : 0 < v 0 0) : okV (aLine v) := by
  obtain ⟨⟨s0, s1, s2, s3, s4, s5, s6, s7, s8, s9, s10, s11, s12, s13, s14, s15, s16⟩, h1, hr⟩ := hv
  refine ⟨⟨s0, s1, ?_, s3, s4, s5, s6, s7, s8, s9, s10, s11, s12, s13, s14, s15, ?_⟩, h1, hr⟩
  · show v 2 0 + 1 ≤ 1600
    omega
  · show v 2 0 + 1 = 0 ↔ v 0 0 = 0
    omega
theorem okV.aLamp (hv : okV v) {a b : Nat} (h11 : v 11 0 < 5) (ha : a < 20) (hb : b ≤ 99) : okV (aLamp v a b) := by
  obtain ⟨⟨s0, s1, s2, s3, s4, s5, s6, s7, s8, s9, s10, s11, s12, s13, s14, s15, s16⟩, h1, hr⟩ := hv
  refine ⟨⟨s0, s1, s2, s3, s4, s5, s6, s7, s8, s9, s10, ?_, s12, s13, s14, s15, s16⟩, fun k hk => ?_, hr⟩
  · show v 11 0 + 1 ≤ 5
    omega
  · have hk' : k < v 11 0 + 1 := hk
    show (if k = v 11 0 then a else v 16 k) < 20 ∧ (if k = v 11 0 then b else v 17 k) ≤ 99
    by_cases c : k = v 11 0
    · rw [if_pos c, if_pos c]; exact ⟨ha, hb⟩
    · rw [if_neg c, if_neg c]; exact h1 k (by omega)
theorem okV.aLock (hv : okV v) {a b c d : Nat} (h12 : v 12 0 < 5) (ha : a ≤ 999) (hb : b ≤ 999) (hc : c ≤ 999) (hd : d ≤ 999) : okV (aLock v a b c d) := by
  obtain ⟨⟨s0, s1, s2, s3, s4, s5, s6, s7, s8, s9, s10, s11, s12, s13, s14, s15, s16⟩, h1, h2, h3, h4, h5⟩ := hv
  refine ⟨⟨s0, s1, s2, s3, s4, s5, s6, s7, s8, s9, s10, s11, ?_, s13, s14, s15, s16⟩, h1, fun k hk => ?_, fun k hk => ?_, fun k hk => ?_, h5⟩
  · show v 12 0 + 1 ≤ 5
    omega
  · have hk' : k < v 12 0 + 1 := hk
    show (if k = v 12 0 then a else v 18 k) ≤ 999
    by_cases c : k = v 12 0
    · rw [if_pos c]; exact ha
    · rw [if_neg c]; exact h2 k (by omega)
  · have hk' : k < 3 * (v 12 0 + 1) := hk
    show (if k = 3 * v 12 0 then b else if k = 3 * v 12 0 + 1 then c else if k = 3 * v 12 0 + 2 then d else v 19 k) ≤ 999
    by_cases c0 : k = 3 * v 12 0
    · rw [if_pos c0]; exact hb
    · rw [if_neg c0]
      by_cases c1 : k = 3 * v 12 0 + 1
      · rw [if_pos c1]; exact hc
      · rw [if_neg c1]
        by_cases c2 : k = 3 * v 12 0 + 2
        · rw [if_pos c2]; exact hd
        · rw [if_neg c2]; exact h3 k (by omega)
  · obtain ⟨e1, e2, e3, e4, e5⟩ := h4 k hk
    exact ⟨e1, e2, e3, Nat.le_succ_of_le e4, e5⟩
theorem okV.aBike (hv : okV v) {a b c d e : Nat} (h13 : v 13 0 < 10) (ha : a ≤ 9999) (hb : b ≤ 9999) (hc : c < 20) (hd : d ≤ v 12 0) (he : e ≤ 1) : okV (aBike v a b c d e) := by
  obtain ⟨⟨s0, s1, s2, s3, s4, s5, s6, s7, s8, s9, s10, s11, s12, s13, s14, s15, s16⟩, h1, h2, h3, h4, h5⟩ := hv
  refine ⟨⟨s0, s1, s2, s3, s4, s5, s6, s7, s8, s9, s10, s11, s12, ?_, s14, s15, s16⟩, h1, h2, h3, fun k hk => ?_, h5⟩
  · show v 13 0 + 1 ≤ 10
    omega
  · have hk' : k < v 13 0 + 1 := hk
    show (if k = v 13 0 then a else v 20 k) ≤ 9999 ∧ (if k = v 13 0 then b else v 21 k) ≤ 9999 ∧ (if k = v 13 0 then c else v 22 k) < 20 ∧ (if k = v 13 0 then d else v 23 k) ≤ v 12 0 ∧ (if k = v 13 0 then e else v 24 k) ≤ 1
    by_cases c : k = v 13 0
    · rw [if_pos c, if_pos c, if_pos c, if_pos c, if_pos c]; exact ⟨ha, hb, hc, hd, he⟩
    · rw [if_neg c, if_neg c, if_neg c, if_neg c, if_neg c]; exact h4 k (by omega)
theorem okV.aThief (hv : okV v) {a b c d e : Nat} (h14 : v 14 0 < 6) (ha : a ≤ 2) (hb : b ≤ 100) (hc : c ≤ 99) (hd : d ≤ 2) (he : e ≤ 10) : okV (aThief v a b c d e) := by
  obtain ⟨⟨s0, s1, s2, s3, s4, s5, s6, s7, s8, s9, s10, s11, s12, s13, s14, s15, s16⟩, h1, h2, h3, h4, h5, h6⟩ := hv
  refine ⟨⟨s0, s1, s2, s3, s4, s5, s6, s7, s8, s9, s10, s11, s12, s13, ?_, s15, s16⟩, h1, h2, h3, h4, fun k hk => ?_, h6⟩
  · show v 14 0 + 1 ≤ 6
    omega
  · have hk' : k < v 14 0 + 1 := hk
    show (if k = v 14 0 then a else v 25 k) ≤ 2 ∧ (if k = v 14 0 then b else v 26 k) ≤ 100 ∧ (if k = v 14 0 then c else v 27 k) ≤ 99 ∧ (if k = v 14 0 then d else v 28 k) ≤ 2 ∧ (if k = v 14 0 then e else v 29 k) ≤ 10
    by_cases c : k = v 14 0
    · rw [if_pos c, if_pos c, if_pos c, if_pos c, if_pos c]; exact ⟨ha, hb, hc, hd, he⟩
    · rw [if_neg c, if_neg c, if_neg c, if_neg c, if_neg c]; exact h5 k (by omega)
theorem okV.aMark (hv : okV v) {a b c : Nat} (ha : a ≤ 999) (hb : b ≤ 100) (hc : c ≤ 1) : okV (aMark v a b c) := by
  obtain ⟨⟨s0, s1, s2, s3, s4, s5, s6, s7, s8, s9, s10, s11, s12, s13, s14, s15, s16⟩, hr⟩ := hv
  exact ⟨⟨s0, s1, s2, Nat.le_refl 1, ha, hb, hc, s7, s8, s9, s10, s11, s12, s13, s14, s15, s16⟩, hr⟩
theorem okV.aWatch (hv : okV v) {a b : Nat} (ha : a ≤ 999) (hb : b ≤ 99) : okV (aWatch v a b) := by
  obtain ⟨⟨s0, s1, s2, s3, s4, s5, s6, s7, s8, s9, s10, s11, s12, s13, s14, s15, s16⟩, hr⟩ := hv
  exact ⟨⟨s0, s1, s2, s3, s4, s5, s6, Nat.le_refl 1, ha, hb, s10, s11, s12, s13, s14, s15, s16⟩, hr⟩
/-- rails that are read keep to this -/
def okL (v : Rl) : Prop := okR v ∧ v 11 0 ≤ 4
theorem okL.line {w : Rl} (hw : okV w) (hj : okJ w) (h2 : w 2 0 < 1600) (h0 : 0 < w 0 0) (hl : w 11 0 ≤ 4) : okL (aLine w) := by
  refine ⟨⟨hw.aLine h2 h0, hj, fun z => ?_⟩, hl⟩
  have z' : w 2 0 + 1 = 0 := z
  omega
theorem lLine_ok (hv : okL v) (h2 : v 2 0 < 1600) (h : (lLine f n v p).2.1 = 0) : okL (aLine (lLine f n v p).1) := by
  obtain ⟨⟨hV, hJ, hz3⟩, hl⟩ := hv
  have h0 := ok0 hV
  have h13 := ok13 hV
  have hzz := hV.1.2.2.2.2.2.2.2.2.2.2.2.2.2.2.2.2
  unfold lLine at h ⊢
  by_cases z : v 2 0 = 0
  · rw [if_pos z] at h ⊢
    obtain ⟨-, ⟨a1, a2⟩, b1, b2⟩ := lRail_in h
    obtain ⟨⟨s0, s1, s2, s3, s4, s5, s6, s7, s8, s9, s10, s11, s12, s13, s14, s15, s16⟩, hr⟩ := hV
    refine ⟨⟨⟨⟨?_, ?_, ?_, s3, s4, s5, s6, s7, s8, s9, s10, s11, s12, s13, s14, s15, ?_⟩, hr⟩, hJ, fun q => ?_⟩, hl⟩
    · show (lRail f n p).1 ≤ 20
      omega
    · show (lRail f n p).2.1 ≤ 60
      omega
    · show v 2 0 + 1 ≤ 1600
      omega
    · show v 2 0 + 1 = 0 ↔ (lRail f n p).1 = 0
      omega
    · have q' : v 2 0 + 1 = 0 := q
      omega
  rw [if_neg z] at h ⊢
  have hp0 : 0 < v 0 0 := by omega
  by_cases t : tokIs f n p.2.2 [108, 97, 109, 112]
  · rw [if_pos t] at h ⊢
    obtain ⟨a0, a1, a2⟩ := lLamp_in h
    have c := of_decide_eq_true (hd_ok (by decide) a0)
    exact okL.line (hV.aLamp (by omega) (by omega) (by omega)) hJ h2 hp0 (show v 11 0 + 1 ≤ 4 by omega)
  rw [if_neg t] at h ⊢
  by_cases t : tokIs f n p.2.2 [108, 111, 99, 107]
  · rw [if_pos t] at h ⊢
    obtain ⟨a0, a1, a2, a3, a4⟩ := lLock_in h
    have c := of_decide_eq_true (hd_ok (by decide) a0)
    exact okL.line (hV.aLock (by omega) (by omega) (by omega) (by omega) (by omega)) hJ h2 hp0 hl
  rw [if_neg t] at h ⊢
  by_cases t : tokIs f n p.2.2 [98, 105, 107, 101]
  · rw [if_pos t] at h ⊢
    dsimp only [bikeL] at h ⊢
    have q1 := rI_0 h
    obtain ⟨q2, q3⟩ := lBk_in q1
    have q4 := (rN_in q2).2
    obtain ⟨a0, a1, a2⟩ := lB1_in (lB2_0 (rN_0 q2))
    have c := of_decide_eq_true (hd_ok (by decide) a0)
    exact okL.line (hV.aBike (by omega) (by omega) (by omega) (by omega) q3 rI_le) (fun t ht => Nat.le_succ_of_le (hJ t ht)) h2 hp0 hl
  rw [if_neg t] at h ⊢
  by_cases t : tokIs f n p.2.2 [116, 104, 105, 101, 102]
  · rw [if_pos t] at h ⊢
    dsimp only [thiefL] at h ⊢
    obtain ⟨q1, q2, q3⟩ := lTk_in h
    obtain ⟨a0, a1, a2, a3⟩ := lT1_in q1
    have c := of_decide_eq_true (hd_ok (by decide) a0)
    refine okL.line (hV.aThief (by omega) (by omega) (by omega) (by omega) q2 (by omega)) (fun t ht => ?_) h2 hp0 hl
    have ht' : t < v 14 0 + 1 := ht
    show (if t = v 14 0 then _ else v 29 t) ≤ v 13 0
    by_cases c : t = v 14 0
    · rw [if_pos c]; exact q3
    · rw [if_neg c]; exact hJ t (by omega)
  rw [if_neg t] at h ⊢
  by_cases t : tokIs f n p.2.2 [109, 97, 114, 107]
  · rw [if_pos t] at h ⊢
    obtain ⟨a0, a1, a2, a3⟩ := lMark_in h
    exact okL.line (hV.aMark (by omega) (by omega) a3) hJ h2 hp0 hl
  rw [if_neg t] at h ⊢
  by_cases t : tokIs f n p.2.2 [119, 97, 116, 99, 104]
  · rw [if_pos t] at h ⊢
    obtain ⟨a0, a1, a2⟩ := lWatch_in h
    exact okL.line (hV.aWatch (by omega) (by omega)) hJ h2 hp0 hl
  rw [if_neg t] at h ⊢
  exact absurd h (rF_1 (by decide) (rF_0 h))
/-! it goes on -/
def Mo (n : Nat) (p q : PS) : Prop := p.2.2 ≤ n → p.2.2 ≤ q.2.2 ∧ q.2.2 ≤ n
theorem Mo.refl (p : PS) : Mo n p p := fun h => ⟨Nat.le_refl _, h⟩
theorem Mo.trans {r : PS} (h : Mo n p q) (g : Mo n q r) : Mo n p r := fun a => ⟨Nat.le_trans (h a).1 (g (h a).2).1, (g (h a).2).2⟩
theorem adv_ge (h : p.2.2 ≤ n) : p.2.2 + tl f n p.2.2 ≤ adv f n p.2.2 := (sk_le (tl_le h)).1
theorem Mo.adv : Mo n p (0, 0, adv f n p.2.2) := fun h => ⟨Nat.le_trans (Nat.le_add_right _ _) (adv_ge h), adv_le h⟩
theorem Mo.rF {c : Nat} : Mo n p (rF c p) := fun h => by
  unfold Jvm.Pilot.@@N@@.rF
  split
  · exact ⟨Nat.le_refl _, h⟩
  · exact ⟨Nat.le_refl _, h⟩
theorem Mo.rW {w : List Int32} : Mo n p (rW f n w p) := fun h => by
  unfold Jvm.Pilot.@@N@@.rW
  split
  · split
    · exact Mo.adv h
    · exact ⟨Nat.le_refl _, h⟩
  · exact ⟨Nat.le_refl _, h⟩
theorem Mo.rN {lo hi : Nat} : Mo n p (rN f n lo hi p).2 := fun h => by
  unfold Jvm.Pilot.@@N@@.rN
  split
  · split
    · split
      · exact Mo.adv h
      · exact ⟨Nat.le_refl _, h⟩
    · exact ⟨Nat.le_refl _, h⟩
  · exact ⟨Nat.le_refl _, h⟩
theorem Mo.rI {w : List Int32} : Mo n p (rI f n w p).2 := fun h => by
  unfold Jvm.Pilot.@@N@@.rI
  split
  · exact Mo.adv h
  · exact ⟨Nat.le_refl _, h⟩
theorem Mo.hd {b : Bool} {c : Nat} : Mo n p (hd f n b c p) := by
  unfold Jvm.Pilot.@@N@@.hd
  split
  · exact Mo.adv
  · exact Mo.rF
theorem Mo.lRail : Mo n p (lRail f n p).2.2 := by
  unfold Jvm.Pilot.@@N@@.lRail
  exact (((Mo.rW.trans Mo.rW).trans Mo.rN).trans Mo.rW).trans Mo.rN
theorem Mo.lLamp : Mo n p (lLamp f n v p).2.2 := by
  unfold Jvm.Pilot.@@N@@.lLamp
  exact ((Mo.rW.trans Mo.rN).trans Mo.rW).trans Mo.rN
theorem Mo.lLock : Mo n p (lLock f n p).2.2.2.2 := by
  unfold Jvm.Pilot.@@N@@.lLock
  exact ((((Mo.rW.trans Mo.rN).trans Mo.rW).trans Mo.rN).trans Mo.rN).trans Mo.rN
theorem Mo.lMark : Mo n p (lMark f n p).2.2.2 := by
  unfold Jvm.Pilot.@@N@@.lMark
  exact (((Mo.rW.trans Mo.rN).trans Mo.rW).trans Mo.rN).trans Mo.rI
theorem Mo.lWatch : Mo n p (lWatch f n p).2.2 := by
  unfold Jvm.Pilot.@@N@@.lWatch
  exact ((Mo.rW.trans Mo.rN).trans Mo.rW).trans Mo.rN
theorem Mo.lB1 : Mo n p (lB1 f n p).2.2 := by
  unfold Jvm.Pilot.@@N@@.lB1
  exact (((Mo.rW.trans Mo.rN).trans Mo.rW).trans Mo.rN).trans Mo.rW
theorem Mo.lB2 : Mo n p (lB2 f n v p) := by
  unfold Jvm.Pilot.@@N@@.lB2
  split
  · exact Mo.rF
  · exact Mo.refl _
theorem Mo.lBk : Mo n p (lBk f n v p).2 := by
  unfold Jvm.Pilot.@@N@@.lBk
  split
  · exact Mo.rI
  · exact Mo.rI.trans Mo.rN
theorem Mo.lT1 : Mo n p (lT1 f n p).2.2.2 := by
  unfold Jvm.Pilot.@@N@@.lT1
  exact ((((Mo.rW.trans Mo.rN).trans Mo.rW).trans Mo.rN).trans Mo.rW).trans Mo.rN
theorem Mo.lTk : Mo n p (lTk f n v p).2.2 := by
  unfold Jvm.Pilot.@@N@@.lTk
  split
  · split
    · exact ((Mo.rI.trans Mo.rI).trans Mo.rW).trans Mo.rN
    · exact Mo.rI.trans Mo.rI
  · exact Mo.rI
theorem Mo.lLine : Mo n p (lLine f n v p).2 := by
  unfold Jvm.Pilot.@@N@@.lLine
  split
  · exact Mo.lRail
  split
  · exact Mo.hd.trans Mo.lLamp
  split
  · exact Mo.hd.trans Mo.lLock
  split
  · dsimp only [bikeL]
    exact (((Mo.hd.trans Mo.lB1).trans Mo.lB2).trans Mo.rN).trans (Mo.lBk.trans Mo.rI)
  split
  · dsimp only [thiefL]
    exact (Mo.hd.trans Mo.lT1).trans Mo.lTk
  split
  · exact Mo.hd.trans Mo.lMark
  split
  · exact Mo.hd.trans Mo.lWatch
  exact Mo.rF
theorem rS_go (hq : q.2.2 ≤ n) (h : (rS f n q).1 = 0) : q.2.2 + 1 ≤ (rS f n q).2.2 ∧ (rS f n q).2.2 ≤ n := by
  have h0 := rS_0 h
  unfold rS at h ⊢
  rw [if_pos h0] at h ⊢
  by_cases k : kd f n q.2.2 = 3
  · rw [if_pos k]
    have := tl_pos (f := f) (n := n) (s := q.2.2) (by omega)
    have h1 := adv_ge (f := f) hq
    exact ⟨by show q.2.2 + 1 ≤ adv f n q.2.2; omega, adv_le hq⟩
  · rw [if_neg k] at h
    exact absurd (show (1 : Nat) = 0 from h) (by decide)
theorem line_go (hp : p.2.2 ≤ n) (h : (rS f n (lLine f n v p).2).1 = 0) : p.2.2 + 1 ≤ (rS f n (lLine f n v p).2).2.2 ∧ (rS f n (lLine f n v p).2).2.2 ≤ n := by
  have h1 := Mo.lLine (f := f) (v := v) hp
  have h2 := rS_go h1.2 h
  exact ⟨by omega, h2.2⟩
end OKL
end
