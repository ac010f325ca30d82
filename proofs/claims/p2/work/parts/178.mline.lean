/-! any line of the reference -/
section MY
variable {f : Nat → Int32} {n : Nat} {m0 ms : A1} {mw : Nat → Int64} {ma : A2} {p : PS} {v : Rl}
theorem tok_inj {s : Nat} {w w' : List Int32} (h : tokIs f n s w) (h' : tokIs f n s w') : w = w' := by
  have e : w.length = w'.length := h.2.1.symm.trans h'.2.1
  refine List.ext_getElem e (fun i h1 h2 => ?_)
  have a := h.2.2 i h1
  have b := h'.2.2 i h2
  rw [List.getD_eq_getElem?_getD, List.getElem?_eq_getElem h1] at a
  rw [List.getD_eq_getElem?_getD, List.getElem?_eq_getElem h2] at b
  exact a.symm.trans b
theorem rW_ne (h : p.1 ≠ 0) (w : List Int32) : rW f n w p = p := by
  unfold rW
  rw [if_neg h]
theorem rN_ne (h : p.1 ≠ 0) (lo hi : Nat) : rN f n lo hi p = (lo, p) := by
  unfold rN
  rw [if_neg h]
theorem rI_ne (h : p.1 ≠ 0) (w : List Int32) : rI f n w p = (0, p) := by
  unfold rI
  rw [if_neg (fun q => h q.1)]
theorem rF_ne (h : p.1 ≠ 0) (c : Nat) : rF c p = p := by
  unfold rF
  rw [if_neg h]
theorem rS_ne (h : p.1 ≠ 0) : rS f n p = p := by
  unfold rS
  rw [if_neg h]
theorem lampL_ne (h : p.1 ≠ 0) : (lampL f n v p).2 = p := by
  show (lLamp f n v p).2.2 = p
  unfold lLamp
  simp only [rW_ne h, rN_ne h]
theorem lockL_ne (h : p.1 ≠ 0) : (lockL f n v p).2 = p := by
  show (lLock f n p).2.2.2.2 = p
  unfold lLock
  simp only [rW_ne h, rN_ne h]
theorem lB1_ne (h : p.1 ≠ 0) : (lB1 f n p).2.2 = p := by
  unfold lB1
  simp only [rW_ne h, rN_ne h]
theorem lB2_ne (h : p.1 ≠ 0) : lB2 f n v p = p := by
  unfold lB2
  rw [if_neg (fun q => h q.1)]
theorem lBk_ne (h : p.1 ≠ 0) : (lBk f n v p).2 = p := by
  unfold lBk
  rw [rI_ne h, if_pos rfl]
theorem bikeL_ne (h : p.1 ≠ 0) : (bikeL f n v p).2 = p := by
  dsimp only [bikeL]
  rw [lB1_ne h, lB2_ne h, rN_ne h]
  dsimp only
  rw [lBk_ne h, rI_ne h]
theorem lT1_ne (h : p.1 ≠ 0) : (lT1 f n p).2.2.2 = p := by
  unfold lT1
  simp only [rW_ne h, rN_ne h]
theorem lTk_ne (h : p.1 ≠ 0) : (lTk f n v p).2.2 = p := by
  unfold lTk
  rw [rI_ne h, if_pos rfl]
  dsimp only
  rw [rI_ne h, if_pos rfl]
  dsimp only
  rw [rW_ne h, rN_ne h]
theorem thiefL_ne (h : p.1 ≠ 0) : (thiefL f n v p).2 = p := by
  dsimp only [thiefL]
  rw [lT1_ne h, lTk_ne h]
theorem markL_ne (h : p.1 ≠ 0) : (markL f n v p).2 = p := by
  show (lMark f n p).2.2.2 = p
  unfold lMark
  simp only [rW_ne h, rN_ne h, rI_ne h]
theorem watchL_ne (h : p.1 ≠ 0) : (watchL f n v p).2 = p := by
  show (lWatch f n p).2.2 = p
  unfold lWatch
  simp only [rW_ne h, rN_ne h]
theorem rF_1 {c : Nat} (hc : c ≠ 0) (h0 : p.1 = 0) : (rF c p).1 ≠ 0 := by
  unfold rF
  rw [if_pos h0]
  exact hc
theorem m_122F {post : A1 → (Nat → Int64) → A2 → Prop} {k : Int32} (h : MS f n p m0 ms mw) (hz : p.1 ≠ 0) (hp : post ms mw ma) : P_X12_line_122 post k ms mw ma := ⟨fun z => absurd z (h.f1 hz), fun _ => hp⟩
theorem m_lampLn (hn : n ≤ 1600) (ha : ∀ i, i < n → ma 2 i = f i) (hv : okV v) (h : MS f n p m0 ms mw) (h0 : p.1 = 0) (h4 : R4 v ma) {post : A1 → (Nat → Int64) → A2 → Prop} (hp : ∀ mt mw' mb, MS f n (lampL f n v (hd f n (decide (v 11 0 < 4)) 3 p)).2 m0 mt mw' → F4 ma mb → ((lampL f n v (hd f n (decide (v 11 0 < 4)) 3 p)).2.1 = 0 → R4 (lampL f n v (hd f n (decide (v 11 0 < 4)) 3 p)).1 mb) → post mt mw' mb) : P_X12_line_98 post 0 ms mw ma := by
  have hb : v 11 0 ≤ 4 := h4.2.2.1.2.1
  refine ⟨fun _ => ⟨fun _ => ⟨fun c => b0f ?_, fun c => b1f ?_⟩, fun c => absurd c (by decide), fun c => absurd c (by decide), fun c => absurd rfl c⟩, fun c => absurd c (by decide)⟩
  · have hne : v 11 0 ≠ 4 := fun e => c (by rw [h4.2.2.1.1, e]; rfl)
    rw [show decide (v 11 0 < 4) = true from decide_eq_true (by omega)] at hp
    rw [show hd f n true 3 p = (0, 0, adv f n p.2.2) from rfl] at hp
    exact ⟨fun _ => m_nextT hn ha h h0 (fun mt mw' h' => ⟨fun _ => m_lampLine hn ha hv h' h4 (by omega) (fun a b d e1 e2 e3 => hp a b d e1 e2 (fun _ => e3)), fun c => absurd c (by decide), fun c => absurd c (by decide), fun c => absurd rfl c⟩), fun q => absurd (h.f0 h0) q⟩
  · have hne : v 11 0 = 4 := (nI_eq (b := 4) (by omega) (by decide)).mp ((h4.2.2.1.1).symm.trans c)
    rw [show decide (v 11 0 < 4) = false from decide_eq_false (by omega)] at hp
    have hr := rF_1 (p := p) (c := 3) (by decide) h0
    have e : (lampL f n v (hd f n false 3 p)).2 = rF 3 p := lampL_ne hr
    rw [e] at hp
    exact m_fails (c := 3) h (by decide) (by decide) (fun mt h' => m_122F h' hr (hp mt mw ma h' (F4.refl ma) (fun z => absurd z hr)))
theorem m_lockLn (hn : n ≤ 1600) (ha : ∀ i, i < n → ma 2 i = f i) (hv : okV v) (h : MS f n p m0 ms mw) (h0 : p.1 = 0) (h4 : R4 v ma) {post : A1 → (Nat → Int64) → A2 → Prop} (hp : ∀ mt mw' mb, MS f n (lockL f n v (hd f n (decide (v 12 0 < 5)) 3 p)).2 m0 mt mw' → F4 ma mb → ((lockL f n v (hd f n (decide (v 12 0 < 5)) 3 p)).2.1 = 0 → R4 (lockL f n v (hd f n (decide (v 12 0 < 5)) 3 p)).1 mb) → post mt mw' mb) : P_X12_line_98 post 1 ms mw ma := by
  have hb := ok12 hv
  refine ⟨fun _ => ⟨fun c => absurd c (by decide), fun _ => ⟨fun c => b0f ?_, fun c => b1f ?_⟩, fun c => absurd c (by decide), fun _ c => absurd rfl c⟩, fun c => absurd c (by decide)⟩
  · have hne : v 12 0 ≠ 5 := fun e => c (by rw [h4.1.1.2.2.2.1, e]; rfl)
    rw [show decide (v 12 0 < 5) = true from decide_eq_true (by omega)] at hp
    rw [show hd f n true 3 p = (0, 0, adv f n p.2.2) from rfl] at hp
    exact ⟨fun _ => m_nextT hn ha h h0 (fun mt mw' h' => ⟨fun c => absurd c (by decide), fun _ => m_lockLine hn ha h' h4 (by omega) (fun a b d e1 e2 e3 => hp a b d e1 e2 (fun _ => e3)), fun c => absurd c (by decide), fun _ c => absurd rfl c⟩), fun q => absurd (h.f0 h0) q⟩
  · have hne : v 12 0 = 5 := (nI_eq (b := 5) (by omega) (by decide)).mp ((h4.1.1.2.2.2.1).symm.trans c)
    rw [show decide (v 12 0 < 5) = false from decide_eq_false (by omega)] at hp
    have hr := rF_1 (p := p) (c := 3) (by decide) h0
    have e : (lockL f n v (hd f n false 3 p)).2 = rF 3 p := lockL_ne hr
    rw [e] at hp
    exact m_fails (c := 3) h (by decide) (by decide) (fun mt h' => m_122F h' hr (hp mt mw ma h' (F4.refl ma) (fun z => absurd z hr)))
theorem m_bikeLn (hn : n ≤ 1600) (ha : ∀ i, i < n → ma 2 i = f i) (hv : okV v) (h : MS f n p m0 ms mw) (h0 : p.1 = 0) (h4 : R4 v ma) {post : A1 → (Nat → Int64) → A2 → Prop} (hp : ∀ mt mw' mb, MS f n (bikeL f n v (hd f n (decide (v 13 0 < 10)) 3 p)).2 m0 mt mw' → F4 ma mb → ((bikeL f n v (hd f n (decide (v 13 0 < 10)) 3 p)).2.1 = 0 → R4 (bikeL f n v (hd f n (decide (v 13 0 < 10)) 3 p)).1 mb) → post mt mw' mb) : P_X12_line_98 post 2 ms mw ma := by
  have hb := ok13 hv
  refine ⟨fun _ => ⟨fun c => absurd c (by decide), fun c => absurd c (by decide), fun _ => ⟨fun c => b0f ?_, fun c => b1f ?_⟩, fun _ _ c => absurd rfl c⟩, fun c => absurd c (by decide)⟩
  · have hne : v 13 0 ≠ 10 := fun e => c (by rw [h4.1.1.2.2.2.2, e]; rfl)
    rw [show decide (v 13 0 < 10) = true from decide_eq_true (by omega)] at hp
    rw [show hd f n true 3 p = (0, 0, adv f n p.2.2) from rfl] at hp
    dsimp only [bikeL] at hp
    exact ⟨fun _ => m_nextT hn ha h h0 (fun mt mw' h' => ⟨fun c => absurd c (by decide), fun c => absurd c (by decide), fun _ => m_bikeLine hn ha hv h' h4 (by omega) rfl (fun a b d e1 e2 e3 => hp a b d e1 e2 (fun _ => e3)), fun _ _ c => absurd rfl c⟩), fun q => absurd (h.f0 h0) q⟩
  · have hne : v 13 0 = 10 := (nI_eq (b := 10) (by omega) (by decide)).mp ((h4.1.1.2.2.2.2).symm.trans c)
    rw [show decide (v 13 0 < 10) = false from decide_eq_false (by omega)] at hp
    have hr := rF_1 (p := p) (c := 3) (by decide) h0
    have e : (bikeL f n v (hd f n false 3 p)).2 = rF 3 p := bikeL_ne hr
    rw [e] at hp
    exact m_fails (c := 3) h (by decide) (by decide) (fun mt h' => m_122F h' hr (hp mt mw ma h' (F4.refl ma) (fun z => absurd z hr)))
theorem m_thiefLn (hn : n ≤ 1600) (ha : ∀ i, i < n → ma 2 i = f i) (hv : okV v) (h : MS f n p m0 ms mw) (h0 : p.1 = 0) (h4 : R4 v ma) {post : A1 → (Nat → Int64) → A2 → Prop} (hp : ∀ mt mw' mb, MS f n (thiefL f n v (hd f n (decide (v 14 0 < 6)) 3 p)).2 m0 mt mw' → F4 ma mb → ((thiefL f n v (hd f n (decide (v 14 0 < 6)) 3 p)).2.1 = 0 → R4 (thiefL f n v (hd f n (decide (v 14 0 < 6)) 3 p)).1 mb) → post mt mw' mb) : P_X12_line_98 post 3 ms mw ma := by
  have hb := ok14 hv
  refine ⟨fun _ => ⟨fun c => absurd c (by decide), fun c => absurd c (by decide), fun c => absurd c (by decide), fun _ _ _ => ⟨fun c => b0f ?_, fun c => b1f ?_⟩⟩, fun c => absurd c (by decide)⟩
  · have hne : v 14 0 ≠ 6 := fun e => c (by rw [h4.2.1.1, e]; rfl)
    rw [show decide (v 14 0 < 6) = true from decide_eq_true (by omega)] at hp
    rw [show hd f n true 3 p = (0, 0, adv f n p.2.2) from rfl] at hp
    dsimp only [thiefL] at hp
    exact ⟨fun _ => m_nextT hn ha h h0 (fun mt mw' h' => ⟨fun c => absurd c (by decide), fun c => absurd c (by decide), fun c => absurd c (by decide), fun _ _ _ => m_thiefLine hn ha hv h' h4 (by omega) hp⟩), fun q => absurd (h.f0 h0) q⟩
  · have hne : v 14 0 = 6 := (nI_eq (b := 6) (by omega) (by decide)).mp ((h4.2.1.1).symm.trans c)
    rw [show decide (v 14 0 < 6) = false from decide_eq_false (by omega)] at hp
    have hr := rF_1 (p := p) (c := 3) (by decide) h0
    have e : (thiefL f n v (hd f n false 3 p)).2 = rF 3 p := thiefL_ne hr
    rw [e] at hp
    exact m_fails (c := 3) h (by decide) (by decide) (fun mt h' => m_122F h' hr (hp mt mw ma h' (F4.refl ma) (fun z => absurd z hr)))
theorem m_markLn (hn : n ≤ 1600) (ha : ∀ i, i < n → ma 2 i = f i) (hv : okV v) (h : MS f n p m0 ms mw) (h0 : p.1 = 0) (h4 : R4 v ma) {post : A1 → (Nat → Int64) → A2 → Prop} (hp : ∀ mt mw' mb, MS f n (markL f n v (hd f n (decide (v 3 0 = 0)) 2 p)).2 m0 mt mw' → F4 ma mb → ((markL f n v (hd f n (decide (v 3 0 = 0)) 2 p)).2.1 = 0 → R4 (markL f n v (hd f n (decide (v 3 0 = 0)) 2 p)).1 mb) → post mt mw' mb) : P_X12_line_29 post 0 ms mw ma := by
  refine ⟨fun c => absurd c (by decide), fun _ => m_markLine hn ha hv h h0 h4 (fun e mt mw' h' => ?_) (fun e mt mw' mb h' hF hR => ?_)⟩
  · rw [show decide (v 3 0 = 0) = false from decide_eq_false (by omega)] at hp
    have hr := rF_1 (p := p) (c := 2) (by decide) h0
    have e : (markL f n v (hd f n false 2 p)).2 = rF 2 p := markL_ne hr
    rw [e] at hp
    exact hp mt mw' ma h' (F4.refl ma) (fun z => absurd z hr)
  · rw [show decide (v 3 0 = 0) = true from decide_eq_true e] at hp
    exact hp mt mw' mb h' hF (fun _ => hR)
theorem m_watchLn (hn : n ≤ 1600) (ha : ∀ i, i < n → ma 2 i = f i) (hv : okV v) (h : MS f n p m0 ms mw) (h0 : p.1 = 0) (h4 : R4 v ma) {post : A1 → (Nat → Int64) → A2 → Prop} (hp : ∀ mt mw' mb, MS f n (watchL f n v (hd f n (decide (v 7 0 = 0)) 2 p)).2 m0 mt mw' → F4 ma mb → ((watchL f n v (hd f n (decide (v 7 0 = 0)) 2 p)).2.1 = 0 → R4 (watchL f n v (hd f n (decide (v 7 0 = 0)) 2 p)).1 mb) → post mt mw' mb) : P_X12_line_29 post 1 ms mw ma := by
  refine ⟨fun c => absurd c (by decide), fun _ => m_watchLine hn ha hv h h0 h4 (fun e mt mw' h' => ?_) (fun e mt mw' mb h' hF hR => ?_)⟩
  · rw [show decide (v 7 0 = 0) = false from decide_eq_false (by omega)] at hp
    have hr := rF_1 (p := p) (c := 2) (by decide) h0
    have e : (watchL f n v (hd f n false 2 p)).2 = rF 2 p := watchL_ne hr
    rw [e] at hp
    exact hp mt mw' ma h' (F4.refl ma) (fun z => absurd z hr)
  · rw [show decide (v 7 0 = 0) = true from decide_eq_true e] at hp
    exact hp mt mw' mb h' hF (fun _ => hR)
theorem m_noLn (h : MS f n p m0 ms mw) (h0 : p.1 = 0) {post : A1 → (Nat → Int64) → A2 → Prop} (hp : ∀ mt, MS f n (rF 1 p) m0 mt mw → post mt mw ma) : P_X12_line_98 post (-1) ms mw ma := by
  have hr := rF_1 (p := p) (c := 1) (by decide) h0
  refine ⟨fun c => absurd rfl c, fun _ => m_fails (c := 1) h (by decide) (by decide) (fun mt h' => ⟨fun c => absurd c (by decide), fun c => absurd c (by decide), fun c => absurd c (by decide), fun _ _ _ => ⟨fun _ => b0f (m_122F h' hr (hp mt h')), fun _ => b1f (m_fails (c := 3) h' (by decide) (by decide) (fun mu hu => ?_))⟩⟩)⟩
  rw [rF_ne hr] at hu
  exact m_122F hu hr (hp mu hu)
theorem m_line (hn : n ≤ 1600) (ha : ∀ i, i < n → ma 2 i = f i) (hv : okV v) (h : MS f n p m0 ms mw) (h0 : p.1 = 0) (h4 : R4 v ma) (hz : v 2 0 ≠ 0) {post : A1 → (Nat → Int64) → A2 → Prop} (hp : ∀ mt mw' mb, MS f n (lLine f n v p).2 m0 mt mw' → F4 ma mb → ((lLine f n v p).2.1 = 0 → R4 (lLine f n v p).1 mb) → post mt mw' mb) : P_X12_line ms mw ma post := by
  refine m_is h (w := [109, 97, 114, 107]) (by decide) (by decide) (fun _ t => b1f ?_) (fun u_mark => b0f ?_)
  ·
    have t_lamp : ¬ tokIs f n p.2.2 [108, 97, 109, 112] := fun q => absurd (tok_inj t q) (by decide)
    have t_lock : ¬ tokIs f n p.2.2 [108, 111, 99, 107] := fun q => absurd (tok_inj t q) (by decide)
    have t_bike : ¬ tokIs f n p.2.2 [98, 105, 107, 101] := fun q => absurd (tok_inj t q) (by decide)
    have t_thief : ¬ tokIs f n p.2.2 [116, 104, 105, 101, 102] := fun q => absurd (tok_inj t q) (by decide)
    have e : lLine f n v p = markL f n v (hd f n (decide (v 3 0 = 0)) 2 p) := by unfold lLine; rw [if_neg hz, if_neg t_lamp, if_neg t_lock, if_neg t_bike, if_neg t_thief, if_pos t]
    rw [e] at hp
    exact m_markLn hn ha hv h h0 h4 hp
  refine m_is h (w := [119, 97, 116, 99, 104]) (by decide) (by decide) (fun _ t => b1f ?_) (fun u_watch => b0f ?_)
  ·
    have t_lamp : ¬ tokIs f n p.2.2 [108, 97, 109, 112] := fun q => absurd (tok_inj t q) (by decide)
    have t_lock : ¬ tokIs f n p.2.2 [108, 111, 99, 107] := fun q => absurd (tok_inj t q) (by decide)
    have t_bike : ¬ tokIs f n p.2.2 [98, 105, 107, 101] := fun q => absurd (tok_inj t q) (by decide)
    have t_thief : ¬ tokIs f n p.2.2 [116, 104, 105, 101, 102] := fun q => absurd (tok_inj t q) (by decide)
    have t_mark : ¬ tokIs f n p.2.2 [109, 97, 114, 107] := fun q => absurd (tok_inj t q) (by decide)
    have e : lLine f n v p = watchL f n v (hd f n (decide (v 7 0 = 0)) 2 p) := by unfold lLine; rw [if_neg hz, if_neg t_lamp, if_neg t_lock, if_neg t_bike, if_neg t_thief, if_neg t_mark, if_pos t]
    rw [e] at hp
    exact m_watchLn hn ha hv h h0 h4 hp
  refine ⟨fun _ => ?_, fun c => absurd rfl c⟩
  refine m_is h (w := [108, 97, 109, 112]) (by decide) (by decide) (fun _ t => b1f ?_) (fun u_lamp => b0f ?_)
  · have e : lLine f n v p = lampL f n v (hd f n (decide (v 11 0 < 4)) 3 p) := by unfold lLine; rw [if_neg hz, if_pos t]
    rw [e] at hp
    exact m_lampLn hn ha hv h h0 h4 hp
  have t_lamp : ¬ tokIs f n p.2.2 [108, 97, 109, 112] := fun q => u_lamp ⟨h0, q⟩
  refine m_is h (w := [108, 111, 99, 107]) (by decide) (by decide) (fun _ t => b1f ?_) (fun u_lock => b0f ?_)
  · have e : lLine f n v p = lockL f n v (hd f n (decide (v 12 0 < 5)) 3 p) := by unfold lLine; rw [if_neg hz, if_neg t_lamp, if_pos t]
    rw [e] at hp
    exact m_lockLn hn ha hv h h0 h4 hp
  have t_lock : ¬ tokIs f n p.2.2 [108, 111, 99, 107] := fun q => u_lock ⟨h0, q⟩
  refine m_is h (w := [98, 105, 107, 101]) (by decide) (by decide) (fun _ t => b1f ?_) (fun u_bike => b0f ?_)
  · have e : lLine f n v p = bikeL f n v (hd f n (decide (v 13 0 < 10)) 3 p) := by unfold lLine; rw [if_neg hz, if_neg t_lamp, if_neg t_lock, if_pos t]
    rw [e] at hp
    exact m_bikeLn hn ha hv h h0 h4 hp
  have t_bike : ¬ tokIs f n p.2.2 [98, 105, 107, 101] := fun q => u_bike ⟨h0, q⟩
  refine m_is h (w := [116, 104, 105, 101, 102]) (by decide) (by decide) (fun _ t => b1f ?_) (fun u_thief => b0f ?_)
  · have e : lLine f n v p = thiefL f n v (hd f n (decide (v 14 0 < 6)) 3 p) := by unfold lLine; rw [if_neg hz, if_neg t_lamp, if_neg t_lock, if_neg t_bike, if_pos t]
    rw [e] at hp
    exact m_thiefLn hn ha hv h h0 h4 hp
  have t_thief : ¬ tokIs f n p.2.2 [116, 104, 105, 101, 102] := fun q => u_thief ⟨h0, q⟩
  have t_mark : ¬ tokIs f n p.2.2 [109, 97, 114, 107] := fun q => u_mark ⟨h0, q⟩
  have t_watch : ¬ tokIs f n p.2.2 [119, 97, 116, 99, 104] := fun q => u_watch ⟨h0, q⟩
  have e : lLine f n v p = (v, rF 1 p) := by unfold lLine; rw [if_neg hz, if_neg t_lamp, if_neg t_lock, if_neg t_bike, if_neg t_thief, if_neg t_mark, if_neg t_watch]
  rw [e] at hp
  exact m_noLn h h0 (fun mt h' => hp mt mw ma h' (F4.refl ma) (fun z => absurd z (rF_1 (by decide) h0)))
theorem R4.aLine (h4 : R4 v ma) : R4 (aLine v) (va_up ma 3 (upd (ma 3) 4 ((ma 3 4) + 1))) := by
  obtain ⟨⟨⟨a1, a2, a3, a4, a5⟩, b1⟩, hT, hP, hY, o1, o2⟩ := h4
  refine ⟨⟨⟨?_, a2, a3, a4, a5⟩, b1⟩, hT, hP, hY, o1, o2⟩
  show upd (ma 3) 4 ((ma 3 4) + 1) 4 = nI (v 2 0 + 1)
  rw [u_at, a1, nI_1]
theorem m_rail47 {w : Rl} {mb : A2} (hn : n ≤ 1600) (ha : ∀ i, i < n → ma 2 i = f i) (h : MS f n p m0 ms mw) (hF : F4 ma mb) (hR : p.1 = 0 → R4 w mb) {post : Int32 → A1 → (Nat → Int64) → A2 → Prop} {R13 : A1 → (Nat → Int64) → A2 → Prop} (hp : ∀ mt mw' mc, MS f n (rS f n p) m0 mt mw' → F4 ma mc → ((rS f n p).1 = 0 → R4 (aLine w) mc) → R13 mt mw' mc) : P_X12_rail_47 post R13 ms mw mb := by
  have hF' : F4 ma (va_up mb 3 (upd (mb 3) 4 ((mb 3 4) + 1))) := hF.row (by decide) (by decide) rfl (Or.inr (by decide)) _
  by_cases z : p.1 = 0
  · exact ⟨fun c => absurd (h.f0 z) c, fun _ => b1f (m_ends hn (fun i hi => by rw [hF.two]; exact ha i hi) h z (fun mt mw' h' => hp mt mw' _ h' hF' (fun _ => (hR z).aLine)))⟩
  · refine ⟨fun _ => b0f (hp ms mw _ ?_ hF' (fun q => absurd (rS_0 q) z)), fun c => absurd c (h.f1 z)⟩
    rw [rS_ne z]
    exact h
/-- one turn of the reference's loop -/
theorem m_turn (hn : n ≤ 1600) (ha : ∀ i, i < n → ma 2 i = f i) (hv : okV v) (h : MS f n p m0 ms mw) (h0 : p.1 = 0) (h4 : R4 v ma) {post : Int32 → A1 → (Nat → Int64) → A2 → Prop} {R13 : A1 → (Nat → Int64) → A2 → Prop} (hp : ∀ mt mw' mc, MS f n (rS f n (lLine f n v p).2) m0 mt mw' → F4 ma mc → ((rS f n (lLine f n v p).2).1 = 0 → R4 (aLine (lLine f n v p).1) mc) → R13 mt mw' mc) : ((¬ (ma 3 4) = 0) → P_X12_line ms mw ma (fun (ms_12 : Nat → Int32) (mw_13 : Nat → Int64) (ma_14 : Nat → Nat → Int32) => (P_X12_rail_47 post R13 ms_12 mw_13 ma_14))) ∧ (((ma 3 4) = 0) → P_X12_railLine ms mw ma (fun (ms_15 : Nat → Int32) (mw_16 : Nat → Int64) (ma_17 : Nat → Nat → Int32) => (P_X12_rail_47 post R13 ms_15 mw_16 ma_17))) := by
  have h2 := ok2 hv
  have e3 : ma 3 4 = nI (v 2 0) := h4.1.1.1
  refine ⟨fun c => m_line hn ha hv h h0 h4 (fun z => c (by rw [e3, z]; rfl)) (fun mt mw' mb h' hF hR => m_rail47 hn ha h' hF hR hp), fun c => ?_⟩
  have z : v 2 0 = 0 := (nI_eq (b := 0) (by omega) (by decide)).mp (e3.symm.trans c)
  have e : lLine f n v p = (aRail v (lRail f n p).1 (lRail f n p).2.1, (lRail f n p).2.2) := by unfold lLine; rw [if_pos z]
  rw [e] at hp
  exact m_railLine hn ha h h4 (fun mt mw' mb h' hF hR => m_rail47 hn ha h' hF (fun _ => hR) hp)
end MY
