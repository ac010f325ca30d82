/-! a line of the class -/
def hd (f : Nat → Int32) (n : Nat) (ok : Bool) (c : Nat) (p : PS) : PS := if ok = true then (0, 0, adv f n p.2.2) else rF c p
def lampL (f : Nat → Int32) (n : Nat) (v : Rl) (q : PS) : Rl × PS := (aLamp v (lLamp f n v q).1 (lLamp f n v q).2.1, (lLamp f n v q).2.2)
def lockL (f : Nat → Int32) (n : Nat) (v : Rl) (q : PS) : Rl × PS := (aLock v (lLock f n q).1 (lLock f n q).2.1 (lLock f n q).2.2.1 (lLock f n q).2.2.2.1, (lLock f n q).2.2.2.2)
def bikeL (f : Nat → Int32) (n : Nat) (v : Rl) (q : PS) : Rl × PS := (aBike v (lB1 f n q).1 (lB1 f n q).2.1 (rN f n 0 (v 0 0) (lB2 f n v (lB1 f n q).2.2)).1 (lBk f n v (rN f n 0 (v 0 0) (lB2 f n v (lB1 f n q).2.2)).2).1 (rI f n [109, 97, 114, 107, 101, 100] (lBk f n v (rN f n 0 (v 0 0) (lB2 f n v (lB1 f n q).2.2)).2).2).1, (rI f n [109, 97, 114, 107, 101, 100] (lBk f n v (rN f n 0 (v 0 0) (lB2 f n v (lB1 f n q).2.2)).2).2).2)
def thiefL (f : Nat → Int32) (n : Nat) (v : Rl) (q : PS) : Rl × PS := (aThief v (lT1 f n q).1 (lT1 f n q).2.1 (lT1 f n q).2.2.1 (lTk f n v (lT1 f n q).2.2.2).1 (lTk f n v (lT1 f n q).2.2.2).2.1, (lTk f n v (lT1 f n q).2.2.2).2.2)
def markL (f : Nat → Int32) (n : Nat) (v : Rl) (q : PS) : Rl × PS := (aMark v (lMark f n q).1 (lMark f n q).2.1 (lMark f n q).2.2.1, (lMark f n q).2.2.2)
def watchL (f : Nat → Int32) (n : Nat) (v : Rl) (q : PS) : Rl × PS := (aWatch v (lWatch f n q).1 (lWatch f n q).2.1, (lWatch f n q).2.2)
def lLine (f : Nat → Int32) (n : Nat) (v : Rl) (p : PS) : Rl × PS := if v 2 0 = 0 then (aRail v (lRail f n p).1 (lRail f n p).2.1, (lRail f n p).2.2) else if tokIs f n p.2.2 [108, 97, 109, 112] then lampL f n v (hd f n (decide (v 11 0 < 4)) 3 p) else if tokIs f n p.2.2 [108, 111, 99, 107] then lockL f n v (hd f n (decide (v 12 0 < 5)) 3 p) else if tokIs f n p.2.2 [98, 105, 107, 101] then bikeL f n v (hd f n (decide (v 13 0 < 10)) 3 p) else if tokIs f n p.2.2 [116, 104, 105, 101, 102] then thiefL f n v (hd f n (decide (v 14 0 < 6)) 3 p) else if tokIs f n p.2.2 [109, 97, 114, 107] then markL f n v (hd f n (decide (v 3 0 = 0)) 2 p) else if tokIs f n p.2.2 [119, 97, 116, 99, 104] then watchL f n v (hd f n (decide (v 7 0 = 0)) 2 p) else (v, rF 1 p)
theorem rS_0 {f : Nat → Int32} {n : Nat} {p : PS} (h : (rS f n p).1 = 0) : p.1 = 0 := by
  by_cases c : p.1 = 0
  · exact c
  · unfold rS at h
    rw [if_neg c] at h
    exact h
section CX
variable {f : Nat → Int32} {n : Nat} {us : A1} {ua : A2} {p : PS} {rs : A1} {ra : A2} {v : Rl}
theorem c_isWordT (hn : n ≤ 1600) (ha : ∀ i, i < n → ua 0 i = f i) (h : CS f n p us) (h0 : p.1 = 0) {w : List Int32} (hw : okW w) {post : Int32 → Prop} (hy : tokIs f n p.2.2 w → post 1) (hno : ¬ tokIs f n p.2.2 w → post 0) : P_X8_isWord (ua 0) (us 3) (us 4) (us 5) w post := by
  obtain ⟨-, g3, g4, g5, -⟩ := h.2.2.2.2.2.1 h0
  rw [g3, g4, g5]
  exact c_isWord hn h.1 ha hw hy hno
theorem c_line260 (hn : n ≤ 1600) (ha : ∀ i, i < n → ua 0 i = f i) (h : CS f n p us) (hB : BOK ra) (hR : p.1 = 0 → RelC v rs ra) {post : A1 → A1 → A2 → Prop} (hp : ∀ us' rs' ra', CS f n (rS f n p) us' → BOK ra' → ((rS f n p).1 = 0 → RelC (aLine v) rs' ra') → post us' rs' ra') : P_X5_readLine_260 ua post us rs ra := by
  refine c_readSign hn ha h (fun us' h' x hx => hp us' _ ra h' hB (fun z => ?_))
  have R := hR (rS_0 z)
  rw [hx, rc_s R 2, nI_1]
  exact R.aLine
theorem hd_ne {c : Nat} (hc : c ≠ 0) (h0 : p.1 = 0) : (hd f n false c p).1 ≠ 0 := by
  unfold hd rF
  rw [if_neg (by decide), if_pos h0]
  exact hc
theorem c_headT (hn : n ≤ 1600) (ha : ∀ i, i < n → ua 0 i = f i) (h : CS f n p us) (h0 : p.1 = 0) {c : Nat} (hc : c ≠ 0) (hc4 : c < 4) {post : A1 → Prop} (hp : ∀ us', CS f n (hd f n true c p) us' → post us') : P_X5_readHead us ua 1 (nI c) post := c_readHead (b := 1) hn ha h h0 (by decide) hc hc4 hp
theorem c_headF (hn : n ≤ 1600) (ha : ∀ i, i < n → ua 0 i = f i) (h : CS f n p us) (h0 : p.1 = 0) {c : Nat} (hc : c ≠ 0) (hc4 : c < 4) {post : A1 → Prop} (hp : ∀ us', CS f n (hd f n false c p) us' → post us') : P_X5_readHead us ua 0 (nI c) post := c_readHead (b := 0) hn ha h h0 (by decide) hc hc4 hp
theorem c_lampT (hn : n ≤ 1600) (ha : ∀ i, i < n → ua 0 i = f i) (hv : okV v) (h : CS f n p us) (h0 : p.1 = 0) (hC : RelC v rs ra) (hok : v 11 0 < 4) {post : A1 → A1 → A2 → Prop} (hp : ∀ us' rs' ra', CS f n (rS f n (lampL f n v (hd f n true 3 p)).2) us' → BOK ra' → ((rS f n (lampL f n v (hd f n true 3 p)).2).1 = 0 → RelC (aLine (lampL f n v (hd f n true 3 p)).1) rs' ra') → post us' rs' ra') : P_X5_readLine_44 ua post 1 us rs ra :=
  c_headT (c := 3) hn ha h h0 (by decide) (by decide) (fun us1 h1 => c_readLamp hn ha hv h1 hC (fun z => hok) (fun us' rs' ra' a b c => c_line260 hn ha a b c hp))
theorem c_lampF (hn : n ≤ 1600) (ha : ∀ i, i < n → ua 0 i = f i) (hv : okV v) (h : CS f n p us) (h0 : p.1 = 0) (hC : RelC v rs ra) {post : A1 → A1 → A2 → Prop} (hp : ∀ us' rs' ra', CS f n (rS f n (lampL f n v (hd f n false 3 p)).2) us' → BOK ra' → ((rS f n (lampL f n v (hd f n false 3 p)).2).1 = 0 → RelC (aLine (lampL f n v (hd f n false 3 p)).1) rs' ra') → post us' rs' ra') : P_X5_readLine_44 ua post 0 us rs ra :=
  c_headF (c := 3) hn ha h h0 (by decide) (by decide) (fun us1 h1 => c_readLamp hn ha hv h1 hC (fun z => absurd z (hd_ne (by decide) h0)) (fun us' rs' ra' a b c => c_line260 hn ha a b c hp))
theorem c_lockT (hn : n ≤ 1600) (ha : ∀ i, i < n → ua 0 i = f i) (hv : okV v) (h : CS f n p us) (h0 : p.1 = 0) (hC : RelC v rs ra) (hok : v 12 0 < 5) {post : A1 → A1 → A2 → Prop} (hp : ∀ us' rs' ra', CS f n (rS f n (lockL f n v (hd f n true 3 p)).2) us' → BOK ra' → ((rS f n (lockL f n v (hd f n true 3 p)).2).1 = 0 → RelC (aLine (lockL f n v (hd f n true 3 p)).1) rs' ra') → post us' rs' ra') : P_X5_readLine_85 ua post 1 us rs ra :=
  c_headT (c := 3) hn ha h h0 (by decide) (by decide) (fun us1 h1 => c_readLock hn ha hv h1 hC (fun z => hok) (fun us' rs' ra' a b c => c_line260 hn ha a b c hp))
theorem c_lockF (hn : n ≤ 1600) (ha : ∀ i, i < n → ua 0 i = f i) (hv : okV v) (h : CS f n p us) (h0 : p.1 = 0) (hC : RelC v rs ra) {post : A1 → A1 → A2 → Prop} (hp : ∀ us' rs' ra', CS f n (rS f n (lockL f n v (hd f n false 3 p)).2) us' → BOK ra' → ((rS f n (lockL f n v (hd f n false 3 p)).2).1 = 0 → RelC (aLine (lockL f n v (hd f n false 3 p)).1) rs' ra') → post us' rs' ra') : P_X5_readLine_85 ua post 0 us rs ra :=
  c_headF (c := 3) hn ha h h0 (by decide) (by decide) (fun us1 h1 => c_readLock hn ha hv h1 hC (fun z => absurd z (hd_ne (by decide) h0)) (fun us' rs' ra' a b c => c_line260 hn ha a b c hp))
theorem c_bikeT (hn : n ≤ 1600) (ha : ∀ i, i < n → ua 0 i = f i) (hv : okV v) (h : CS f n p us) (h0 : p.1 = 0) (hC : RelC v rs ra) (hok : v 13 0 < 10) {post : A1 → A1 → A2 → Prop} (hp : ∀ us' rs' ra', CS f n (rS f n (bikeL f n v (hd f n true 3 p)).2) us' → BOK ra' → ((rS f n (bikeL f n v (hd f n true 3 p)).2).1 = 0 → RelC (aLine (bikeL f n v (hd f n true 3 p)).1) rs' ra') → post us' rs' ra') : P_X5_readLine_127 ua post 1 us rs ra := by
  dsimp only [bikeL] at hp
  exact c_headT (c := 3) hn ha h h0 (by decide) (by decide) (fun us1 h1 => c_readBike hn ha hv h1 hC (fun z => hok) rfl (fun us' rs' ra' a b c => c_line260 hn ha a b c hp))
theorem c_bikeF (hn : n ≤ 1600) (ha : ∀ i, i < n → ua 0 i = f i) (hv : okV v) (h : CS f n p us) (h0 : p.1 = 0) (hC : RelC v rs ra) {post : A1 → A1 → A2 → Prop} (hp : ∀ us' rs' ra', CS f n (rS f n (bikeL f n v (hd f n false 3 p)).2) us' → BOK ra' → ((rS f n (bikeL f n v (hd f n false 3 p)).2).1 = 0 → RelC (aLine (bikeL f n v (hd f n false 3 p)).1) rs' ra') → post us' rs' ra') : P_X5_readLine_127 ua post 0 us rs ra := by
  dsimp only [bikeL] at hp
  exact c_headF (c := 3) hn ha h h0 (by decide) (by decide) (fun us1 h1 => c_readBike hn ha hv h1 hC (fun z => absurd z (hd_ne (by decide) h0)) rfl (fun us' rs' ra' a b c => c_line260 hn ha a b c hp))
theorem c_thiefT (hn : n ≤ 1600) (ha : ∀ i, i < n → ua 0 i = f i) (hv : okV v) (h : CS f n p us) (h0 : p.1 = 0) (hC : RelC v rs ra) (hok : v 14 0 < 6) {post : A1 → A1 → A2 → Prop} (hp : ∀ us' rs' ra', CS f n (rS f n (thiefL f n v (hd f n true 3 p)).2) us' → BOK ra' → ((rS f n (thiefL f n v (hd f n true 3 p)).2).1 = 0 → RelC (aLine (thiefL f n v (hd f n true 3 p)).1) rs' ra') → post us' rs' ra') : P_X5_readLine_169 ua post 1 us rs ra := by
  dsimp only [thiefL] at hp
  exact c_headT (c := 3) hn ha h h0 (by decide) (by decide) (fun us1 h1 => c_readThief hn ha hv h1 hC (fun z => hok) (fun us' rs' ra' a b c => c_line260 hn ha a b c hp))
theorem c_thiefF (hn : n ≤ 1600) (ha : ∀ i, i < n → ua 0 i = f i) (hv : okV v) (h : CS f n p us) (h0 : p.1 = 0) (hC : RelC v rs ra) {post : A1 → A1 → A2 → Prop} (hp : ∀ us' rs' ra', CS f n (rS f n (thiefL f n v (hd f n false 3 p)).2) us' → BOK ra' → ((rS f n (thiefL f n v (hd f n false 3 p)).2).1 = 0 → RelC (aLine (thiefL f n v (hd f n false 3 p)).1) rs' ra') → post us' rs' ra') : P_X5_readLine_169 ua post 0 us rs ra := by
  dsimp only [thiefL] at hp
  exact c_headF (c := 3) hn ha h h0 (by decide) (by decide) (fun us1 h1 => c_readThief hn ha hv h1 hC (fun z => absurd z (hd_ne (by decide) h0)) (fun us' rs' ra' a b c => c_line260 hn ha a b c hp))
theorem c_markT (hn : n ≤ 1600) (ha : ∀ i, i < n → ua 0 i = f i) (hv : okV v) (h : CS f n p us) (h0 : p.1 = 0) (hC : RelC v rs ra) {post : A1 → A1 → A2 → Prop} (hp : ∀ us' rs' ra', CS f n (rS f n (markL f n v (hd f n true 2 p)).2) us' → BOK ra' → ((rS f n (markL f n v (hd f n true 2 p)).2).1 = 0 → RelC (aLine (markL f n v (hd f n true 2 p)).1) rs' ra') → post us' rs' ra') : P_X5_readLine_206 ua post 1 us rs ra :=
  c_headT (c := 2) hn ha h h0 (by decide) (by decide) (fun us1 h1 => c_readMark hn ha hv h1 hC (fun us' rs' a c => c_line260 hn ha a hC.bok (fun _ => c) hp))
theorem c_markF (hn : n ≤ 1600) (ha : ∀ i, i < n → ua 0 i = f i) (hv : okV v) (h : CS f n p us) (h0 : p.1 = 0) (hC : RelC v rs ra) {post : A1 → A1 → A2 → Prop} (hp : ∀ us' rs' ra', CS f n (rS f n (markL f n v (hd f n false 2 p)).2) us' → BOK ra' → ((rS f n (markL f n v (hd f n false 2 p)).2).1 = 0 → RelC (aLine (markL f n v (hd f n false 2 p)).1) rs' ra') → post us' rs' ra') : P_X5_readLine_206 ua post 0 us rs ra :=
  c_headF (c := 2) hn ha h h0 (by decide) (by decide) (fun us1 h1 => c_readMark hn ha hv h1 hC (fun us' rs' a c => c_line260 hn ha a hC.bok (fun _ => c) hp))
theorem c_watchT (hn : n ≤ 1600) (ha : ∀ i, i < n → ua 0 i = f i) (hv : okV v) (h : CS f n p us) (h0 : p.1 = 0) (hC : RelC v rs ra) {post : A1 → A1 → A2 → Prop} (hp : ∀ us' rs' ra', CS f n (rS f n (watchL f n v (hd f n true 2 p)).2) us' → BOK ra' → ((rS f n (watchL f n v (hd f n true 2 p)).2).1 = 0 → RelC (aLine (watchL f n v (hd f n true 2 p)).1) rs' ra') → post us' rs' ra') : P_X5_readLine_243 ua post 1 us rs ra :=
  c_headT (c := 2) hn ha h h0 (by decide) (by decide) (fun us1 h1 => c_readWatch hn ha hv h1 hC (fun us' rs' a c => c_line260 hn ha a hC.bok (fun _ => c) hp))
theorem c_watchF (hn : n ≤ 1600) (ha : ∀ i, i < n → ua 0 i = f i) (hv : okV v) (h : CS f n p us) (h0 : p.1 = 0) (hC : RelC v rs ra) {post : A1 → A1 → A2 → Prop} (hp : ∀ us' rs' ra', CS f n (rS f n (watchL f n v (hd f n false 2 p)).2) us' → BOK ra' → ((rS f n (watchL f n v (hd f n false 2 p)).2).1 = 0 → RelC (aLine (watchL f n v (hd f n false 2 p)).1) rs' ra') → post us' rs' ra') : P_X5_readLine_243 ua post 0 us rs ra :=
  c_headF (c := 2) hn ha h h0 (by decide) (by decide) (fun us1 h1 => c_readWatch hn ha hv h1 hC (fun us' rs' a c => c_line260 hn ha a hC.bok (fun _ => c) hp))
end CX
