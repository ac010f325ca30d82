/-! lines: what they put onto the rail -/
def aRail (v : Rl) (a b : Nat) : Rl := fun f k => if f = 0 then a else if f = 1 then b else v f k
def aLamp (v : Rl) (a b : Nat) : Rl := fun f k => if f = 11 then v 11 0 + 1 else if f = 16 then (if k = v 11 0 then a else v 16 k) else if f = 17 then (if k = v 11 0 then b else v 17 k) else v f k
def aLock (v : Rl) (a b c d : Nat) : Rl := fun f k => if f = 12 then v 12 0 + 1 else if f = 18 then (if k = v 12 0 then a else v 18 k) else if f = 19 then (if k = 3 * v 12 0 then b else if k = 3 * v 12 0 + 1 then c else if k = 3 * v 12 0 + 2 then d else v 19 k) else v f k
def aBike (v : Rl) (a b c d e : Nat) : Rl := fun f k => if f = 13 then v 13 0 + 1 else if f = 20 then (if k = v 13 0 then a else v 20 k) else if f = 21 then (if k = v 13 0 then b else v 21 k) else if f = 22 then (if k = v 13 0 then c else v 22 k) else if f = 23 then (if k = v 13 0 then d else v 23 k) else if f = 24 then (if k = v 13 0 then e else v 24 k) else v f k
def aThief (v : Rl) (a b c d e : Nat) : Rl := fun f k => if f = 14 then v 14 0 + 1 else if f = 25 then (if k = v 14 0 then a else v 25 k) else if f = 26 then (if k = v 14 0 then b else v 26 k) else if f = 27 then (if k = v 14 0 then c else v 27 k) else if f = 28 then (if k = v 14 0 then d else v 28 k) else if f = 29 then (if k = v 14 0 then e else v 29 k) else v f k
def aMark (v : Rl) (a b c : Nat) : Rl := fun f k => if f = 3 then 1 else if f = 4 then a else if f = 5 then b else if f = 6 then c else v f k
def aWatch (v : Rl) (a b : Nat) : Rl := fun f k => if f = 7 then 1 else if f = 8 then a else if f = 9 then b else v f k
def aLine (v : Rl) : Rl := fun f k => if f = 2 then v 2 0 + 1 else v f k
/-! what the lines read -/
def lRail (f : Nat → Int32) (n : Nat) (p : PS) : Nat × Nat × PS :=
  let q1 := rW f n [114, 97, 105, 108] p
  let q2 := rW f n [112, 108, 97, 99, 101, 115] q1
  let x3 := rN f n 1 21 q2
  let q4 := rW f n [110, 105, 103, 104, 116, 115] x3.2
  let x5 := rN f n 1 61 q4
  (x3.1, x5.1, x5.2)
def lLamp (f : Nat → Int32) (n : Nat) (v : Rl) (p : PS) : Nat × Nat × PS :=
  let q1 := rW f n [97, 116] p
  let x2 := rN f n 0 (v 0 0) q1
  let q3 := rW f n [98, 114, 105, 103, 104, 116] x2.2
  let x4 := rN f n 0 100 q3
  (x2.1, x4.1, x4.2)
def lLock (f : Nat → Int32) (n : Nat) (p : PS) : Nat × Nat × Nat × Nat × PS :=
  let q1 := rW f n [112, 114, 105, 99, 101] p
  let x2 := rN f n 0 1000 q1
  let q3 := rW f n [99, 117, 116, 115] x2.2
  let x4 := rN f n 1 1000 q3
  let x5 := rN f n 1 1000 x4.2
  let x6 := rN f n 1 1000 x5.2
  (x2.1, x4.1, x5.1, x6.1, x6.2)
def lMark (f : Nat → Int32) (n : Nat) (p : PS) : Nat × Nat × Nat × PS :=
  let q1 := rW f n [112, 114, 105, 99, 101] p
  let x2 := rN f n 0 1000 q1
  let q3 := rW f n [107, 110, 111, 119, 110] x2.2
  let x4 := rN f n 0 101 q3
  let x5 := rI f n [104, 105, 100, 100, 101, 110] x4.2
  (x2.1, x4.1, x5.1, x5.2)
def lWatch (f : Nat → Int32) (n : Nat) (p : PS) : Nat × Nat × PS :=
  let q1 := rW f n [119, 97, 103, 101] p
  let x2 := rN f n 0 1000 q1
  let q3 := rW f n [97, 100, 100, 115] x2.2
  let x4 := rN f n 0 100 q3
  (x2.1, x4.1, x4.2)
def lB1 (f : Nat → Int32) (n : Nat) (p : PS) : Nat × Nat × PS :=
  let q1 := rW f n [119, 111, 114, 116, 104] p
  let x2 := rN f n 0 10000 q1
  let q3 := rW f n [115, 101, 101, 109, 115] x2.2
  let x4 := rN f n 0 10000 q3
  let q5 := rW f n [97, 116] x4.2
  (x2.1, x4.1, q5)
def lT1 (f : Nat → Int32) (n : Nat) (p : PS) : Nat × Nat × Nat × PS :=
  let q1 := rW f n [116, 111, 111, 108] p
  let x2 := rN f n 0 3 q1
  let q3 := rW f n [99, 111, 109, 101, 115] x2.2
  let x4 := rN f n 0 101 q3
  let q5 := rW f n [102, 101, 97, 114, 115] x4.2
  let x6 := rN f n 0 100 q5
  (x2.1, x4.1, x6.1, x6.2)
def stN (v : Rl) (x : Nat) : Bool := decide (∃ b, b < v 13 0 ∧ v 22 b = x)
def lB2 (f : Nat → Int32) (n : Nat) (v : Rl) (q5 : PS) : PS := if q5.1 = 0 ∧ kd f n q5.2.2 = 2 ∧ stN v (vlT f n q5.2.2) = true then rF 2 q5 else q5
def lBk (f : Nat → Int32) (n : Nat) (v : Rl) (q : PS) : Nat × PS := if (rI f n [108, 111, 99, 107] q).1 = 0 then (0, (rI f n [108, 111, 99, 107] q).2) else ((rN f n 0 (v 12 0) (rI f n [108, 111, 99, 107] q).2).1 + 1, (rN f n 0 (v 12 0) (rI f n [108, 111, 99, 107] q).2).2)
def lTk (f : Nat → Int32) (n : Nat) (v : Rl) (q : PS) : Nat × Nat × PS := if (rI f n [98, 101, 115, 116] q).1 = 0 then (if (rI f n [97, 110, 121] (rI f n [98, 101, 115, 116] q).2).1 = 0 then (2, (rN f n 0 (v 13 0) (rW f n [106, 117, 115, 116] (rI f n [97, 110, 121] (rI f n [98, 101, 115, 116] q).2).2)).1 + 1, (rN f n 0 (v 13 0) (rW f n [106, 117, 115, 116] (rI f n [97, 110, 121] (rI f n [98, 101, 115, 116] q).2).2)).2) else (1, 0, (rI f n [97, 110, 121] (rI f n [98, 101, 115, 116] q).2).2)) else (0, 0, (rI f n [98, 101, 115, 116] q).2)
theorem rW_0 {f : Nat → Int32} {n : Nat} {w : List Int32} {p : PS} (h : (rW f n w p).1 = 0) : p.1 = 0 := by
  by_cases c : p.1 = 0
  · exact c
  · unfold rW at h
    rw [if_neg c] at h
    exact h
theorem rN_0 {f : Nat → Int32} {n lo hi : Nat} {p : PS} (h : (rN f n lo hi p).2.1 = 0) : p.1 = 0 := by
  by_cases c : p.1 = 0
  · exact c
  · unfold rN at h
    rw [if_neg c] at h
    exact h
theorem rI_0 {f : Nat → Int32} {n : Nat} {w : List Int32} {p : PS} (h : (rI f n w p).2.1 = 0) : p.1 = 0 := by
  by_cases c : p.1 = 0
  · exact c
  · unfold rI at h
    rw [if_neg (fun q => c q.1)] at h
    exact h
theorem rF_0 {c : Nat} {p : PS} (h : (rF c p).1 = 0) : p.1 = 0 := by
  by_cases d : p.1 = 0
  · exact d
  · unfold rF at h
    rw [if_neg d] at h
    exact h
theorem rI_01 {f : Nat → Int32} {n : Nat} {w : List Int32} {p : PS} : nI (rI f n w p).1 = 0 ∨ nI (rI f n w p).1 = 1 := by
  unfold rI
  split
  · exact Or.inr rfl
  · exact Or.inl rfl
section CL
variable {f : Nat → Int32} {n : Nat} {us : A1} {ua : A2} {p : PS} {rs : A1} {ra : A2} {v : Rl}
theorem RelC.aRail (h : RelC v rs ra) (a b : Nat) : RelC (aRail v a b) (va_up (va_up rs 0 (nI a)) 1 (nI b)) ra := by
  obtain ⟨r0, r1, r2, r3, r4, r5, r6, r7⟩ := h
  refine ⟨fun j hj => ?_, r1, r2, r3, r4, r5, r6, r7⟩
  unfold Jvm.Pilot.@@N@@.aRail
  by_cases c1 : j = 1
  · rw [c1, up_at, if_neg (by decide), if_pos rfl]
  · by_cases c0 : j = 0
    · rw [c0, up_ne (by decide), up_at, if_pos rfl]
    · rw [up_ne c1, up_ne c0, if_neg c0, if_neg c1]; exact r0 j hj
theorem RelC.aMark (h : RelC v rs ra) (a b c : Nat) : RelC (aMark v a b c) (va_up (va_up (va_up (va_up rs 3 1) 4 (nI a)) 5 (nI b)) 6 (nI c)) ra := by
  obtain ⟨r0, r1, r2, r3, r4, r5, r6, r7⟩ := h
  refine ⟨fun j hj => ?_, r1, r2, r3, r4, r5, r6, r7⟩
  unfold Jvm.Pilot.@@N@@.aMark
  by_cases c3 : j = 3
  · rw [c3, up_ne (by decide), up_ne (by decide), up_ne (by decide), up_at, if_pos rfl]; rfl
  · by_cases c4 : j = 4
    · rw [c4, up_ne (by decide), up_ne (by decide), up_at, if_neg (by decide), if_pos rfl]
    · by_cases c5 : j = 5
      · rw [c5, up_ne (by decide), up_at, if_neg (by decide), if_neg (by decide), if_pos rfl]
      · by_cases c6 : j = 6
        · rw [c6, up_at, if_neg (by decide), if_neg (by decide), if_neg (by decide), if_pos rfl]
        · rw [up_ne c6, up_ne c5, up_ne c4, up_ne c3, if_neg c3, if_neg c4, if_neg c5, if_neg c6]; exact r0 j hj
theorem RelC.aWatch (h : RelC v rs ra) (a b : Nat) : RelC (aWatch v a b) (va_up (va_up (va_up rs 7 1) 8 (nI a)) 9 (nI b)) ra := by
  obtain ⟨r0, r1, r2, r3, r4, r5, r6, r7⟩ := h
  refine ⟨fun j hj => ?_, r1, r2, r3, r4, r5, r6, r7⟩
  unfold Jvm.Pilot.@@N@@.aWatch
  by_cases c7 : j = 7
  · rw [c7, up_ne (by decide), up_ne (by decide), up_at, if_pos rfl]; rfl
  · by_cases c8 : j = 8
    · rw [c8, up_ne (by decide), up_at, if_neg (by decide), if_pos rfl]
    · by_cases c9 : j = 9
      · rw [c9, up_at, if_neg (by decide), if_neg (by decide), if_pos rfl]
      · rw [up_ne c9, up_ne c8, up_ne c7, if_neg c7, if_neg c8, if_neg c9]; exact r0 j hj
theorem RelC.aLine (h : RelC v rs ra) : RelC (aLine v) (va_up rs 2 (nI (v 2 0 + 1))) ra := by
  obtain ⟨r0, r1, r2, r3, r4, r5, r6, r7⟩ := h
  refine ⟨fun j hj => ?_, r1, r2, r3, r4, r5, r6, r7⟩
  unfold Jvm.Pilot.@@N@@.aLine
  by_cases c : j = 2
  · rw [c, up_at, if_pos rfl]
  · rw [up_ne c, if_neg c]; exact r0 j hj
theorem RelC.aLamp (h : RelC v rs ra) (a b : Nat) : RelC (aLamp v a b) (va_up rs 11 (nI (v 11 0 + 1))) (va_up (va_up ra 0 (upd (ra 0) (v 11 0) (nI a))) 1 (upd (ra 1) (v 11 0) (nI b))) := by
  obtain ⟨r0, r1, r2, r3, r4, r5, r6, r7⟩ := h
  refine ⟨fun j hj => ?_, fun k hk => ?_, r2, r3, r4, r5, r6, r7⟩
  · unfold Jvm.Pilot.@@N@@.aLamp
    by_cases c : j = 11
    · rw [c, up_at, if_pos rfl]
    · rw [up_ne c, if_neg c, if_neg (by omega), if_neg (by omega)]; exact r0 j hj
  · have hk' : k < v 11 0 + 1 := hk
    show upd (ra 0) (v 11 0) (nI a) k = nI (if k = v 11 0 then a else v 16 k) ∧ upd (ra 1) (v 11 0) (nI b) k = nI (if k = v 11 0 then b else v 17 k)
    by_cases c : k = v 11 0
    · rw [c, u_at, u_at, if_pos rfl, if_pos rfl]; exact ⟨rfl, rfl⟩
    · rw [u_ne c, u_ne c, if_neg c, if_neg c]; exact r1 k (by omega)
theorem RelC.aLock (h : RelC v rs ra) (a b c d : Nat) : RelC (aLock v a b c d) (va_up rs 12 (nI (v 12 0 + 1))) (va_up (va_up ra 2 (upd (ra 2) (v 12 0) (nI a))) 3 (upd (upd (upd (ra 3) (3 * v 12 0) (nI b)) (3 * v 12 0 + 1) (nI c)) (3 * v 12 0 + 2) (nI d))) := by
  obtain ⟨r0, r1, r2, r3, r4, r5, r6, r7⟩ := h
  refine ⟨fun j hj => ?_, r1, fun k hk => ?_, fun k hk => ?_, r4, r5, r6, r7⟩
  · unfold Jvm.Pilot.@@N@@.aLock
    by_cases c : j = 12
    · rw [c, up_at, if_pos rfl]
    · rw [up_ne c, if_neg c, if_neg (by omega), if_neg (by omega)]; exact r0 j hj
  · have hk' : k < v 12 0 + 1 := hk
    show upd (ra 2) (v 12 0) (nI a) k = nI (if k = v 12 0 then a else v 18 k)
    by_cases c : k = v 12 0
    · rw [c, u_at, if_pos rfl]
    · rw [u_ne c, if_neg c]; exact r2 k (by omega)
  · have hk' : k < 3 * (v 12 0 + 1) := hk
    show upd (upd (upd (ra 3) (3 * v 12 0) (nI b)) (3 * v 12 0 + 1) (nI c)) (3 * v 12 0 + 2) (nI d) k = nI (if k = 3 * v 12 0 then b else if k = 3 * v 12 0 + 1 then c else if k = 3 * v 12 0 + 2 then d else v 19 k)
    by_cases c2 : k = 3 * v 12 0 + 2
    · rw [c2, u_at, if_neg (by omega), if_neg (by omega), if_pos rfl]
    · rw [u_ne c2]
      by_cases c1 : k = 3 * v 12 0 + 1
      · rw [c1, u_at, if_neg (by omega), if_pos rfl]
      · rw [u_ne c1]
        by_cases c0 : k = 3 * v 12 0
        · rw [c0, u_at, if_pos rfl]
        · rw [u_ne c0, if_neg c0, if_neg c1, if_neg c2]; exact r3 k (by omega)
theorem RelC.aBike (h : RelC v rs ra) (h13 : v 13 0 < 10) (a b c d e : Nat) (he : e ≤ 1) : RelC (aBike v a b c d e) (va_up rs 13 (nI (v 13 0 + 1))) (va_up (va_up (va_up (va_up (va_up ra 4 (upd (ra 4) (v 13 0) (nI a))) 5 (upd (ra 5) (v 13 0) (nI b))) 6 (upd (ra 6) (v 13 0) (nI c))) 7 (upd (ra 7) (v 13 0) (nI d - 1))) 8 (upd (ra 8) (v 13 0) (nI e))) := by
  obtain ⟨r0, r1, r2, r3, r4, r5, r6, r7⟩ := h
  refine ⟨fun j hj => ?_, r1, r2, r3, fun k hk => ?_, r5, r6, fun k hk => ?_⟩
  · unfold Jvm.Pilot.@@N@@.aBike
    by_cases c : j = 13
    · rw [c, up_at, if_pos rfl]
    · rw [up_ne c, if_neg c, if_neg (by omega), if_neg (by omega), if_neg (by omega), if_neg (by omega), if_neg (by omega)]; exact r0 j hj
  · have hk' : k < v 13 0 + 1 := hk
    show upd (ra 4) (v 13 0) (nI a) k = nI (if k = v 13 0 then a else v 20 k) ∧ upd (ra 5) (v 13 0) (nI b) k = nI (if k = v 13 0 then b else v 21 k) ∧ upd (ra 6) (v 13 0) (nI c) k = nI (if k = v 13 0 then c else v 22 k) ∧ upd (ra 7) (v 13 0) (nI d - 1) k = nI (if k = v 13 0 then d else v 23 k) - 1 ∧ upd (ra 8) (v 13 0) (nI e) k = nI (if k = v 13 0 then e else v 24 k)
    by_cases c : k = v 13 0
    · rw [c, u_at, u_at, u_at, u_at, u_at, if_pos rfl, if_pos rfl, if_pos rfl, if_pos rfl, if_pos rfl]
      exact ⟨rfl, rfl, rfl, rfl, rfl⟩
    · rw [u_ne c, u_ne c, u_ne c, u_ne c, u_ne c, if_neg c, if_neg c, if_neg c, if_neg c, if_neg c]; exact r4 k (by omega)
  · show upd (ra 8) (v 13 0) (nI e) k = 0 ∨ upd (ra 8) (v 13 0) (nI e) k = 1
    by_cases c : k = v 13 0
    · rw [c, u_at]
      rcases Nat.lt_or_ge e 1 with z | z
      · rw [show e = 0 by omega]; exact Or.inl rfl
      · rw [show e = 1 by omega]; exact Or.inr rfl
    · rw [u_ne c]; exact r7 k hk
theorem RelC.aThief (h : RelC v rs ra) (a b c d e : Nat) : RelC (aThief v a b c d e) (va_up rs 14 (nI (v 14 0 + 1))) (va_up (va_up (va_up (va_up (va_up ra 9 (upd (ra 9) (v 14 0) (nI a))) 10 (upd (ra 10) (v 14 0) (nI b))) 11 (upd (ra 11) (v 14 0) (nI c))) 12 (upd (ra 12) (v 14 0) (nI d))) 13 (upd (ra 13) (v 14 0) (nI e - 1))) := by
  obtain ⟨r0, r1, r2, r3, r4, r5, r6, r7⟩ := h
  refine ⟨fun j hj => ?_, r1, r2, r3, r4, fun k hk => ?_, r6, r7⟩
  · unfold Jvm.Pilot.@@N@@.aThief
    by_cases c : j = 14
    · rw [c, up_at, if_pos rfl]
    · rw [up_ne c, if_neg c, if_neg (by omega), if_neg (by omega), if_neg (by omega), if_neg (by omega), if_neg (by omega)]; exact r0 j hj
  · have hk' : k < v 14 0 + 1 := hk
    show upd (ra 9) (v 14 0) (nI a) k = nI (if k = v 14 0 then a else v 25 k) ∧ upd (ra 10) (v 14 0) (nI b) k = nI (if k = v 14 0 then b else v 26 k) ∧ upd (ra 11) (v 14 0) (nI c) k = nI (if k = v 14 0 then c else v 27 k) ∧ upd (ra 12) (v 14 0) (nI d) k = nI (if k = v 14 0 then d else v 28 k) ∧ upd (ra 13) (v 14 0) (nI e - 1) k = nI (if k = v 14 0 then e else v 29 k) - 1
    by_cases c : k = v 14 0
    · rw [c, u_at, u_at, u_at, u_at, u_at, if_pos rfl, if_pos rfl, if_pos rfl, if_pos rfl, if_pos rfl]
      exact ⟨rfl, rfl, rfl, rfl, rfl⟩
    · rw [u_ne c, u_ne c, u_ne c, u_ne c, u_ne c, if_neg c, if_neg c, if_neg c, if_neg c, if_neg c]; exact r5 k (by omega)
theorem c_readRail (hn : n ≤ 1600) (ha : ∀ i, i < n → ua 0 i = f i) (hv : okV v) (h : CS f n p us) (hC : RelC v rs ra) {post : A1 → A1 → Prop} (hp : ∀ us' rs', CS f n (lRail f n p).2.2 us' → RelC (aRail v (lRail f n p).1 (lRail f n p).2.1) rs' ra → post us' rs') : P_X5_readRail us ua rs post :=
  c_readWord hn ha h (by decide) (fun _ h1 => c_readWord hn ha h1 (by decide) (fun _ h2 => c_readNumber (lo := 1) (hi := 21) hn ha h2 (by decide) (by decide) (fun _ h3 => c_readWord hn ha h3 (by decide) (fun _ h4 => c_readNumber (lo := 1) (hi := 61) hn ha h4 (by decide) (by decide) (fun us' h5 => hp us' _ h5 (hC.aRail _ _))))))
theorem c_readMark (hn : n ≤ 1600) (ha : ∀ i, i < n → ua 0 i = f i) (hv : okV v) (h : CS f n p us) (hC : RelC v rs ra) {post : A1 → A1 → Prop} (hp : ∀ us' rs', CS f n (lMark f n p).2.2.2 us' → RelC (aMark v (lMark f n p).1 (lMark f n p).2.1 (lMark f n p).2.2.1) rs' ra → post us' rs') : P_X5_readMark us ua rs post :=
  c_readWord hn ha h (by decide) (fun _ h1 => c_readNumber (lo := 0) (hi := 1000) hn ha h1 (by decide) (by decide) (fun _ h2 => c_readWord hn ha h2 (by decide) (fun _ h3 => c_readNumber (lo := 0) (hi := 101) hn ha h3 (by decide) (by decide) (fun _ h4 => c_readIf hn ha h4 (by decide) (fun us' h5 => ⟨rI_01, hp us' _ h5 (hC.aMark _ _ _)⟩)))))
theorem c_readWatch (hn : n ≤ 1600) (ha : ∀ i, i < n → ua 0 i = f i) (hv : okV v) (h : CS f n p us) (hC : RelC v rs ra) {post : A1 → A1 → Prop} (hp : ∀ us' rs', CS f n (lWatch f n p).2.2 us' → RelC (aWatch v (lWatch f n p).1 (lWatch f n p).2.1) rs' ra → post us' rs') : P_X5_readWatch us ua rs post :=
  c_readWord hn ha h (by decide) (fun _ h1 => c_readNumber (lo := 0) (hi := 1000) hn ha h1 (by decide) (by decide) (fun _ h2 => c_readWord hn ha h2 (by decide) (fun _ h3 => c_readNumber (lo := 0) (hi := 100) hn ha h3 (by decide) (by decide) (fun us' h4 => hp us' _ h4 (hC.aWatch _ _)))))
theorem c_readLamp (hn : n ≤ 1600) (ha : ∀ i, i < n → ua 0 i = f i) (hv : okV v) (h : CS f n p us) (hC : RelC v rs ra) (h11 : p.1 = 0 → v 11 0 < 4) {post : A1 → A1 → A2 → Prop} (hp : ∀ us' rs' ra', CS f n (lLamp f n v p).2.2 us' → BOK ra' → ((lLamp f n v p).2.2.1 = 0 → RelC (aLamp v (lLamp f n v p).1 (lLamp f n v p).2.1) rs' ra') → post us' rs' ra') : P_X5_readLamp us ua rs ra post := by
  have h0 := ok0 hv
  refine c_readWord hn ha h (by decide) (fun _ h1 => ?_)
  rw [rc_s hC 0]
  refine c_readNumber (lo := 0) (hi := v 0 0) hn ha h1 (by decide) (by omega) (fun _ h2 => c_readWord hn ha h2 (by decide) (fun _ h3 => c_readNumber (lo := 0) (hi := 100) hn ha h3 (by decide) (by decide) (fun us' h4 => ?_)))
  by_cases z : (lLamp f n v p).2.2.1 = 0
  · have h11 := h11 (rW_0 (rN_0 (rW_0 (rN_0 z))))
    refine ⟨fun q => absurd (h4.f0 z) q, fun _ => ?_⟩
    rw [rc_s hC 11]
    refine ⟨fun q => absurd ((nI_ltI (a := 4) (by decide) (by omega)).mp q) (by omega), fun _ => ⟨vp_in_nI (by omega) (by decide), vp_in_nI (by omega) (by decide), fun x hx => ?_⟩⟩
    rw [nI_1] at hx
    rw [nI_clamp (by omega), hx]
    have R := hC.aLamp (lLamp f n v p).1 (lLamp f n v p).2.1
    exact hp us' _ _ h4 R.bok (fun _ => R)
  · exact ⟨fun _ => hp us' rs ra h4 hC.bok (fun q => absurd q z), fun q => absurd q (h4.f1 z)⟩
theorem c_readLock (hn : n ≤ 1600) (ha : ∀ i, i < n → ua 0 i = f i) (hv : okV v) (h : CS f n p us) (hC : RelC v rs ra) (h12 : p.1 = 0 → v 12 0 < 5) {post : A1 → A1 → A2 → Prop} (hp : ∀ us' rs' ra', CS f n (lLock f n p).2.2.2.2 us' → BOK ra' → ((lLock f n p).2.2.2.2.1 = 0 → RelC (aLock v (lLock f n p).1 (lLock f n p).2.1 (lLock f n p).2.2.1 (lLock f n p).2.2.2.1) rs' ra') → post us' rs' ra') : P_X5_readLock us ua rs ra post := by
  refine c_readWord hn ha h (by decide) (fun _ h1 => c_readNumber (lo := 0) (hi := 1000) hn ha h1 (by decide) (by decide) (fun _ h2 => c_readWord hn ha h2 (by decide) (fun _ h3 => c_readNumber (lo := 1) (hi := 1000) hn ha h3 (by decide) (by decide) (fun _ h4 => c_readNumber (lo := 1) (hi := 1000) hn ha h4 (by decide) (by decide) (fun _ h5 => c_readNumber (lo := 1) (hi := 1000) hn ha h5 (by decide) (by decide) (fun us' h6 => ?_))))))
  by_cases z : (lLock f n p).2.2.2.2.1 = 0
  · have h12 := h12 (rW_0 (rN_0 (rW_0 (rN_0 (rN_0 (rN_0 z))))))
    refine ⟨fun q => absurd (h6.f0 z) q, fun _ => ?_⟩
    rw [rc_s hC 12]
    refine ⟨fun q => absurd ((nI_leI (a := 5) (by decide) (by omega)).mp q) (by omega), fun _ => ?_⟩
    rw [show (3 : Int32) * nI (v 12 0) = nI (3 * v 12 0) by simp only [fa_lit, pk_mul], show nI (3 * v 12 0) + 2 = nI (3 * v 12 0 + 2) from nI_add _ 2, nI_1, nI_clamp (by omega), nI_clamp (by omega), nI_clamp (by omega), nI_clamp (by omega)]
    refine ⟨vp_in_nI (by omega) (by decide), vp_in_nI (by omega) (by decide), vp_in_nI (by omega) (by decide), vp_in_nI (by omega) (by decide), fun x hx => ?_⟩
    rw [nI_1] at hx
    rw [hx]
    have R := hC.aLock (lLock f n p).1 (lLock f n p).2.1 (lLock f n p).2.2.1 (lLock f n p).2.2.2.1
    exact hp us' _ _ h6 R.bok (fun _ => R)
  · exact ⟨fun _ => hp us' rs ra h6 hC.bok (fun q => absurd q z), fun q => absurd q (h6.f1 z)⟩
end CL
