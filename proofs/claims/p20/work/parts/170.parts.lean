section
/-! lines: what they put onto the rail -/
def aRail (v : Rl) (a b : Nat) : Rl := fun f k => if f = 0 then a else if f = 1 then b else v f k
def aLamp (v : Rl) (a b : Nat) : Rl := fun f k => if f = 11 then v 11 0 + 1 else if f = 16 then (if k = v 11 0 then a else v 16 k) else if f = 17 then (if k = v 11 0 then b else v 17 k) else v f k
def aLock (v : Rl) (a b c d : Nat) : Rl := fun f k => if f = 12 then v 12 0 + 1 else if f = 18 then (if k = v 12 0 then a else v 18 k) else if f = 19 then (if k = 3 * v 12 0 then b else if k = 3 * v 12 0 + 1 then c else if k = 3 * v 12 0 + 2 then d else v 19 k) else v f k
def aBike (v : Rl) (a b c d e : Nat) : Rl := fun f k => if f = 13 then v 13 0 + 1 else if f = 20 then (if k = v 13 0 then a else v 20 k) else if f = 21 then (if k = v 13 0 then b else v 21 k) else if f = 22 then (if k = v 13 0 then c else v 22 k) else if f = 23 then (if k = v 13 0 then d else v 23 k) else if f = 24 then (if k = v 13 0 then e else v 24 k) else v f k
def aThief (v : Rl) (a b c d e : Nat) : Rl := fun f k => if f = 14 then v 14 0 + 1 else if f = 25 then (if k = v 14 0 then a else v 25 k) else if f = 26 then (if k = v 14 0 then b else v 26 k) else if f = 27 then (if k = v 14 0 then c else v 27 k) else if f = 28 then (if k = v 14 0 then d else v 28 k) else if f = 29 then (if k = v 14 0 then e else v 29 k) else v f k
def aMark (v : Rl) (a b c : Nat) : Rl := fun f k => if f = 3 then 1 else if f = 4 then a else if f = 5 then b else if f = 6 then c else v f k
def aWatch (v : Rl) (a b : Nat) : Rl := fun f k => if f = 7 then 1 else if f = 8 then a else if f = 9 then b else v f k
def aLine (v : Rl) : Rl := fun f k => if f = 2 then v 2 0 + 1 else v f k
/-! what the lines read -/
def lRail (f : Nat → Int32) (n : Nat) (p : PS) : Nat × Nat × PS :=
  let q1 := rW f n [114, 97, 105, 108] p
  let q2 := rW f n [112, 108, 97, 99, 101, 115] q1
  let x3 := rN f n 1 21 q2
  let q4 := rW f n [110, 105, 103, 104, 116, 115] x3.2
  let x5 := rN f n 1 61 q4
  (x3.1, x5.1, x5.2)
def lLamp (f : Nat → Int32) (n : Nat) (v : Rl) (p : PS) : Nat × Nat × PS :=
  let q1 := rW f n [97, 116] p
  let x2 := rN f n 0 (v 0 0) q1
  let q3 := rW f n [98, 114, 105, 103, 104, 116] x2.2
  let x4 := rN f n 0 100 q3
  (x2.1, x4.1, x4.2)
def lLock (f : Nat → Int32) (n : Nat) (p : PS) : Nat × Nat × Nat × Nat × PS :=
  let q1 := rW f n [112, 114, 105, 99, 101] p
  let x2 := rN f n 0 1000 q1
  let q3 := rW f n [99, 117, 116, 115] x2.2
  let x4 := rN f n 1 1000 q3
  let x5 := rN f n 1 1000 x4.2
  let x6 := rN f n 1 1000 x5.2
  (x2.1, x4.1, x5.1, x6.1, x6.2)
def lMark (f : Nat → Int32) (n : Nat) (p : PS) : Nat × Nat × Nat × PS :=
  let q1 := rW f n [112, 114, 105, 99, 101] p
  let x2 := rN f n 0 1000 q1
  let q3 := rW f n [107, 110, 111, 119, 110] x2.2
  let x4 := rN f n 0 101 q3
  let x5 := rI f n [104, 105, 100, 100, 101, 110] x4.2
  (x2.1, x4.1, x5.1, x5.2)
def lWatch (f : Nat → Int32) (n : Nat) (p : PS) : Nat × Nat × PS :=
  let q1 := rW f n [119, 97, 103, 101] p
  let x2 := rN f n 0 1000 q1
  let q3 := rW f n [97, 100, 100, 115] x2.2
  let x4 := rN f n 0 100 q3
  (x2.1, x4.1, x4.2)
def lB1 (f : Nat → Int32) (n : Nat) (p : PS) : Nat × Nat × PS :=
  let q1 := rW f n [119, 111, 114, 116, 104] p
  let x2 := rN f n 0 10000 q1
  let q3 := rW f n [115, 101, 101, 109, 115] x2.2
  let x4 := rN f n 0 10000 q3
  let q5 := rW f n [97, 116] x4.2
  (x2.1, x4.1, q5)
def lT1 (f : Nat → Int32) (n : Nat) (p : PS) : Nat × Nat × Nat × PS :=
  let q1 := rW f n [116, 111, 111, 108] p
  let x2 := rN f n 0 3 q1
  let q3 := rW f n [99, 111, 109, 101, 115] x2.2
  let x4 := rN f n 0 101 q3
  let q5 := rW f n [102, 101, 97, 114, 115] x4.2
  let x6 := rN f n 0 100 q5
  (x2.1, x4.1, x6.1, x6.2)
def stN (v : Rl) (x : Nat) : Bool := decide (∃ b, b < v 13 0 ∧ v 22 b = x)
def lB2 (f : Nat → Int32) (n : Nat) (v : Rl) (q5 : PS) : PS := if q5.1 = 0 ∧ kd f n q5.2.2 = 2 ∧ stN v (vlT f n q5.2.2) = true then rF 2 q5 else q5
def lBk (f : Nat → Int32) (n : Nat) (v : Rl) (q : PS) : Nat × PS := if (rI f n [108, 111, 99, 107] q).1 = 0 then (0, (rI f n [108, 111, 99, 107] q).2) else ((rN f n 0 (v 12 0) (rI f n [108, 111, 99, 107] q).2).1 + 1, (rN f n 0 (v 12 0) (rI f n [108, 111, 99, 107] q).2).2)
def lTk (f : Nat → Int32) (n : Nat) (v : Rl) (q : PS) : Nat × Nat × PS := if (rI f n [98, 101, 115, 116] q).1 = 0 then (if (rI f n [97, 110, 121] (rI f n [98, 101, 115, 116] q).2).1 = 0 then (2, (rN f n 0 (v 13 0) (rW f n [106, 117, 115, 116] (rI f n [97, 110, 121] (rI f n [98, 101, 115, 116] q).2).2)).1 + 1, (rN f n 0 (v 13 0) (rW f n [106, 117, 115, 116] (rI f n [97, 110, 121] (rI f n [98, 101, 115, 116] q).2).2)).2) else (1, 0, (rI f n [97, 110, 121] (rI f n [98, 101, 115, 116] q).2).2)) else (0, 0, (rI f n [98, 101, 115, 116] q).2)
theorem rW_0 {f : Nat → Int32} {n : Nat} {w : List Int32} {p : PS} (h : (rW f n w p).1 = 0) : p.1 = 0 := by
  by_cases c : p.1 = 0
  · exact c
  · unfold rW at h
    rw [if_neg c] at h
    exact h
theorem rN_0 {f : Nat → Int32} {n lo hi : Nat} {p : PS} (h : (rN f n lo hi p).2.1 = 0) : p.1 = 0 := by
  by_cases c : p.1 = 0
  · exact c
  · unfold rN at h
    rw [if_neg c] at h
    exact h
theorem rI_0 {f : Nat → Int32} {n : Nat} {w : List Int32} {p : PS} (h : (rI f n w p).2.1 = 0) : p.1 = 0 := by
  by_cases c : p.1 = 0
  · exact c
  · unfold rI at h
    rw [if_neg (fun q => c q.1)] at h
    exact h
theorem rF_0 {c : Nat} {p : PS} (h : (rF c p).1 = 0) : p.1 = 0 := by
  by_cases d : p.1 = 0
  · exact d
  · unfold rF at h
    rw [if_neg d] at h
    exact h
theorem rI_01 {f : Nat → Int32} {n : Nat} {w : List Int32} {p : PS} : nI (rI f n w p).1 = 0 ∨ nI (rI f n w p).1 = 1 := by
  unfold rI
  split
  · exact Or.inr rfl
  · exact Or.inl rfl
section CL
variable {f : Nat → Int32} {n : Nat} {us : A1} {ua : A2} {p : PS} {rs : A1} {ra : A2} {v : Rl}
theorem RelC.aRail (h : RelC v rs ra) (a b : Nat) : RelC (aRail v a b) (va_up (va_up rs 0 (nI a)) 1 (nI b)) ra := by
  obtain ⟨r0, r1, r2, r3, r4, r5, r6, r7⟩ := h
  refine ⟨fun j hj => ?_, r1, r2, r3, r4, r5, r6, r7⟩
  unfold Jvm.Pilot.@@N@@.aRail
  by_cases c1 : j = 1
  · rw [c1, up_at, if_neg (by decide), if_pos rfl]
  · by_cases c0 : j = 0
    · rw [c0, up_ne (by decide), up_at, if_pos rfl]
    · rw [up_ne c1, up_ne c0, if_neg c0, if_neg c1]; exact r0 j hj
theorem RelC.aMark (h : RelC v rs ra) (a b c : Nat) : RelC (aMark v a b c) (va_up (va_up (va_up (va_up rs 3 1) 4 (nI a)) 5 (nI b)) 6 (nI c)) ra := by
  obtain ⟨r0, r1, r2, r3, r4, r5, r6, r7⟩ := h
  refine ⟨fun j hj => ?_, r1, r2, r3, r4, r5, r6, r7⟩
  unfold Jvm.Pilot.@@N@@.aMark
  by_cases c3 : j = 3
  · rw [c3, up_ne (by decide), up_ne (by decide), up_ne (by decide), up_at, if_pos rfl]; rfl
  · by_cases c4 : j = 4
    · rw [c4, up_ne (by decide), up_ne (by decide), up_at, if_neg (by decide), if_pos rfl]
    · by_cases c5 : j = 5
      · rw [c5, up_ne (by decide), up_at, if_neg (by decide), if_neg (by decide), if_pos rfl]
      · by_cases c6 : j = 6
        · rw [c6, up_at, if_neg (by decide), if_neg (by decide), if_neg (by decide), if_pos rfl]
        · rw [up_ne c6, up_ne c5, up_ne c4, up_ne c3, if_neg c3, if_neg c4, if_neg c5, if_neg c6]; exact r0 j hj
theorem RelC.aWatch (h : RelC v rs ra) (a b : Nat) : RelC (aWatch v a b) (va_up (va_up (va_up rs 7 1) 8 (nI a)) 9 (nI b)) ra := by
  obtain ⟨r0, r1, r2, r3, r4, r5, r6, r7⟩ := h
  refine ⟨fun j hj => ?_, r1, r2, r3, r4, r5, r6, r7⟩
  unfold Jvm.Pilot.@@N@@.aWatch
  by_cases c7 : j = 7
  · rw [c7, up_ne (by decide), up_ne (by decide), up_at, if_pos rfl]; rfl
  · by_cases c8 : j = 8
    · rw [c8, up_ne (by decide), up_at, if_neg (by decide), if_pos rfl]
    · by_cases c9 : j = 9
      · rw [c9, up_at, if_neg (by decide), if_neg (by decide), if_pos rfl]
      · rw [up_ne c9, up_ne c8, up_ne c7, if_neg c7, if_neg c8, if_neg c9]; exact r0 j hj
theorem RelC.aLine (h : RelC v rs ra) : RelC (aLine v) (va_up rs 2 (nI (v 2 0 + 1))) ra := by
  obtain ⟨r0, r1, r2, r3, r4, r5, r6, r7⟩ := h
  refine ⟨fun j hj => ?_, r1, r2, r3, r4, r5, r6, r7⟩
  unfold Jvm.Pilot.@@N@@.aLine
  by_cases c : j = 2
  · rw [c, up_at, if_pos rfl]
  · rw [up_ne c, if_neg c]; exact r0 j hj
theorem RelC.aLamp (h : RelC v rs ra) (a b : Nat) : RelC (aLamp v a b) (va_up rs 11 (nI (v 11 0 + 1))) (va_up (va_up ra 0 (upd (ra 0) (v 11 0) (nI a))) 1 (upd (ra 1) (v 11 0) (nI b))) := by
  obtain ⟨r0, r1, r2, r3, r4, r5, r6, r7⟩ := h
  refine ⟨fun j hj => ?_, fun k hk => ?_, r2, r3, r4, r5, r6, r7⟩
  · unfold Jvm.Pilot.@@N@@.aLamp
    by_cases c : j = 11
    · rw [c, up_at, if_pos rfl]
    · rw [up_ne c, if_neg c, if_neg (by omega), if_neg (by omega)]; exact r0 j hj
  · have hk' : k < v 11 0 + 1 := hk
    show upd (ra 0) (v 11 0) (nI a) k = nI (if k = v 11 0 then a else v 16 k) ∧ upd (ra 1) (v 11 0) (nI b) k = nI (if k = v 11 0 then b else v 17 k)
    by_cases c : k = v 11 0
    · rw [c, u_at, u_at, if_pos rfl, if_pos rfl]; exact ⟨rfl, rfl⟩
    · rw [u_ne c, u_ne c, if_neg c, if_neg c]; exact r1 k (by omega)
theorem RelC.aLock (h : RelC v rs ra) (a b c d : Nat) : RelC (aLock v a b c d) (va_up rs 12 (nI (v 12 0 + 1))) (va_up (va_up ra 2 (upd (ra 2) (v 12 0) (nI a))) 3 (upd (upd (upd (ra 3) (3 * v 12 0) (nI b)) (3 * v 12 0 + 1) (nI c)) (3 * v 12 0 + 2) (nI d))) := by
  obtain ⟨r0, r1, r2, r3, r4, r5, r6, r7⟩ := h
  refine ⟨fun j hj => ?_, r1, fun k hk => ?_, fun k hk => ?_, r4, r5, r6, r7⟩
  · unfold Jvm.Pilot.@@N@@.aLock
    by_cases c : j = 12
    · rw [c, up_at, if_pos rfl]
    · rw [up_ne c, if_neg c, if_neg (by omega), if_neg (by omega)]; exact r0 j hj
  · have hk' : k < v 12 0 + 1 := hk
    show upd (ra 2) (v 12 0) (nI a) k = nI (if k = v 12 0 then a else v 18 k)
    by_cases c : k = v 12 0
    · rw [c, u_at, if_pos rfl]
    · rw [u_ne c, if_neg c]; exact r2 k (by omega)
  · have hk' : k < 3 * (v 12 0 + 1) := hk
    show upd (upd (upd (ra 3) (3 * v 12 0) (nI b)) (3 * v 12 0 + 1) (nI c)) (3 * v 12 0 + 2) (nI d) k = nI (if k = 3 * v 12 0 then b else if k = 3 * v 12 0 + 1 then c else if k = 3 * v 12 0 + 2 then d else v 19 k)
    by_cases c2 : k = 3 * v 12 0 + 2
    · rw [c2, u_at, if_neg (by omega), if_neg (by omega), if_pos rfl]
    · rw [u_ne c2]
      by_cases c1 : k = 3 * v 12 0 + 1
      · rw [c1, u_at, if_neg (by omega), if_pos rfl]
      · rw [u_ne c1]
        by_cases c0 : k = 3 * v 12 0
        · rw [c0, u_at, if_pos rfl]
        · rw [u_ne c0, if_neg c0, if_neg c1, if_neg c2]; exact r3 k (by omega)
theorem RelC.aBike (h : RelC v rs ra) (h13 : v 13 0 < 10) (a b c d e : Nat) (he : e ≤ 1) : RelC (aBike v a b c d e) (va_up rs 13 (nI (v 13 0 + 1))) (va_up (va_up (va_up (va_up (va_up ra 4 (upd (ra 4) (v 13 0) (nI a))) 5 (upd (ra 5) (v 13 0) (nI b))) 6 (upd (ra 6) (v 13 0) (nI c))) 7 (upd (ra 7) (v 13 0) (nI d - 1))) 8 (upd (ra 8) (v 13 0) (nI e))) := by
  obtain ⟨r0, r1, r2, r3, r4, r5, r6, r7⟩ := h
  refine ⟨fun j hj => ?_, r1, r2, r3, fun k hk => ?_, r5, r6, fun k hk => ?_⟩
  · unfold Jvm.Pilot.@@N@@.aBike
    by_cases c : j = 13
    · rw [c, up_at, if_pos rfl]
    · rw [up_ne c, if_neg c, if_neg (by omega), if_neg (by omega), if_neg (by omega), if_neg (by omega), if_neg (by omega)]; exact r0 j hj
  · have hk' : k < v 13 0 + 1 := hk
    show upd (ra 4) (v 13 0) (nI a) k = nI (if k = v 13 0 then a else v 20 k) ∧ upd (ra 5) (v 13 0) (nI b) k = nI (if k = v 13 0 then b else v 21 k) ∧ upd (ra 6) (v 13 0) (nI c) k = nI (if k = v 13 0 then c else v 22 k) ∧ upd (ra 7) (v 13 0) (nI d - 1) k = nI (if k = v 13 0 then d else v 23 k) - 1 ∧ upd (ra 8) (v 13 0) (nI e) k = nI (if k = v 13 0 then e else v 24 k)
    by_cases c : k = v 13 0
    · rw [c, u_at, u_at, u_at, u_at, u_at, if_pos rfl, if_pos rfl, if_pos rfl, if_pos rfl, if_pos rfl]
      exact ⟨rfl, rfl, rfl, rfl, rfl⟩
    · rw [u_ne c, u_ne c, u_ne c, u_ne c, u_ne c, if_neg c, if_neg c, if_neg c, if_neg c, if_neg c]; exact r4 k (by omega)
  · show upd (ra 8) (v 13 0) (nI e) k = 0 ∨ upd (ra 8) (v 13 0) (nI e) k = 1
    by_cases c : k = v 13 0
    · rw [c, u_at]
      rcases Nat.lt_or_ge e 1 with z | z
      · rw [show e = 0 by omega]; exact Or.inl rfl
      · rw [show e = 1 by omega]; exact Or.inr rfl
    · rw [u_ne c]; exact r7 k hk
theorem RelC.aThief (h : RelC v rs ra) (a b c d e : Nat) : RelC (aThief v a b c d e) (va_up rs 14 (nI (v 14 0 + 1))) (va_up (va_up (va_up (va_up (va_up ra 9 (upd (ra 9) (v 14 0) (nI a))) 10 (upd (ra 10) (v 14 0) (nI b))) 11 (upd (ra 11) (v 14 0) (nI c))) 12 (upd (ra 12) (v 14 0) (nI d))) 13 (upd (ra 13) (v 14 0) (nI e - 1))) := by
  obtain ⟨r0, r1, r2, r3, r4, r5, r6, r7⟩ := h
  refine ⟨fun j hj => ?_, r1, r2, r3, r4, fun k hk => ?_, r6, r7⟩
  · unfold Jvm.Pilot.@@N@@.aThief
    by_cases c : j = 14
    · rw [c, up_at, if_pos rfl]
    · rw [up_ne c, if_neg c, if_neg (by omega), if_neg (by omega), if_neg (by omega), if_neg (by omega), if_neg (by omega)]; exact r0 j hj
  · have hk' : k < v 14 0 + 1 := hk
    show upd (ra 9) (v 14 0) (nI a) k = nI (if k = v 14 0 then a else v 25 k) ∧ upd (ra 10) (v 14 0) (nI b) k = nI (if k = v 14 0 then b else v 26 k) ∧ upd (ra 11) (v 14 0) (nI c) k = nI (if k = v 14 0 then c else v 27 k) ∧ upd (ra 12) (v 14 0) (nI d) k = nI (if k = v 14 0 then d else v 28 k) ∧ upd (ra 13) (v 14 0) (nI e - 1) k = nI (if k = v 14 0 then e else v 29 k) - 1
    by_cases c : k = v 14 0
    · rw [c, u_at, u_at, u_at, u_at, u_at, if_pos rfl, if_pos rfl, if_pos rfl, if_pos rfl, if_pos rfl]
      exact ⟨rfl, rfl, rfl, rfl, rfl⟩
    · rw [u_ne c, u_ne c, u_ne c, u_ne c, u_ne c, if_neg c, if_neg c, if_neg c, if_neg c, if_neg c]; exact r5 k (by omega)
theorem c_readRail (hn : n ≤ 1600) (ha : ∀ i, i < n → ua 0 i = f i) (hv : okV v) (h : CS f n p us) (hC : RelC v rs ra) {post : A1 → A1 → Prop} (hp : ∀ us' rs', CS f n (lRail f n p).2.2 us' → RelC (aRail v (lRail f n p).1 (lRail f n p).2.1) rs' ra → post us' rs') : P_X5_readRail us ua rs post :=
  c_readWord hn ha h (by decide) (fun _ h1 => c_readWord hn ha h1 (by decide) (fun _ h2 => c_readNumber (lo := 1) (hi := 21) hn ha h2 (by decide) (by decide) (fun _ h3 => c_readWord hn ha h3 (by decide) (fun _ h4 => c_readNumber (lo := 1) (hi := 61) hn ha h4 (by decide) (by decide) (fun us' h5 => hp us' _ h5 (hC.aRail _ _))))))
theorem c_readMark (hn : n ≤ 1600) (ha : ∀ i, i < n → ua 0 i = f i) (hv : okV v) (h : CS f n p us) (hC : RelC v rs ra) {post : A1 → A1 → Prop} (hp : ∀ us' rs', CS f n (lMark f n p).2.2.2 us' → RelC (aMark v (lMark f n p).1 (lMark f n p).2.1 (lMark f n p).2.2.1) rs' ra → post us' rs') : P_X5_readMark us ua rs post :=
  c_readWord hn ha h (by decide) (fun _ h1 => c_readNumber (lo := 0) (hi := 1000) hn ha h1 (by decide) (by decide) (fun _ h2 => c_readWord hn ha h2 (by decide) (fun _ h3 => c_readNumber (lo := 0) (hi := 101) hn ha h3 (by decide) (by decide) (fun _ h4 => c_readIf hn ha h4 (by decide) (fun us' h5 => ⟨rI_01, hp us' _ h5 (hC.aMark _ _ _)⟩)))))
theorem c_readWatch (hn : n ≤ 1600) (ha : ∀ i, i < n → ua 0 i = f i) (hv : okV v) (h : CS f n p us) (hC : RelC v rs ra) {post : A1 → A1 → Prop} (hp : ∀ us' rs', CS f n (lWatch f n p).2.2 us' → RelC (aWatch v (lWatch f n p).1 (lWatch f n p).2.1) rs' ra → post us' rs') : P_X5_readWatch us ua rs post :=
  c_readWord hn ha h (by decide) (fun _ h1 => c_readNumber (lo := 0) (hi := 1000) hn ha h1 (by decide) (by decide) (fun _ h2 => c_readWord hn ha h2 (by decide) (fun _ h3 => c_readNumber (lo := 0) (hi := 100) hn ha h3 (by decide) (by decide) (fun us' h4 => hp us' _ h4 (hC.aWatch _ _)))))
theorem c_readLamp (hn : n ≤ 1600) (ha : ∀ i, i < n → ua 0 i = f i) (hv : okV v) (h : CS f n p us) (hC : RelC v rs ra) (h11 : p.1 = 0 → v 11 0 < 4) {post : A1 → A1 → A2 → Prop} (hp : ∀ us' rs' ra', CS f n (lLamp f n v p).2.2 us' → BOK ra' → ((lLamp f n v p).2.2.1 = 0 → RelC (aLamp v (lLamp f n v p).1 (lLamp f n v p).2.1) rs' ra') → post us' rs' ra') : P_X5_readLamp us ua rs ra post := by
  have h0 := ok0 hv
  refine c_readWord hn ha h (by decide) (fun _ h1 => ?_)
  rw [rc_s hC 0]
  refine c_readNumber (lo := 0) (hi := v 0 0) hn ha h1 (by decide) (by omega) (fun _ h2 => c_readWord hn ha h2 (by decide) (fun _ h3 => c_readNumber (lo := 0) (hi := 100) hn ha h3 (by decide) (by decide) (fun us' h4 => ?_)))
  by_cases z : (lLamp f n v p).2.2.1 = 0
  · have h11 := h11 (rW_0 (rN_0 (rW_0 (rN_0 z))))
    refine ⟨fun q => absurd (h4.f0 z) q, fun _ => ?_⟩
    rw [rc_s hC 11]
    refine ⟨fun q => absurd ((nI_ltI (a := 4) (by decide) (by omega)).mp q) (by omega), fun _ => ⟨vp_in_nI (by omega) (by decide), vp_in_nI (by omega) (by decide), fun x hx => ?_⟩⟩
    rw [nI_1] at hx
    rw [nI_clamp (by omega), hx]
    have R := hC.aLamp (lLamp f n v p).1 (lLamp f n v p).2.1
    exact hp us' _ _ h4 R.bok (fun _ => R)
  · exact ⟨fun _ => hp us' rs ra h4 hC.bok (fun q => absurd q z), fun q => absurd q (h4.f1 z)⟩
theorem c_readLock (hn : n ≤ 1600) (ha : ∀ i, i < n → ua 0 i = f i) (hv : okV v) (h : CS f n p us) (hC : RelC v rs ra) (h12 : p.1 = 0 → v 12 0 < 5) {post : A1 → A1 → A2 → Prop} (hp : ∀ us' rs' ra', CS f n (lLock f n p).2.2.2.2 us' → BOK ra' → ((lLock f n p).2.2.2.2.1 = 0 → RelC (aLock v (lLock f n p).1 (lLock f n p).2.1 (lLock f n p).2.2.1 (lLock f n p).2.2.2.1) rs' ra') → post us' rs' ra') : P_X5_readLock us ua rs ra post := by
  refine c_readWord hn ha h (by decide) (fun _ h1 => c_readNumber (lo := 0) (hi := 1000) hn ha h1 (by decide) (by decide) (fun _ h2 => c_readWord hn ha h2 (by decide) (fun _ h3 => c_readNumber (lo := 1) (hi := 1000) hn ha h3 (by decide) (by decide) (fun _ h4 => c_readNumber (lo := 1) (hi := 1000) hn ha h4 (by decide) (by decide) (fun _ h5 => c_readNumber (lo := 1) (hi := 1000) hn ha h5 (by decide) (by decide) (fun us' h6 => ?_))))))
  by_cases z : (lLock f n p).2.2.2.2.1 = 0
  · have h12 := h12 (rW_0 (rN_0 (rW_0 (rN_0 (rN_0 (rN_0 z))))))
    refine ⟨fun q => absurd (h6.f0 z) q, fun _ => ?_⟩
    rw [rc_s hC 12]
    refine ⟨fun q => absurd ((nI_leI (a := 5) (by decide) (by omega)).mp q) (by omega), fun _ => ?_⟩
    rw [show (3 : Int32) * nI (v 12 0) = nI (3 * v 12 0) by simp only [fa_lit, pk_mul], show nI (3 * v 12 0) + 2 = nI (3 * v 12 0 + 2) from nI_add _ 2, nI_1, nI_clamp (by omega), nI_clamp (by omega), nI_clamp (by omega), nI_clamp (by omega)]
    refine ⟨vp_in_nI (by omega) (by decide), vp_in_nI (by omega) (by decide), vp_in_nI (by omega) (by decide), vp_in_nI (by omega) (by decide), fun x hx => ?_⟩
    rw [nI_1] at hx
    rw [hx]
    have R := hC.aLock (lLock f n p).1 (lLock f n p).2.1 (lLock f n p).2.2.1 (lLock f n p).2.2.2.1
    exact hp us' _ _ h6 R.bok (fun _ => R)
  · exact ⟨fun _ => hp us' rs ra h6 hC.bok (fun q => absurd q z), fun q => absurd q (h6.f1 z)⟩
end CL
end
section
/-! the class's lines: bikes, thieves, and any line -/
section C2
variable {f : Nat → Int32} {n : Nat} {us : A1} {ua : A2} {p : PS} {rs : A1} {ra : A2} {v : Rl}
theorem rI_le {f : Nat → Int32} {n : Nat} {w : List Int32} {p : PS} : (rI f n w p).1 ≤ 1 := by
  unfold rI
  split
  · exact Nat.le_refl 1
  · exact Nat.zero_le 1
theorem c_standsX (hC : RelC v rs ra) (hv : okV v) (x : Int32) {post : Int32 → Prop} (hy : ∀ b, b < v 13 0 → nI (v 22 b) = x → post (nI b)) (hno : (∀ b, b < v 13 0 → nI (v 22 b) ≠ x) → post (-1)) : P_X0_standingAt (rs 13) (ra 6) x post := by
  have h13 := ok13 hv
  have L : ∀ (k i : Nat), i + k = v 13 0 → (∀ b, b < i → nI (v 22 b) ≠ x) → P_X0_standingAt_2 (rs 13) (ra 6) x post (k + 1) (nI i) := by
    intro k
    induction k with
    | zero =>
      intro i hi q
      obtain rfl : i = v 13 0 := by omega
      exact ⟨fun _ => hno q, fun c => absurd ((cmp_le (rc_s hC 13) (by omega) (by omega)).mpr (Nat.le_refl _)) c⟩
    | succ k ih =>
      intro i hi q
      refine ⟨fun c => absurd ((cmp_le (rc_s hC 13) (by omega) (by omega)).mp c) (by omega), fun _ => ⟨vp_in_nI (by omega) (by decide), ?_⟩⟩
      rw [nI_clamp (by omega), (hC.2.2.2.2.1 i (by omega)).2.2.1, nI_1]
      refine ⟨fun c => ih (i + 1) (by omega) (fun b hb => ?_), fun c => hy i (by omega) c⟩
      by_cases e : b = i
      · rw [e]; exact c
      · exact q b (by omega)
  exact ⟨v 13 0 + 1, L (v 13 0) 0 (by omega) (fun b hb => by omega)⟩
theorem lBk_0 {q : PS} (h : (lBk f n v q).2.1 = 0) : q.1 = 0 := by
  unfold lBk at h
  split at h
  · exact rI_0 h
  · exact rI_0 (rN_0 h)
theorem lTk_0 {q : PS} (h : (lTk f n v q).2.2.1 = 0) : q.1 = 0 := by
  unfold lTk at h
  split at h
  · split at h
    · exact rI_0 (rI_0 (rW_0 (rN_0 h)))
    · exact rI_0 (rI_0 h)
  · exact rI_0 h
theorem c_bike111 (hn : n ≤ 1600) (ha : ∀ i, i < n → ua 0 i = f i) (hv : okV v) {q : PS} (h : CS f n q us) (hC : RelC v rs ra) (h13 : q.1 = 0 → v 13 0 < 10) {a b c d : Nat} {post : A1 → A1 → A2 → Prop} (hp : ∀ us' rs' ra', CS f n (rI f n [109, 97, 114, 107, 101, 100] q).2 us' → BOK ra' → ((rI f n [109, 97, 114, 107, 101, 100] q).2.1 = 0 → RelC (aBike v a b c d (rI f n [109, 97, 114, 107, 101, 100] q).1) rs' ra') → post us' rs' ra') : P_X5_readBike_111 ua post (nI a) (nI b) (nI c) (nI d - 1) us rs ra := by
  have h13' := ok13 hv
  refine c_readIf hn ha h (by decide) (fun u10 h10 => ?_)
  have hle := rI_le (f := f) (n := n) (w := [109, 97, 114, 107, 101, 100]) (p := q)
  have h01 := rI_01 (f := f) (n := n) (w := [109, 97, 114, 107, 101, 100]) (p := q)
  have hz := rI_0 (f := f) (n := n) (w := [109, 97, 114, 107, 101, 100]) (p := q)
  generalize rI f n [109, 97, 114, 107, 101, 100] q = y at hp h10 hle h01 hz ⊢
  by_cases z : y.2.1 = 0
  · have hlt := h13 (hz z)
    refine ⟨fun q => absurd (h10.f0 z) q, fun _ => ?_⟩
    rw [rc_s hC 13]
    refine ⟨fun q => absurd ((nI_leI (a := 10) (by decide) (by omega)).mp q) (by omega), fun _ => ⟨vp_in_nI (by omega) (by decide), vp_in_nI (by omega) (by decide), vp_in_nI (by omega) (by decide), vp_in_nI (by omega) (by decide), vp_in_nI (by omega) (by decide), h01, fun x hx => ?_⟩⟩
    rw [nI_1] at hx
    rw [nI_clamp (by omega), hx]
    have R := hC.aBike hlt a b c d y.1 hle
    exact hp u10 _ _ h10 R.bok (fun _ => R)
  · exact ⟨fun _ => hp u10 rs ra h10 hC.bok (fun q => absurd q z), fun q => absurd q (h10.f1 z)⟩
theorem c_bike70 (hn : n ≤ 1600) (ha : ∀ i, i < n → ua 0 i = f i) (hv : okV v) {q : PS} (h : CS f n q us) (hC : RelC v rs ra) (h13 : q.1 = 0 → v 13 0 < 10) {a b : Nat} {post : A1 → A1 → A2 → Prop} (hp : ∀ us' rs' ra', CS f n (rI f n [109, 97, 114, 107, 101, 100] (lBk f n v (rN f n 0 (v 0 0) q).2).2).2 us' → BOK ra' → ((rI f n [109, 97, 114, 107, 101, 100] (lBk f n v (rN f n 0 (v 0 0) q).2).2).2.1 = 0 → RelC (aBike v a b (rN f n 0 (v 0 0) q).1 (lBk f n v (rN f n 0 (v 0 0) q).2).1 (rI f n [109, 97, 114, 107, 101, 100] (lBk f n v (rN f n 0 (v 0 0) q).2).2).1) rs' ra') → post us' rs' ra') : P_X5_readBike_70 ua post (nI a) (nI b) us rs ra := by
  have h0 := ok0 hv
  have h12 := ok12 hv
  unfold P_X5_readBike_70
  rw [rc_s hC 0, rc_s hC 12]
  have hz := rN_0 (f := f) (n := n) (lo := 0) (hi := v 0 0) (p := q)
  refine c_readNumber (lo := 0) (hi := v 0 0) hn ha h (by decide) (by omega) (fun u7 h7 => ?_)
  generalize rN f n 0 (v 0 0) q = y7 at hp h7 hz ⊢
  have hb := lBk_0 (f := f) (n := n) (v := v) (q := y7.2)
  refine c_readIf hn ha h7 (by decide) (fun u8 h8 => ?_)
  have hle := rI_le (f := f) (n := n) (w := [108, 111, 99, 107]) (p := y7.2)
  have e0 : lBk f n v y7.2 = if (rI f n [108, 111, 99, 107] y7.2).1 = 0 then (0, (rI f n [108, 111, 99, 107] y7.2).2) else ((rN f n 0 (v 12 0) (rI f n [108, 111, 99, 107] y7.2).2).1 + 1, (rN f n 0 (v 12 0) (rI f n [108, 111, 99, 107] y7.2).2).2) := rfl
  generalize lBk f n v y7.2 = z9 at hp hb e0
  generalize rI f n [108, 111, 99, 107] y7.2 = y8 at h8 hle e0 ⊢
  refine ⟨fun t => ?_, fun t => ?_⟩
  · have e : y8.1 = 0 := (nI_eq (b := 0) (by omega) (by decide)).mp t
    rw [if_pos e] at e0
    subst e0
    exact c_bike111 (d := 0) hn ha hv h8 hC (fun z => h13 (hz (hb z))) hp
  · have e : ¬ y8.1 = 0 := fun z => t (by rw [z]; rfl)
    rw [if_neg e] at e0
    subst e0
    refine c_readNumber (lo := 0) (hi := v 12 0) hn ha h8 (by decide) (by omega) (fun u9 h9 => ?_)
    generalize rN f n 0 (v 12 0) y8.2 = y9 at hp hb h9 ⊢
    have K := c_bike111 (d := y9.1 + 1) hn ha hv h9 hC (fun z => h13 (hz (hb z))) hp
    rw [nI_pre (by omega)] at K
    exact K
theorem c_readBike (hn : n ≤ 1600) (ha : ∀ i, i < n → ua 0 i = f i) (hv : okV v) (h : CS f n p us) (hC : RelC v rs ra) (h13 : p.1 = 0 → v 13 0 < 10) {q6 : PS} (hq6 : q6 = lB2 f n v (lB1 f n p).2.2) {post : A1 → A1 → A2 → Prop} (hp : ∀ us' rs' ra', CS f n (rI f n [109, 97, 114, 107, 101, 100] (lBk f n v (rN f n 0 (v 0 0) q6).2).2).2 us' → BOK ra' → ((rI f n [109, 97, 114, 107, 101, 100] (lBk f n v (rN f n 0 (v 0 0) q6).2).2).2.1 = 0 → RelC (aBike v (lB1 f n p).1 (lB1 f n p).2.1 (rN f n 0 (v 0 0) q6).1 (lBk f n v (rN f n 0 (v 0 0) q6).2).1 (rI f n [109, 97, 114, 107, 101, 100] (lBk f n v (rN f n 0 (v 0 0) q6).2).2).1) rs' ra') → post us' rs' ra') : P_X5_readBike us ua rs ra post := by
  have h13' := ok13 hv
  have hz5 : (lB1 f n p).2.2.1 = 0 → p.1 = 0 := fun z => rW_0 (rN_0 (rW_0 (rN_0 (rW_0 z))))
  refine c_readWord hn ha h (by decide) (fun _ h1 => c_readNumber (lo := 0) (hi := 10000) hn ha h1 (by decide) (by decide) (fun _ h2 => c_readWord hn ha h2 (by decide) (fun _ h3 => c_readNumber (lo := 0) (hi := 10000) hn ha h3 (by decide) (by decide) (fun _ h4 => c_readWord hn ha h4 (by decide) (fun u5 h5' => ?_)))))
  have h5 : CS f n (lB1 f n p).2.2 u5 := h5'
  show ((¬ u5 5 = 2) → P_X5_readBike_70 ua post (nI (lB1 f n p).1) (nI (lB1 f n p).2.1) u5 rs ra) ∧ ((u5 5 = 2) → P_X0_standingAt (rs 13) (ra 6) (u5 6) (fun (r25 : Int32) => (((r25 = (-1)) → P_X5_readBike_70 ua post (nI (lB1 f n p).1) (nI (lB1 f n p).2.1) u5 rs ra) ∧ ((¬ r25 = (-1)) → P_X5_fail u5 2 (fun (us_27 : Nat → Int32) => (P_X5_readBike_70 ua post (nI (lB1 f n p).1) (nI (lB1 f n p).2.1) us_27 rs ra))))))
  generalize lB1 f n p = y at *
  obtain ⟨a, b, q5⟩ := y
  simp only at *
  have K : ∀ u6, CS f n q6 u6 → (q6.1 = 0 → p.1 = 0) → P_X5_readBike_70 ua post (nI a) (nI b) u6 rs ra := fun u6 h6 hz6 => c_bike70 hn ha hv h6 hC (fun z => h13 (hz6 z)) hp
  have K0 : ¬ (q5.1 = 0 ∧ kd f n q5.2.2 = 2 ∧ stN v (vlT f n q5.2.2) = true) → P_X5_readBike_70 ua post (nI a) (nI b) u5 rs ra := by
    intro c
    unfold lB2 at hq6
    rw [if_neg c] at hq6
    subst hq6
    exact K u5 h5 hz5
  have hk5 := kd_le f n q5.2.2
  by_cases z : q5.1 = 0
  · obtain ⟨-, -, -, g5, g6⟩ := h5.2.2.2.2.2.1 z
    have e5 : u5 5 = 2 ↔ kd f n q5.2.2 = 2 := by rw [g5]; exact nI_eq (b := 2) (by omega) (by decide)
    refine ⟨fun t => K0 (fun r => t (e5.mpr r.2.1)), fun t => ?_⟩
    have k2 := e5.mp t
    rw [if_pos k2] at g6
    have hv1 : vlT f n q5.2.2 ≤ 1000000 := vlC_le _ _ _
    refine c_standsX hC hv (u5 6) (fun b' hb e => ⟨fun r => absurd r (nI_nm1 (by omega)), fun _ => ?_⟩) (fun e => ⟨fun _ => K0 ?_, fun r => absurd rfl r⟩)
    · have b22 := (hv.2.2.2.2.1 b' hb).2.2.1
      rw [g6, nI_eq (by omega) (by omega)] at e
      have hst : stN v (vlT f n q5.2.2) = true := by
        unfold stN
        simp
        exact ⟨b', hb, e⟩
      unfold lB2 at hq6
      rw [if_pos ⟨z, k2, hst⟩] at hq6
      subst hq6
      exact c_fail (c := 2) h5 (by decide) (by decide) (fun u6 h6 => K u6 h6 (fun z => hz5 (rF_0 z)))
    · intro r
      have s := r.2.2
      unfold stN at s
      simp at s
      obtain ⟨b', hb, eb⟩ := s
      exact e b' hb (by rw [g6, eb])
  · have c0 : ¬ (q5.1 = 0 ∧ kd f n q5.2.2 = 2 ∧ stN v (vlT f n q5.2.2) = true) := fun r => z r.1
    refine ⟨fun t => K0 c0, fun t => c_standsX hC hv (u5 6) (fun b' hb e => ⟨fun r => absurd r (nI_nm1 (by omega)), fun _ => ?_⟩) (fun e => ⟨fun _ => K0 c0, fun r => absurd rfl r⟩)⟩
    exact ⟨fun _ => K0 c0, fun r => absurd r (h5.f1 z)⟩
theorem c_thief100 (hv : okV v) {q : PS} (h : CS f n q us) (hC : RelC v rs ra) (h14 : q.1 = 0 → v 14 0 < 6) {a b c d e : Nat} {post : A1 → A1 → A2 → Prop} (hp : ∀ us' rs' ra', CS f n q us' → BOK ra' → (q.1 = 0 → RelC (aThief v a b c d e) rs' ra') → post us' rs' ra') : P_X5_readThief_100 ua post (nI a) (nI b) (nI c) (nI d) (nI e - 1) us rs ra := by
  have h14' := ok14 hv
  by_cases z : q.1 = 0
  · have hlt := h14 z
    refine ⟨fun q => absurd (h.f0 z) q, fun _ => ?_⟩
    rw [rc_s hC 14]
    refine ⟨fun q => absurd ((nI_leI (a := 6) (by decide) (by omega)).mp q) (by omega), fun _ => ⟨vp_in_nI (by omega) (by decide), vp_in_nI (by omega) (by decide), vp_in_nI (by omega) (by decide), vp_in_nI (by omega) (by decide), vp_in_nI (by omega) (by decide), fun x hx => ?_⟩⟩
    rw [nI_1] at hx
    rw [nI_clamp (by omega), hx]
    have R := hC.aThief a b c d e
    exact hp us _ _ h R.bok (fun _ => R)
  · exact ⟨fun _ => hp us rs ra h hC.bok (fun q => absurd q z), fun q => absurd q (h.f1 z)⟩
theorem c_readThief (hn : n ≤ 1600) (ha : ∀ i, i < n → ua 0 i = f i) (hv : okV v) (h : CS f n p us) (hC : RelC v rs ra) (h14 : p.1 = 0 → v 14 0 < 6) {post : A1 → A1 → A2 → Prop} (hp : ∀ us' rs' ra', CS f n (lTk f n v (lT1 f n p).2.2.2).2.2 us' → BOK ra' → ((lTk f n v (lT1 f n p).2.2.2).2.2.1 = 0 → RelC (aThief v (lT1 f n p).1 (lT1 f n p).2.1 (lT1 f n p).2.2.1 (lTk f n v (lT1 f n p).2.2.2).1 (lTk f n v (lT1 f n p).2.2.2).2.1) rs' ra') → post us' rs' ra') : P_X5_readThief us ua rs ra post := by
  have h13' := ok13 hv
  have hz6 : (lT1 f n p).2.2.2.1 = 0 → p.1 = 0 := fun z => rW_0 (rN_0 (rW_0 (rN_0 (rW_0 (rN_0 z)))))
  have T : ∀ (a b c : Nat) (q : PS) (u6 : A1), CS f n q u6 → (q.1 = 0 → p.1 = 0) → (∀ us' rs' ra', CS f n (lTk f n v q).2.2 us' → BOK ra' → ((lTk f n v q).2.2.1 = 0 → RelC (aThief v a b c (lTk f n v q).1 (lTk f n v q).2.1) rs' ra') → post us' rs' ra') → P_X5_readIf u6 ua ([98, 101, 115, 116]) (fun (r18 : Int32) (us_17 : Nat → Int32) => (((r18 = 0) → P_X5_readIf us_17 ua ([97, 110, 121]) (fun (r21 : Int32) (us_20 : Nat → Int32) => (((r21 = 0) → P_X5_readWord us_20 ua ([106, 117, 115, 116]) (fun (us_23 : Nat → Int32) => (P_X5_readNumber us_23 ua 0 ((rs 13) - 1) (fun (r25 : Int32) (us_24 : Nat → Int32) => (P_X5_readThief_100 ua post (nI a) (nI b) (nI c) 2 r25 us_24 rs ra))))) ∧ ((¬ r21 = 0) → P_X5_readThief_100 ua post (nI a) (nI b) (nI c) 1 (-1) us_20 rs ra)))) ∧ ((¬ r18 = 0) → P_X5_readThief_100 ua post (nI a) (nI b) (nI c) 0 (-1) us_17 rs ra))) := by
    intro a b c q u6 h6 hz hp
    have hb := lTk_0 (f := f) (n := n) (v := v) (q := q)
    have e0 : lTk f n v q = if (rI f n [98, 101, 115, 116] q).1 = 0 then (if (rI f n [97, 110, 121] (rI f n [98, 101, 115, 116] q).2).1 = 0 then (2, (rN f n 0 (v 13 0) (rW f n [106, 117, 115, 116] (rI f n [97, 110, 121] (rI f n [98, 101, 115, 116] q).2).2)).1 + 1, (rN f n 0 (v 13 0) (rW f n [106, 117, 115, 116] (rI f n [97, 110, 121] (rI f n [98, 101, 115, 116] q).2).2)).2) else (1, 0, (rI f n [97, 110, 121] (rI f n [98, 101, 115, 116] q).2).2)) else (0, 0, (rI f n [98, 101, 115, 116] q).2) := rfl
    generalize lTk f n v q = z8 at hp hb e0
    refine c_readIf hn ha h6 (by decide) (fun u7 h7 => ?_)
    have l7 := rI_le (f := f) (n := n) (w := [98, 101, 115, 116]) (p := q)
    generalize rI f n [98, 101, 115, 116] q = y7 at h7 l7 e0 ⊢
    refine ⟨fun t => ?_, fun t => ?_⟩
    · have e : y7.1 = 0 := (nI_eq (b := 0) (by omega) (by decide)).mp t
      rw [if_pos e] at e0
      refine c_readIf hn ha h7 (by decide) (fun u8 h8 => ?_)
      have l8 := rI_le (f := f) (n := n) (w := [97, 110, 121]) (p := y7.2)
      generalize rI f n [97, 110, 121] y7.2 = y8 at h8 l8 e0 ⊢
      refine ⟨fun t2 => ?_, fun t2 => ?_⟩
      · have e2 : y8.1 = 0 := (nI_eq (b := 0) (by omega) (by decide)).mp t2
        rw [if_pos e2] at e0
        refine c_readWord hn ha h8 (by decide) (fun u9 h9 => ?_)
        generalize rW f n [106, 117, 115, 116] y8.2 = y9 at h9 e0 ⊢
        rw [rc_s hC 13]
        refine c_readNumber (lo := 0) (hi := v 13 0) hn ha h9 (by decide) (by omega) (fun u10 h10 => ?_)
        generalize rN f n 0 (v 13 0) y9 = y10 at h10 e0 ⊢
        subst e0
        have K := c_thief100 (ua := ua) (a := a) (b := b) (c := c) (d := 2) (e := y10.1 + 1) hv h10 hC (fun z => h14 (hz (hb z))) hp
        rw [nI_pre (by omega)] at K
        exact K
      · have e2 : ¬ y8.1 = 0 := fun z => t2 (by rw [z]; rfl)
        rw [if_neg e2] at e0
        subst e0
        exact c_thief100 (ua := ua) (a := a) (b := b) (c := c) (d := 1) (e := 0) hv h8 hC (fun z => h14 (hz (hb z))) hp
    · have e : ¬ y7.1 = 0 := fun z => t (by rw [z]; rfl)
      rw [if_neg e] at e0
      subst e0
      exact c_thief100 (ua := ua) (a := a) (b := b) (c := c) (d := 0) (e := 0) hv h7 hC (fun z => h14 (hz (hb z))) hp
  exact c_readWord hn ha h (by decide) (fun _ h1 => c_readNumber (lo := 0) (hi := 3) hn ha h1 (by decide) (by decide) (fun _ h2 => c_readWord hn ha h2 (by decide) (fun _ h3 => c_readNumber (lo := 0) (hi := 101) hn ha h3 (by decide) (by decide) (fun _ h4 => c_readWord hn ha h4 (by decide) (fun _ h5 => c_readNumber (lo := 0) (hi := 100) hn ha h5 (by decide) (by decide) (fun u6 h6 => T _ _ _ _ u6 h6 hz6 hp))))))
end C2
end
section
/-! the reference's lines -/
def wd (j : Nat) : Nat := if j = 7 then 8 else if j = 9 then 20 else if j = 11 then 50 else if j = 13 then 30 else if j = 14 then 7 else if j = 16 then 17 else 1
/-- what stays while row 4 is read -/
def F4 (ma mb : A2) : Prop := ∀ j x, (j < 3 ∨ 16 < j ∨ (j ≠ 15 ∧ x < 4 * wd j)) → mb j x = ma j x
theorem F4.refl (ma : A2) : F4 ma ma := fun _ _ _ => rfl
theorem F4.trans {ma mb mc : A2} (h : F4 ma mb) (g : F4 mb mc) : F4 ma mc := fun j x q => (g j x q).trans (h j x q)
theorem F4.up {ma : A2} {r i : Nat} (h3 : 3 ≤ r) (h16 : r ≤ 16) (hi : r = 15 ∨ 4 * wd r ≤ i) (y : Int32) : F4 ma (va_up ma r (upd (ma r) i y)) := fun j x q => by
  by_cases c : j = r
  · subst c
    rw [up_at, u_ne (by omega)]
  · rw [up_ne c]
theorem F4.row {ma mb : A2} (h : F4 ma mb) {g : Nat → Int32} {r i : Nat} (h3 : 3 ≤ r) (h16 : r ≤ 16) (hg : mb r = g) (hi : r = 15 ∨ 4 * wd r ≤ i) (y : Int32) : F4 ma (va_up mb r (upd g i y)) := by
  subst hg
  exact h.trans (F4.up h3 h16 hi y)
theorem F4.up2 {ma : A2} {r s : Nat} {g k : Nat → Int32} (hr : 3 ≤ r ∧ r ≤ 16) (hs : 3 ≤ s ∧ s ≤ 16) (hg : ∀ x, x < 4 * wd r → g x = ma r x) (hk : s = 15 ∨ ∀ x, x < 4 * wd s → k x = ma s x) : F4 ma (va_up (va_up ma r g) s k) := fun j x q => by
  by_cases c : j = s
  · subst c
    rw [up_at]
    rcases hk with e | e
    · omega
    · exact e x (by omega)
  · rw [up_ne c]
    by_cases d : j = r
    · subst d
      rw [up_at]
      exact hg x (by omega)
    · rw [up_ne d]
theorem F4.two {ma mb : A2} (h : F4 ma mb) : mb 2 = ma 2 := funext fun x => h 2 x (Or.inl (by decide))
def R4 (v : Rl) (ma : A2) : Prop := RelN v 4 ma ∧ RelT v 4 ma ∧ RelP v 4 ma ∧ RelY v 4 ma ∧ ma 15 8 = nI (v 3 0) ∧ ma 15 9 = nI (v 7 0)
section ML
variable {f : Nat → Int32} {n : Nat} {m0 ms : A1} {mw : Nat → Int64} {ma : A2} {p : PS} {v : Rl}
theorem m_railLine (hn : n ≤ 1600) (ha : ∀ i, i < n → ma 2 i = f i) (h : MS f n p m0 ms mw) (h4 : R4 v ma) {post : A1 → (Nat → Int64) → A2 → Prop} (hp : ∀ mt mw' mb, MS f n (lRail f n p).2.2 m0 mt mw' → F4 ma mb → R4 (aRail v (lRail f n p).1 (lRail f n p).2.1) mb → post mt mw' mb) : P_X12_railLine ms mw ma post := by
  refine m_asks (w := [114, 97, 105, 108]) hn ha h (by decide) (by decide) (fun m1 w1 h1 => m_number_ (w := [112, 108, 97, 99, 101, 115]) (lo := 1) (hi := 21) hn ha h1 (by decide) (by decide) (by decide) (by decide) (fun m2 w2 h2 => m_number_ (ma := va_up ma 4 (upd (ma 4) 4 _)) (w := [110, 105, 103, 104, 116, 115]) (lo := 1) (hi := 61) hn ha h2 (by decide) (by decide) (by decide) (by decide) (fun m3 w3 h3 => hp m3 w3 _ h3 ?_ ?_)))
  · exact ((F4.refl ma).row (by decide) (by decide) rfl (Or.inr (by decide)) _).row (by decide) (by decide) rfl (Or.inr (by decide)) _
  · obtain ⟨⟨⟨a1, a2, a3, a4, a5⟩, b1⟩, hT, hP, hY, o1, o2⟩ := h4
    refine ⟨⟨⟨a1, ?_, ?_, a4, a5⟩, b1⟩, hT, hP, hY, o1, o2⟩
    · show upd (ma 4) 4 (nI (lRail f n p).1) 4 = nI (lRail f n p).1
      rw [u_at]
    · show upd (ma 5) 4 (nI (lRail f n p).2.1) 4 = nI (lRail f n p).2.1
      rw [u_at]
theorem m_lampLine (hn : n ≤ 1600) (ha : ∀ i, i < n → ma 2 i = f i) (hv : okV v) (h : MS f n p m0 ms mw) (h4 : R4 v ma) (h11 : v 11 0 < 4) {post : A1 → (Nat → Int64) → A2 → Prop} (hp : ∀ mt mw' mb, MS f n (lLamp f n v p).2.2 m0 mt mw' → F4 ma mb → R4 (aLamp v (lLamp f n v p).1 (lLamp f n v p).2.1) mb → post mt mw' mb) : P_X12_lampLine ms mw ma post := by
  have h0 := ok0 hv
  obtain ⟨hN, hT, ⟨p1, p2, p3⟩, hY, o1, o2⟩ := h4
  have e4 : ma 4 4 = nI (v 0 0) := hN.1.2.1
  intro x hx
  rw [p1, show (2 : Int32) * (16 + nI (v 11 0)) = nI (2 * (16 + v 11 0)) by simp only [fa_lit, pk_mul, nI_add]] at hx
  subst hx
  rw [e4, p1]
  refine m_number_ (w := [97, 116]) (lo := 0) (hi := v 0 0) hn ha h (by decide) (by decide) (by decide) (by omega) (fun m2 w2 h2 => ⟨vp_in_nI (by omega) (by decide), ?_⟩)
  rw [nI_clamp (by omega)]
  refine m_number_ (ma := va_up ma 7 (upd (ma 7) (2 * (16 + v 11 0)) _)) (w := [98, 114, 105, 103, 104, 116]) (lo := 0) (hi := 100) hn ha h2 (by decide) (by decide) (by decide) (by decide) (fun m3 w3 h3 => ?_)
  rw [nI_1, nI_1, nI_clamp (by omega)]
  refine ⟨vp_in_nI (by omega) (by decide), hp m3 w3 _ h3 ?_ ⟨hN, hT, ⟨?_, ?_, fun k hk => ?_⟩, hY, o1, o2⟩⟩
  · refine F4.up2 (by decide) (by decide) (fun x hx => u_ne ?_) (Or.inr (fun x hx => ?_))
    · have : x < 4 := hx
      omega
    · have : x < 32 := hx
      rw [u_ne (by omega), u_ne (by omega)]
  · show upd (ma 6) 4 (nI (v 11 0 + 1)) 4 = nI (v 11 0 + 1)
    rw [u_at]
  · show v 11 0 + 1 ≤ 4
    omega
  · have hk' : k < v 11 0 + 1 := hk
    show upd (upd (ma 7) (2 * (16 + v 11 0)) (nI (lLamp f n v p).1)) (2 * (16 + v 11 0) + 1) (nI (lLamp f n v p).2.1) (2 * (4 * 4 + k)) = nI (if k = v 11 0 then (lLamp f n v p).1 else v 16 k) ∧ upd (upd (ma 7) (2 * (16 + v 11 0)) (nI (lLamp f n v p).1)) (2 * (16 + v 11 0) + 1) (nI (lLamp f n v p).2.1) (2 * (4 * 4 + k) + 1) = nI (if k = v 11 0 then (lLamp f n v p).2.1 else v 17 k)
    by_cases c : k = v 11 0
    · rw [c, u_ne (by omega), show 2 * (4 * 4 + v 11 0) = 2 * (16 + v 11 0) by omega, u_at, u_at, if_pos rfl, if_pos rfl]
      exact ⟨rfl, rfl⟩
    · rw [u_ne (by omega), u_ne (by omega), u_ne (by omega), u_ne (by omega), if_neg c, if_neg c]
      exact p3 k (by omega)
theorem m_lockLine (hn : n ≤ 1600) (ha : ∀ i, i < n → ma 2 i = f i) (h : MS f n p m0 ms mw) (h4 : R4 v ma) (h12 : v 12 0 < 5) {post : A1 → (Nat → Int64) → A2 → Prop} (hp : ∀ mt mw' mb, MS f n (lLock f n p).2.2.2.2 m0 mt mw' → F4 ma mb → R4 (aLock v (lLock f n p).1 (lLock f n p).2.1 (lLock f n p).2.2.1 (lLock f n p).2.2.2.1) mb → post mt mw' mb) : P_X12_lockLine ms mw ma post := by
  obtain ⟨⟨⟨a1, a2, a3, a4, a5⟩, b1, c1, d1, e1⟩, hT, hP, hY, o1, o2⟩ := h4
  intro x hx
  rw [a4, show (4 : Int32) * (20 + nI (v 12 0)) = nI (4 * (20 + v 12 0)) by simp only [fa_lit, pk_mul, nI_add]] at hx
  subst hx
  rw [a4]
  refine m_number_ (w := [112, 114, 105, 99, 101]) (lo := 0) (hi := 1000) hn ha h (by decide) (by decide) (by decide) (by decide) (fun m2 w2 h2 => ⟨vp_in_nI (by omega) (by decide), ?_⟩)
  rw [nI_clamp (by omega)]
  refine m_number_ (ma := va_up ma 9 (upd (ma 9) (4 * (20 + v 12 0)) _)) (w := [99, 117, 116, 115]) (lo := 1) (hi := 1000) hn ha h2 (by decide) (by decide) (by decide) (by decide) (fun m3 w3 h3 => ?_)
  rw [show nI (4 * (20 + v 12 0)) + 1 = nI (4 * (20 + v 12 0) + 1) from nI_add _ 1, show nI (4 * (20 + v 12 0)) + 2 = nI (4 * (20 + v 12 0) + 2) from nI_add _ 2, show nI (4 * (20 + v 12 0)) + 3 = nI (4 * (20 + v 12 0) + 3) from nI_add _ 3, nI_clamp (by omega), nI_clamp (by omega), nI_clamp (by omega), nI_1]
  refine ⟨vp_in_nI (by omega) (by decide), m_number (ma := va_up ma 9 (upd (upd (ma 9) (4 * (20 + v 12 0)) _) (4 * (20 + v 12 0) + 1) _)) (lo := 1) (hi := 1000) hn ha h3 (by decide) (by decide) (fun m4 w4 h4 => ⟨vp_in_nI (by omega) (by decide), m_number (ma := va_up ma 9 (upd (upd (upd (ma 9) (4 * (20 + v 12 0)) _) (4 * (20 + v 12 0) + 1) _) (4 * (20 + v 12 0) + 2) _)) (lo := 1) (hi := 1000) hn ha h4 (by decide) (by decide) (fun m5 w5 h5 => ⟨vp_in_nI (by omega) (by decide), hp m5 w5 _ h5 ?_ ⟨⟨⟨a1, a2, a3, ?_, a5⟩, fun k hk => ?_, fun k i hk hi => ?_, d1, e1⟩, hT, hP, hY, o1, o2⟩⟩)⟩)⟩
  · refine F4.up2 (by decide) (by decide) (fun x hx => u_ne ?_) (Or.inr (fun x hx => ?_))
    · have : x < 4 := hx
      omega
    · have : x < 80 := hx
      rw [u_ne (by omega), u_ne (by omega), u_ne (by omega), u_ne (by omega)]
  · show upd (ma 8) 4 (nI (v 12 0 + 1)) 4 = nI (v 12 0 + 1)
    rw [u_at]
  · have hk' : k < v 12 0 + 1 := hk
    show upd (upd (upd (upd (ma 9) (4 * (20 + v 12 0)) (nI (lLock f n p).1)) (4 * (20 + v 12 0) + 1) (nI (lLock f n p).2.1)) (4 * (20 + v 12 0) + 2) (nI (lLock f n p).2.2.1)) (4 * (20 + v 12 0) + 3) (nI (lLock f n p).2.2.2.1) (4 * (5 * 4 + k)) = nI (if k = v 12 0 then (lLock f n p).1 else v 18 k)
    rw [u_ne (by omega), u_ne (by omega), u_ne (by omega)]
    by_cases c : k = v 12 0
    · rw [c, show 4 * (5 * 4 + v 12 0) = 4 * (20 + v 12 0) by omega, u_at, if_pos rfl]
    · rw [u_ne (by omega), if_neg c]; exact b1 k (by omega)
  · have hk' : k < v 12 0 + 1 := hk
    show upd (upd (upd (upd (ma 9) (4 * (20 + v 12 0)) (nI (lLock f n p).1)) (4 * (20 + v 12 0) + 1) (nI (lLock f n p).2.1)) (4 * (20 + v 12 0) + 2) (nI (lLock f n p).2.2.1)) (4 * (20 + v 12 0) + 3) (nI (lLock f n p).2.2.2.1) (4 * (5 * 4 + k) + 1 + i) = nI (if 3 * k + i = 3 * v 12 0 then (lLock f n p).2.1 else if 3 * k + i = 3 * v 12 0 + 1 then (lLock f n p).2.2.1 else if 3 * k + i = 3 * v 12 0 + 2 then (lLock f n p).2.2.2.1 else v 19 (3 * k + i))
    by_cases c : k = v 12 0
    · subst c
      have hi3 : i = 0 ∨ i = 1 ∨ i = 2 := by omega
      rcases hi3 with e | e | e
      · subst e
        rw [u_ne (by omega), u_ne (by omega), show 4 * (5 * 4 + v 12 0) + 1 + 0 = 4 * (20 + v 12 0) + 1 by omega, u_at, if_pos (by omega)]
      · subst e
        rw [u_ne (by omega), show 4 * (5 * 4 + v 12 0) + 1 + 1 = 4 * (20 + v 12 0) + 2 by omega, u_at, if_neg (by omega), if_pos (by omega)]
      · subst e
        rw [show 4 * (5 * 4 + v 12 0) + 1 + 2 = 4 * (20 + v 12 0) + 3 by omega, u_at, if_neg (by omega), if_neg (by omega), if_pos (by omega)]
    · rw [u_ne (by omega), u_ne (by omega), u_ne (by omega), u_ne (by omega), if_neg (by omega), if_neg (by omega), if_neg (by omega)]
      exact c1 k i (by omega) hi
theorem m_markLine (hn : n ≤ 1600) (ha : ∀ i, i < n → ma 2 i = f i) (hv : okV v) (h : MS f n p m0 ms mw) (h0 : p.1 = 0) (h4 : R4 v ma) {post : A1 → (Nat → Int64) → A2 → Prop} (hf : v 3 0 = 1 → ∀ mt mw', MS f n (rF 2 p) m0 mt mw' → post mt mw' ma) (hp : v 3 0 = 0 → ∀ mt mw' mb, MS f n (lMark f n (0, 0, adv f n p.2.2)).2.2.2 m0 mt mw' → F4 ma mb → R4 (aMark v (lMark f n (0, 0, adv f n p.2.2)).1 (lMark f n (0, 0, adv f n p.2.2)).2.1 (lMark f n (0, 0, adv f n p.2.2)).2.2.1) mb → post mt mw' mb) : P_X12_onceLine ms mw ma 0 post := by
  have h3 : v 3 0 ≤ 1 := hv.1.2.2.2.1
  obtain ⟨⟨a1, b1, c1, d1, e1, e2, e3, e4, e5, e6, e7⟩, hT, hP, hY, o1, o2⟩ := h4
  refine ⟨vp_in_nI (n := 8) (N := 10) (by decide) (by decide), fun z => ?_, fun z => ?_⟩
  · have z0 : v 3 0 = 0 := (nI_eq (b := 0) (by omega) (by decide)).mp (o1.symm.trans z)
    refine ⟨fun _ => m_nextT hn ha h h0 (fun m1 w1 h1 => ⟨vp_in_nI (n := 8) (N := 10) (by decide) (by decide), fun q => absurd rfl q, fun _ => ?_⟩), fun q => absurd (h.f0 h0) q⟩
    refine m_number_ (ma := va_up ma 15 (upd (ma 15) 8 1)) (w := [112, 114, 105, 99, 101]) (lo := 0) (hi := 1000) hn ha h1 (by decide) (by decide) (by decide) (by decide) (fun m2 w2 h2 => m_number_ (ma := va_up (va_up ma 14 (upd (ma 14) 28 _)) 15 (upd (ma 15) 8 1)) (w := [107, 110, 111, 119, 110]) (lo := 0) (hi := 101) hn ha h2 (by decide) (by decide) (by decide) (by decide) (fun m3 w3 h3 => m_takes (ma := va_up (va_up ma 14 (upd (upd (ma 14) 28 _) 29 _)) 15 (upd (ma 15) 8 1)) (w := [104, 105, 100, 100, 101, 110]) hn ha h3 (by decide) (by decide) (fun m4 w4 h4 => ?_)))
    have G : ∀ y : Int32, y = nI (lMark f n (0, 0, adv f n p.2.2)).2.2.1 → post m4 w4 (va_up (va_up ma 14 (upd (upd (upd (ma 14) 28 (nI (lMark f n (0, 0, adv f n p.2.2)).1)) 29 (nI (lMark f n (0, 0, adv f n p.2.2)).2.1)) 30 y)) 15 (upd (ma 15) 8 1)) := by
      intro y hy
      subst hy
      refine hp z0 m4 w4 _ h4 (F4.up2 (by decide) (by decide) (fun x hx => ?_) (Or.inl rfl)) ⟨⟨a1, b1, c1, d1, ?_, ?_, ?_, e4, e5, e6, e7⟩, hT, hP, hY, ?_, ?_⟩
      · have : x < 28 := hx
        rw [u_ne (by omega), u_ne (by omega), u_ne (by omega)]
      · show upd (upd (upd (ma 14) 28 (nI (lMark f n (0, 0, adv f n p.2.2)).1)) 29 (nI (lMark f n (0, 0, adv f n p.2.2)).2.1)) 30 (nI (lMark f n (0, 0, adv f n p.2.2)).2.2.1) 28 = nI (lMark f n (0, 0, adv f n p.2.2)).1
        rw [u_ne (by decide), u_ne (by decide), u_at]
      · show upd (upd (upd (ma 14) 28 (nI (lMark f n (0, 0, adv f n p.2.2)).1)) 29 (nI (lMark f n (0, 0, adv f n p.2.2)).2.1)) 30 (nI (lMark f n (0, 0, adv f n p.2.2)).2.2.1) 29 = nI (lMark f n (0, 0, adv f n p.2.2)).2.1
        rw [u_ne (by decide), u_at]
      · show upd (upd (upd (ma 14) 28 (nI (lMark f n (0, 0, adv f n p.2.2)).1)) 29 (nI (lMark f n (0, 0, adv f n p.2.2)).2.1)) 30 (nI (lMark f n (0, 0, adv f n p.2.2)).2.2.1) 30 = nI (lMark f n (0, 0, adv f n p.2.2)).2.2.1
        rw [u_at]
      · show upd (ma 15) 8 1 8 = nI 1
        rw [u_at]
        rfl
      · show upd (ma 15) 8 1 9 = nI (v 7 0)
        rw [u_ne (by decide)]
        exact o2
    have hle := rI_le (f := f) (n := n) (w := [104, 105, 100, 100, 101, 110]) (p := (rN f n 0 101 (rW f n [107, 110, 111, 119, 110] (rN f n 0 1000 (rW f n [112, 114, 105, 99, 101] (0, 0, adv f n p.2.2))).2)).2)
    refine ⟨fun q => G 0 q.symm, fun q => G 1 ?_⟩
    have q' : (lMark f n (0, 0, adv f n p.2.2)).2.2.1 ≠ 0 := fun e => q (by show nI (lMark f n (0, 0, adv f n p.2.2)).2.2.1 = 0; rw [e]; rfl)
    have hle' : (lMark f n (0, 0, adv f n p.2.2)).2.2.1 ≤ 1 := hle
    rw [show (lMark f n (0, 0, adv f n p.2.2)).2.2.1 = 1 by omega]
    rfl
  · have z1 : v 3 0 = 1 := by
      have : v 3 0 ≠ 0 := fun e => z (by show ma 15 8 = 0; rw [o1, e]; rfl)
      omega
    refine m_fails (c := 2) h (by decide) (by decide) (fun m1 h1 => ⟨fun q => ?_, fun _ => hf z1 m1 mw h1⟩)
    refine absurd q (h1.f1 ?_)
    unfold rF
    rw [if_pos h0]
    exact (show (2 : Nat) ≠ 0 by decide)
end ML
end
section
/-! the reference's lines: watch, bike, thief -/
section M2
variable {f : Nat → Int32} {n : Nat} {m0 ms : A1} {mw : Nat → Int64} {ma : A2} {p : PS} {v : Rl}
theorem m_watchLine (hn : n ≤ 1600) (ha : ∀ i, i < n → ma 2 i = f i) (hv : okV v) (h : MS f n p m0 ms mw) (h0 : p.1 = 0) (h4 : R4 v ma) {post : A1 → (Nat → Int64) → A2 → Prop} (hf : v 7 0 = 1 → ∀ mt mw', MS f n (rF 2 p) m0 mt mw' → post mt mw' ma) (hp : v 7 0 = 0 → ∀ mt mw' mb, MS f n (lWatch f n (0, 0, adv f n p.2.2)).2.2 m0 mt mw' → F4 ma mb → R4 (aWatch v (lWatch f n (0, 0, adv f n p.2.2)).1 (lWatch f n (0, 0, adv f n p.2.2)).2.1) mb → post mt mw' mb) : P_X12_onceLine ms mw ma 1 post := by
  have h7 := ok7 hv
  obtain ⟨⟨a1, b1, c1, d1, e1, e2, e3, e4, e5, e6, e7⟩, hT, hP, hY, o1, o2⟩ := h4
  refine ⟨vp_in_nI (n := 9) (N := 10) (by decide) (by decide), fun z => ?_, fun z => ?_⟩
  · have z0 : v 7 0 = 0 := (nI_eq (b := 0) (by omega) (by decide)).mp (o2.symm.trans z)
    refine ⟨fun _ => m_nextT hn ha h h0 (fun m1 w1 h1 => ⟨vp_in_nI (n := 9) (N := 10) (by decide) (by decide), fun _ => ?_, fun q => absurd q (by decide)⟩), fun q => absurd (h.f0 h0) q⟩
    refine m_number_ (ma := va_up ma 15 (upd (ma 15) 9 1)) (w := [119, 97, 103, 101]) (lo := 0) (hi := 1000) hn ha h1 (by decide) (by decide) (by decide) (by decide) (fun m2 w2 h2 => m_number_ (ma := va_up (va_up ma 14 (upd (ma 14) 32 _)) 15 (upd (ma 15) 9 1)) (w := [97, 100, 100, 115]) (lo := 0) (hi := 100) hn ha h2 (by decide) (by decide) (by decide) (by decide) (fun m3 w3 h3 => ?_))
    refine hp z0 m3 w3 _ h3 (F4.up2 (by decide) (by decide) (fun x hx => ?_) (Or.inl rfl)) ⟨⟨a1, b1, c1, d1, e1, e2, e3, ?_, ?_, ?_, e7⟩, hT, hP, hY, ?_, ?_⟩
    · have : x < 28 := hx
      rw [u_ne (by omega), u_ne (by omega), u_ne (by omega)]
    · show upd (upd (upd (ma 14) 32 (nI (lWatch f n (0, 0, adv f n p.2.2)).1)) 33 (nI (lWatch f n (0, 0, adv f n p.2.2)).2.1)) 31 1 31 = nI 1
      rw [u_at]
      rfl
    · show upd (upd (upd (ma 14) 32 (nI (lWatch f n (0, 0, adv f n p.2.2)).1)) 33 (nI (lWatch f n (0, 0, adv f n p.2.2)).2.1)) 31 1 32 = nI (lWatch f n (0, 0, adv f n p.2.2)).1
      rw [u_ne (by decide), u_ne (by decide), u_at]
    · show upd (upd (upd (ma 14) 32 (nI (lWatch f n (0, 0, adv f n p.2.2)).1)) 33 (nI (lWatch f n (0, 0, adv f n p.2.2)).2.1)) 31 1 33 = nI (lWatch f n (0, 0, adv f n p.2.2)).2.1
      rw [u_ne (by decide), u_at]
    · show upd (ma 15) 9 1 8 = nI (v 3 0)
      rw [u_ne (by decide)]
      exact o1
    · show upd (ma 15) 9 1 9 = nI 1
      rw [u_at]
      rfl
  · have z1 : v 7 0 = 1 := by
      have : v 7 0 ≠ 0 := fun e => z (by show ma 15 9 = 0; rw [o2, e]; rfl)
      omega
    refine m_fails (c := 2) h (by decide) (by decide) (fun m1 h1 => ⟨fun q => ?_, fun _ => hf z1 m1 mw h1⟩)
    refine absurd q (h1.f1 ?_)
    unfold rF
    rw [if_pos h0]
    exact (show (2 : Nat) ≠ 0 by decide)
/-- a bike's five cells, behind those that are there -/
theorem R4.bike (h4 : R4 v ma) (h13 : v 13 0 < 10) (a b c d e : Nat) {y : Int32} (hy : y = nI e) : R4 (aBike v a b c d e) (va_up (va_up ma 10 (upd (ma 10) 4 (nI (v 13 0 + 1)))) 11 (upd (upd (upd (upd (upd (ma 11) (5 * (40 + v 13 0)) (nI a)) (5 * (40 + v 13 0) + 1) (nI b)) (5 * (40 + v 13 0) + 2) (nI c)) (5 * (40 + v 13 0) + 3) (nI d - 1)) (5 * (40 + v 13 0) + 4) y)) ∧ F4 ma (va_up (va_up ma 10 (upd (ma 10) 4 (nI (v 13 0 + 1)))) 11 (upd (upd (upd (upd (upd (ma 11) (5 * (40 + v 13 0)) (nI a)) (5 * (40 + v 13 0) + 1) (nI b)) (5 * (40 + v 13 0) + 2) (nI c)) (5 * (40 + v 13 0) + 3) (nI d - 1)) (5 * (40 + v 13 0) + 4) y)) := by
  subst hy
  obtain ⟨⟨⟨a1, a2, a3, a4, a5⟩, b1, c1, d1, e1⟩, hT, hP, hY, o1, o2⟩ := h4
  refine ⟨⟨⟨⟨a1, a2, a3, a4, ?_⟩, b1, c1, fun k hk => ?_, e1⟩, hT, hP, hY, o1, o2⟩, F4.up2 (by decide) (by decide) (fun x hx => u_ne ?_) (Or.inr (fun x hx => ?_))⟩
  · show upd (ma 10) 4 (nI (v 13 0 + 1)) 4 = nI (v 13 0 + 1)
    rw [u_at]
  · have hk' : k < v 13 0 + 1 := hk
    rw [up_at]
    show _ = nI (if k = v 13 0 then a else v 20 k) ∧ _ = nI (if k = v 13 0 then b else v 21 k) ∧ _ = nI (if k = v 13 0 then c else v 22 k) ∧ _ = nI (if k = v 13 0 then d else v 23 k) - 1 ∧ _ = nI (if k = v 13 0 then e else v 24 k)
    by_cases q : k = v 13 0
    · rw [q, if_pos rfl, if_pos rfl, if_pos rfl, if_pos rfl, if_pos rfl, show 5 * (10 * 4 + v 13 0) = 5 * (40 + v 13 0) by omega]
      refine ⟨?_, ?_, ?_, ?_, ?_⟩
      · rw [u_ne (by omega), u_ne (by omega), u_ne (by omega), u_ne (by omega), u_at]
      · rw [u_ne (by omega), u_ne (by omega), u_ne (by omega), u_at]
      · rw [u_ne (by omega), u_ne (by omega), u_at]
      · rw [u_ne (by omega), u_at]
      · rw [u_at]
    · rw [if_neg q, if_neg q, if_neg q, if_neg q, if_neg q]
      obtain ⟨g0, g1, g2, g3, g4⟩ := d1 k (by omega)
      refine ⟨?_, ?_, ?_, ?_, ?_⟩
      · rw [u_ne (by omega), u_ne (by omega), u_ne (by omega), u_ne (by omega), u_ne (by omega)]; exact g0
      · rw [u_ne (by omega), u_ne (by omega), u_ne (by omega), u_ne (by omega), u_ne (by omega)]; exact g1
      · rw [u_ne (by omega), u_ne (by omega), u_ne (by omega), u_ne (by omega), u_ne (by omega)]; exact g2
      · rw [u_ne (by omega), u_ne (by omega), u_ne (by omega), u_ne (by omega), u_ne (by omega)]; exact g3
      · rw [u_ne (by omega), u_ne (by omega), u_ne (by omega), u_ne (by omega), u_ne (by omega)]; exact g4
  · have : x < 4 := hx
    omega
  · have : x < 200 := hx
    rw [u_ne (by omega), u_ne (by omega), u_ne (by omega), u_ne (by omega), u_ne (by omega)]
/-- a thief's five cells -/
theorem R4.thief (h4 : R4 v ma) (h14 : v 14 0 < 6) (a b c d e : Nat) : R4 (aThief v a b c d e) (va_up (va_up ma 12 (upd (ma 12) 4 (nI (v 14 0 + 1)))) 13 (upd (upd (upd (upd (upd (ma 13) (5 * (24 + v 14 0)) (nI a)) (5 * (24 + v 14 0) + 1) (nI b)) (5 * (24 + v 14 0) + 2) (nI c)) (5 * (24 + v 14 0) + 3) (nI d)) (5 * (24 + v 14 0) + 4) (nI e - 1))) := by
  obtain ⟨hN, ⟨t1, t2⟩, hP, hY, o1, o2⟩ := h4
  refine ⟨hN, ⟨?_, fun k hk => ?_⟩, hP, hY, o1, o2⟩
  · show upd (ma 12) 4 (nI (v 14 0 + 1)) 4 = nI (v 14 0 + 1)
    rw [u_at]
  · have hk' : k < v 14 0 + 1 := hk
    rw [up_at]
    show _ = nI (if k = v 14 0 then a else v 25 k) ∧ _ = nI (if k = v 14 0 then b else v 26 k) ∧ _ = nI (if k = v 14 0 then c else v 27 k) ∧ _ = nI (if k = v 14 0 then d else v 28 k) ∧ _ = nI (if k = v 14 0 then e else v 29 k) - 1
    by_cases q : k = v 14 0
    · rw [q, if_pos rfl, if_pos rfl, if_pos rfl, if_pos rfl, if_pos rfl, show 5 * (6 * 4 + v 14 0) = 5 * (24 + v 14 0) by omega]
      refine ⟨?_, ?_, ?_, ?_, ?_⟩
      · rw [u_ne (by omega), u_ne (by omega), u_ne (by omega), u_ne (by omega), u_at]
      · rw [u_ne (by omega), u_ne (by omega), u_ne (by omega), u_at]
      · rw [u_ne (by omega), u_ne (by omega), u_at]
      · rw [u_ne (by omega), u_at]
      · rw [u_at]
    · rw [if_neg q, if_neg q, if_neg q, if_neg q, if_neg q]
      obtain ⟨g0, g1, g2, g3, g4⟩ := t2 k (by omega)
      refine ⟨?_, ?_, ?_, ?_, ?_⟩
      · rw [u_ne (by omega), u_ne (by omega), u_ne (by omega), u_ne (by omega), u_ne (by omega)]; exact g0
      · rw [u_ne (by omega), u_ne (by omega), u_ne (by omega), u_ne (by omega), u_ne (by omega)]; exact g1
      · rw [u_ne (by omega), u_ne (by omega), u_ne (by omega), u_ne (by omega), u_ne (by omega)]; exact g2
      · rw [u_ne (by omega), u_ne (by omega), u_ne (by omega), u_ne (by omega), u_ne (by omega)]; exact g3
      · rw [u_ne (by omega), u_ne (by omega), u_ne (by omega), u_ne (by omega), u_ne (by omega)]; exact g4
theorem F4.thief {y z z' : Int32} {a b c : Int32} : F4 ma (va_up (va_up ma 12 (upd (ma 12) 4 z)) 13 (upd (upd (upd (upd (upd (ma 13) (5 * (24 + v 14 0)) a) (5 * (24 + v 14 0) + 1) b) (5 * (24 + v 14 0) + 2) c) (5 * (24 + v 14 0) + 3) y) (5 * (24 + v 14 0) + 4) z')) := by
  refine F4.up2 (by decide) (by decide) (fun x hx => u_ne ?_) (Or.inr (fun x hx => ?_))
  · have : x < 4 := hx
    omega
  · have : x < 120 := hx
    rw [u_ne (by omega), u_ne (by omega), u_ne (by omega), u_ne (by omega), u_ne (by omega)]
end M2
end
