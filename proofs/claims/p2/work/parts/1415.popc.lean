/-! how many bits -/
def popc (x : Nat) : Nat := sumN (fun j => if x.testBit j then 1 else 0) 11
theorem bc_dec : ∀ x, x < 2048 → ((fun p1 : Int32 => (fun x1 : Int32 => (fun x2 : Int32 => (fun x3 : Int32 => (fun x4 : Int32 => (fun x5 : Int32 => x5 &&& 63) (x4 + (x4.toUInt32 >>> ((16 : Int32).toUInt32 &&& Int32.toUInt32 31)).toInt32)) (x3 + (x3.toUInt32 >>> ((8 : Int32).toUInt32 &&& Int32.toUInt32 31)).toInt32)) ((x2 + (x2.toUInt32 >>> ((4 : Int32).toUInt32 &&& Int32.toUInt32 31)).toInt32) &&& 252645135)) ((x1 &&& 858993459) + ((x1.toUInt32 >>> ((2 : Int32).toUInt32 &&& Int32.toUInt32 31)).toInt32 &&& 858993459))) (p1 - ((p1.toUInt32 >>> ((1 : Int32).toUInt32 &&& Int32.toUInt32 31)).toInt32 &&& 1431655765))) (nI x)) = nI (popc x) := by decide +kernel
theorem c_bitCount {x : Nat} (hx : x < 2048) {post : Int32 → Prop} (h : post (nI (popc x))) : P_J6_bitCount_0f7a4 (nI x) post := by
  have := bc_dec x hx
  intro x1 h1 x2 h2 x3 h3 x4 h4 x5 h5
  subst h1 h2 h3 h4 h5
  rw [← this] at h
  exact h
theorem pc_dec : ∀ x, x < 1024 → x ≠ 0 → popc (x &&& (x - 1)) + 1 = popc x ∧ x &&& (x - 1) < x := by decide +kernel
theorem m_sizeOf {x : Nat} (hx : x < 1024) {post : Int32 → Prop} (h : post (nI (popc x))) : P_X12_sizeOf (nI x) post := by
  have L : ∀ (k y c : Nat), y ≤ k → y < 1024 → c + popc y = popc x → P_X12_sizeOf_4 (nI x) post (k + 1) (nI c) (nI y) := by
    intro k
    induction k with
    | zero =>
      intro y c hy _ he
      obtain rfl : y = 0 := by omega
      have : popc 0 = 0 := by decide
      rw [this, Nat.add_zero] at he
      exact ⟨fun _ => by rw [he]; exact h, fun z => absurd rfl z⟩
    | succ k ih =>
      intro y c hy hlt he
      refine ⟨fun z => ?_, fun z => ?_⟩
      · have y0 : y = 0 := (nI_eq (b := 0) (by omega) (by decide)).mp z
        have : popc 0 = 0 := by decide
        rw [y0, this, Nat.add_zero] at he
        rw [he]; exact h
      · have y0 : y ≠ 0 := fun q => z (by rw [q]; rfl)
        obtain ⟨d1, d2⟩ := pc_dec y hlt y0
        rw [show nI y - 1 = nI (y - 1) from nI_pre (by omega), fa_and, nI_1]
        intro w hw
        subst hw
        exact ih _ _ (by omega) (by omega) (by omega)
  exact ⟨x + 1, L x x 0 (Nat.le_refl _) hx (by omega)⟩
