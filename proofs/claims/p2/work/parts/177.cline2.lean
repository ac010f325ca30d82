/-! any line of the class -/
section CY
variable {f : Nat → Int32} {n : Nat} {us : A1} {ua : A2} {p : PS} {rs : A1} {ra : A2} {v : Rl}
theorem c_readLine (hn : n ≤ 1600) (ha : ∀ i, i < n → ua 0 i = f i) (hv : okV v) (h : CS f n p us) (h0 : p.1 = 0) (hC : RelC v rs ra) {post : A1 → A1 → A2 → Prop} (hp : ∀ us' rs' ra', CS f n (rS f n (lLine f n v p).2) us' → BOK ra' → ((rS f n (lLine f n v p).2).1 = 0 → RelC (aLine (lLine f n v p).1) rs' ra') → post us' rs' ra') : P_X5_readLine us ua rs ra post := by
  have h2 := ok2 hv
  have h11 : v 11 0 ≤ 5 := hv.1.2.2.2.2.2.2.2.2.2.2.2.1
  have h12 := ok12 hv
  have h13 := ok13 hv
  have h14 := ok14 hv
  have h3 : v 3 0 ≤ 1 := hv.1.2.2.2.1
  have h7 := ok7 hv
  by_cases z : v 2 0 = 0
  · have e : lLine f n v p = (aRail v (lRail f n p).1 (lRail f n p).2.1, (lRail f n p).2.2) := by unfold lLine; rw [if_pos z]
    rw [e] at hp
    refine ⟨fun q => absurd (by rw [rc_s hC 2, z]; rfl) q, fun _ => c_readRail hn ha hv h hC (fun us' rs' a c => c_line260 hn ha a hC.bok (fun _ => c) hp)⟩
  · refine ⟨fun _ => ?_, fun q => absurd ((nI_eq (b := 0) (by omega) (by decide)).mp ((rc_s hC 2).symm.trans q)) z⟩
    refine c_isWordT hn ha h h0 (w := [108, 97, 109, 112]) (by decide) (fun t => b1f ?_) (fun t0 => b0f ?_)
    · have e : lLine f n v p = lampL f n v (hd f n (decide (v 11 0 < 4)) 3 p) := by unfold lLine; rw [if_neg z, if_pos t]
      rw [e] at hp
      rw [rc_s hC 11, show ((4 : Int32) ≤ nI (v 11 0)) = (nI 4 ≤ nI (v 11 0)) from rfl, nI_leI (by decide) (by omega)]
      refine ⟨fun q => ?_, fun q => ?_⟩
      · rw [show decide (v 11 0 < 4) = false from decide_eq_false (by omega)] at hp
        exact c_lampF hn ha hv h h0 hC hp
      · rw [show decide (v 11 0 < 4) = true from decide_eq_true (by omega)] at hp
        exact c_lampT hn ha hv h h0 hC (by omega) hp
    refine c_isWordT hn ha h h0 (w := [108, 111, 99, 107]) (by decide) (fun t => b1f ?_) (fun t1 => b0f ?_)
    · have e : lLine f n v p = lockL f n v (hd f n (decide (v 12 0 < 5)) 3 p) := by unfold lLine; rw [if_neg z, if_neg t0, if_pos t]
      rw [e] at hp
      rw [rc_s hC 12, show ((5 : Int32) ≤ nI (v 12 0)) = (nI 5 ≤ nI (v 12 0)) from rfl, nI_leI (by decide) (by omega)]
      refine ⟨fun q => ?_, fun q => ?_⟩
      · rw [show decide (v 12 0 < 5) = false from decide_eq_false (by omega)] at hp
        exact c_lockF hn ha hv h h0 hC hp
      · rw [show decide (v 12 0 < 5) = true from decide_eq_true (by omega)] at hp
        exact c_lockT hn ha hv h h0 hC (by omega) hp
    refine c_isWordT hn ha h h0 (w := [98, 105, 107, 101]) (by decide) (fun t => b1f ?_) (fun t2 => b0f ?_)
    · have e : lLine f n v p = bikeL f n v (hd f n (decide (v 13 0 < 10)) 3 p) := by unfold lLine; rw [if_neg z, if_neg t0, if_neg t1, if_pos t]
      rw [e] at hp
      rw [rc_s hC 13, show ((10 : Int32) ≤ nI (v 13 0)) = (nI 10 ≤ nI (v 13 0)) from rfl, nI_leI (by decide) (by omega)]
      refine ⟨fun q => ?_, fun q => ?_⟩
      · rw [show decide (v 13 0 < 10) = false from decide_eq_false (by omega)] at hp
        exact c_bikeF hn ha hv h h0 hC hp
      · rw [show decide (v 13 0 < 10) = true from decide_eq_true (by omega)] at hp
        exact c_bikeT hn ha hv h h0 hC (by omega) hp
    refine c_isWordT hn ha h h0 (w := [116, 104, 105, 101, 102]) (by decide) (fun t => b1f ?_) (fun t3 => b0f ?_)
    · have e : lLine f n v p = thiefL f n v (hd f n (decide (v 14 0 < 6)) 3 p) := by unfold lLine; rw [if_neg z, if_neg t0, if_neg t1, if_neg t2, if_pos t]
      rw [e] at hp
      rw [rc_s hC 14, show ((6 : Int32) ≤ nI (v 14 0)) = (nI 6 ≤ nI (v 14 0)) from rfl, nI_leI (by decide) (by omega)]
      refine ⟨fun q => ?_, fun q => ?_⟩
      · rw [show decide (v 14 0 < 6) = false from decide_eq_false (by omega)] at hp
        exact c_thiefF hn ha hv h h0 hC hp
      · rw [show decide (v 14 0 < 6) = true from decide_eq_true (by omega)] at hp
        exact c_thiefT hn ha hv h h0 hC (by omega) hp
    refine c_isWordT hn ha h h0 (w := [109, 97, 114, 107]) (by decide) (fun t => b1f ?_) (fun t4 => b0f ?_)
    · have e : lLine f n v p = markL f n v (hd f n (decide (v 3 0 = 0)) 2 p) := by unfold lLine; rw [if_neg z, if_neg t0, if_neg t1, if_neg t2, if_neg t3, if_pos t]
      rw [e] at hp
      rw [rc_s hC 3, show (nI (v 3 0) = (0 : Int32)) = (nI (v 3 0) = nI 0) from rfl, nI_eq (by omega) (by decide)]
      refine ⟨fun q => ?_, fun q => ?_⟩
      · rw [show decide (v 3 0 = 0) = false from decide_eq_false (by omega)] at hp
        exact c_markF hn ha hv h h0 hC hp
      · rw [show decide (v 3 0 = 0) = true from decide_eq_true (by omega)] at hp
        exact c_markT hn ha hv h h0 hC hp
    refine c_isWordT hn ha h h0 (w := [119, 97, 116, 99, 104]) (by decide) (fun t => b1f ?_) (fun t5 => b0f ?_)
    · have e : lLine f n v p = watchL f n v (hd f n (decide (v 7 0 = 0)) 2 p) := by unfold lLine; rw [if_neg z, if_neg t0, if_neg t1, if_neg t2, if_neg t3, if_neg t4, if_pos t]
      rw [e] at hp
      rw [rc_s hC 7, show (nI (v 7 0) = (0 : Int32)) = (nI (v 7 0) = nI 0) from rfl, nI_eq (by omega) (by decide)]
      refine ⟨fun q => ?_, fun q => ?_⟩
      · rw [show decide (v 7 0 = 0) = false from decide_eq_false (by omega)] at hp
        exact c_watchF hn ha hv h h0 hC hp
      · rw [show decide (v 7 0 = 0) = true from decide_eq_true (by omega)] at hp
        exact c_watchT hn ha hv h h0 hC hp
    have e : lLine f n v p = (v, rF 1 p) := by unfold lLine; rw [if_neg z, if_neg t0, if_neg t1, if_neg t2, if_neg t3, if_neg t4, if_neg t5]
    rw [e] at hp
    exact c_fail (c := 1) h (by decide) (by decide) (fun us' h' => c_line260 hn ha h' hC.bok (fun _ => hC) hp)
end CY
