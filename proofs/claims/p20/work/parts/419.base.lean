/-! The base of my own rows: a world is a list of regions (each a list of cells); contracts over worlds; calls and returns over them. -/
/-- the array classes: int, long, byte, boolean, Rail -/
abbrev cTys (C : Nat → ClassId) : List (ClassId × FieldType) := [(C 0, .int), (C 1, .long), (C 2, .byte), (C 3, .boolean), (C 4, .object "LockRail$Rail")]
theorem ra_P_mem {D : va_G} {cl : List vw_C} {ws : va_W} {H : Heap} : va_P D cl ws H ↔ ∀ q ∈ ws, va_at D cl q H := by
  constructor
  · intro h q hq
    obtain ⟨k, hk⟩ := List.mem_iff_getElem?.mp hq
    exact h k q hk
  · intro h k q hk
    exact h q (List.mem_of_getElem? hk)
theorem ra_nd {l : List Nat} : l.Nodup ↔ ∀ (i j x : Nat), l[i]? = some x → l[j]? = some x → i = j := by
  unfold List.Nodup
  rw [List.pairwise_iff_getElem]
  constructor
  · intro h i j x hi hj
    obtain ⟨li, ei⟩ := List.getElem?_eq_some_iff.mp hi
    obtain ⟨lj, ej⟩ := List.getElem?_eq_some_iff.mp hj
    rcases Nat.lt_trichotomy i j with q | q | q
    · exact absurd (ei.trans ej.symm) (h i j li lj q)
    · exact q
    · exact absurd (ej.trans ei.symm) (h j i lj li q)
  · intro h i j li lj hij e
    have := h i j l[i] (List.getElem?_eq_getElem li) (by rw [e]; exact List.getElem?_eq_getElem lj)
    omega
theorem ra_D_mem {A : Nat → Prop} {ws : va_W} : va_D A ws ↔ (ws.map Prod.fst).Nodup ∧ ∀ q ∈ ws, A q.1 := by
  rw [ra_nd]
  constructor
  · intro ⟨h1, h2⟩
    refine ⟨fun i j x hi hj => ?_, fun q hq => ?_⟩
    · rw [List.getElem?_map] at hi hj
      cases hp : ws[i]? with
      | none => rw [hp] at hi; simp at hi
      | some p =>
        cases hq : ws[j]? with
        | none => rw [hq] at hj; simp at hj
        | some q =>
          rw [hp] at hi
          rw [hq] at hj
          exact h1 i j p q hp hq (by simp at hi hj; rw [hi, hj])
    · obtain ⟨k, hk⟩ := List.mem_iff_getElem?.mp hq
      exact h2 k q hk
  · intro ⟨h1, h2⟩
    refine ⟨fun i j p q hi hj he => ?_, fun k q hk => h2 q (List.mem_of_getElem? hk)⟩
    exact h1 i j p.1 (by rw [List.getElem?_map, hi]; rfl) (by rw [List.getElem?_map, hj, he]; rfl)
/-- two regions apart -/
def rg_ap (a b : va_W) : Prop := ∀ p ∈ a, ∀ q ∈ b, p.1 ≠ q.1
theorem rg_D_cons {A : Nat → Prop} {a : va_W} {L : List va_W} : va_D A (List.flatten (a :: L)) ↔ va_D A a ∧ va_D A L.flatten ∧ ∀ b ∈ L, rg_ap a b := by
  rw [ra_D_mem, ra_D_mem, ra_D_mem, List.flatten_cons, List.map_append, List.nodup_append]
  constructor
  · intro ⟨⟨h1, h2, h3⟩, h4⟩
    refine ⟨⟨h1, fun q hq => h4 q (List.mem_append_left _ hq)⟩, ⟨h2, fun q hq => h4 q (List.mem_append_right _ hq)⟩, fun b hb p hp q hq => ?_⟩
    exact h3 p.1 (List.mem_map_of_mem hp) q.1 (List.mem_map_of_mem (List.mem_flatten.mpr ⟨b, hb, hq⟩))
  · intro ⟨⟨h1, h2⟩, ⟨h3, h4⟩, h5⟩
    refine ⟨⟨h1, h3, fun x hx y hy => ?_⟩, fun q hq => ?_⟩
    · obtain ⟨p, hp, rfl⟩ := List.mem_map.mp hx
      obtain ⟨q, hq, rfl⟩ := List.mem_map.mp hy
      obtain ⟨b, hb, hqb⟩ := List.mem_flatten.mp hq
      exact h5 b hb p hp q hqb
    · rcases List.mem_append.mp hq with h | h
      · exact h2 q h
      · exact h4 q h
theorem rg_D {A : Nat → Prop} {L : List va_W} : va_D A L.flatten ↔ (∀ a ∈ L, va_D A a) ∧ L.Pairwise rg_ap := by
  induction L with
  | nil =>
    constructor
    · intro _; exact ⟨fun a h => by simp at h, List.Pairwise.nil⟩
    · intro _; exact ra_D_mem.mpr ⟨by simp, fun q h => by simp at h⟩
  | cons a L ih =>
    rw [rg_D_cons, ih, List.pairwise_cons]
    constructor
    · intro ⟨h1, ⟨h2, h3⟩, h4⟩
      exact ⟨fun b hb => (List.mem_cons.mp hb).elim (fun e => e ▸ h1) (h2 b), h4, h3⟩
    · intro ⟨h1, h2, h3⟩
      exact ⟨h1 a List.mem_cons_self, ⟨fun b hb => h1 b (List.mem_cons_of_mem _ hb), h3⟩, h2⟩
theorem rg_ap.symm {a b : va_W} (h : rg_ap a b) : rg_ap b a := fun p hp q hq e => h q hq p hp e.symm
theorem rg_apart {A : Nat → Prop} {L : List va_W} (h : va_D A L.flatten) {i j : Nat} (hij : i ≠ j) {a b : va_W} (hi : L[i]? = some a) (hj : L[j]? = some b) : rg_ap a b := by
  have hp := (rg_D.mp h).2
  rw [List.pairwise_iff_getElem] at hp
  obtain ⟨li, rfl⟩ := List.getElem?_eq_some_iff.mp hi
  obtain ⟨lj, rfl⟩ := List.getElem?_eq_some_iff.mp hj
  rcases Nat.lt_or_gt_of_ne hij with h1 | h1
  · exact hp i j li lj h1
  · exact (hp j i lj li h1).symm
theorem rg_nd {is : List Nat} (h : va_nd is = true) : is.Nodup := by
  induction is with
  | nil => exact List.nodup_nil
  | cons a l ih =>
    simp only [va_nd, Bool.and_eq_true] at h
    rw [List.nodup_cons]
    exact ⟨by simpa using h.1, ih h.2⟩
theorem rg_at {L rc : List va_W} {is : List Nat} (hs : is.map (fun i => L[i]?) = rc.map some) {k : Nat} {a : va_W} (hk : rc[k]? = some a) : ∃ i, is[k]? = some i ∧ L[i]? = some a := by
  have h : (is.map (fun i => L[i]?))[k]? = some (some a) := by rw [hs, List.getElem?_map, hk]; rfl
  rw [List.getElem?_map] at h
  cases hi : is[k]? with
  | none => rw [hi] at h; simp at h
  | some i => rw [hi] at h; exact ⟨i, rfl, by simpa using h⟩
theorem rg_mem {L rc : List va_W} {is : List Nat} (hs : is.map (fun i => L[i]?) = rc.map some) {a : va_W} (ha : a ∈ rc) : ∃ i ∈ is, L[i]? = some a := by
  obtain ⟨k, hk⟩ := List.mem_iff_getElem?.mp ha
  obtain ⟨i, hi, h⟩ := rg_at hs hk
  exact ⟨i, List.mem_of_getElem? hi, h⟩
/-- some regions of a world -/
theorem rg_subP {D : va_G} {cl : List vw_C} {L rc : List va_W} {H : Heap} (h : va_P D cl L.flatten H) (is : List Nat) (hs : is.map (fun i => L[i]?) = rc.map some) : va_P D cl rc.flatten H := by
  rw [ra_P_mem] at h ⊢
  intro q hq
  obtain ⟨a, ha, hqa⟩ := List.mem_flatten.mp hq
  obtain ⟨i, -, hi⟩ := rg_mem hs ha
  exact h q (List.mem_flatten.mpr ⟨a, List.mem_of_getElem? hi, hqa⟩)
theorem rg_subD {A : Nat → Prop} {L rc : List va_W} (h : va_D A L.flatten) (is : List Nat) (hn : va_nd is = true) (hs : is.map (fun i => L[i]?) = rc.map some) : va_D A rc.flatten := by
  refine rg_D.mpr ⟨fun a ha => ?_, ?_⟩
  · obtain ⟨i, -, hi⟩ := rg_mem hs ha
    exact (rg_D.mp h).1 a (List.mem_of_getElem? hi)
  · rw [List.pairwise_iff_getElem]
    intro i j hi hj hij
    obtain ⟨x, hx, hx2⟩ := rg_at hs (List.getElem?_eq_getElem hi)
    obtain ⟨y, hy, hy2⟩ := rg_at hs (List.getElem?_eq_getElem hj)
    refine rg_apart h ?_ hx2 hy2
    intro e
    have := ra_nd.mp (rg_nd hn) i j x hx (by rw [e]; exact hy)
    omega
theorem rg_A {ws : va_W} {sz q : Nat} : va_A ws sz q ↔ (∃ e, (q, e) ∈ ws) ∨ sz ≤ q := by
  constructor
  · rintro (⟨k, e, h⟩ | h)
    · exact Or.inl ⟨e, List.mem_of_getElem? h⟩
    · exact Or.inr h
  · rintro (⟨e, h⟩ | h)
    · obtain ⟨k, hk⟩ := List.mem_iff_getElem?.mp h
      exact Or.inl ⟨k, e, hk⟩
    · exact Or.inr h
theorem rg_lt {D : va_G} {cl : List vw_C} {q : Nat × va_E} {H : Heap} (h : va_at D cl q H) : q.1 < H.size := by
  obtain ⟨a, e⟩ := q
  cases e with
  | inl x => exact (Array.getElem?_eq_some_iff.mp (show H[a]? = _ from h)).1
  | inr x =>
    obtain ⟨r, -, cell, h1, -⟩ := h
    exact (Array.getElem?_eq_some_iff.mp h1).1
theorem rg_same {D : va_G} {cl : List vw_C} {q : Nat × va_E} {H H1 : Heap} (h : va_at D cl q H) (e : H1[q.1]? = H[q.1]?) : va_at D cl q H1 := by
  obtain ⟨a, x⟩ := q
  cases x with
  | inl x => exact (show H1[a]? = _ from e.trans h)
  | inr x =>
    obtain ⟨r, h0, cell, h1, h2⟩ := h
    exact ⟨r, h0, cell, e.trans h1, h2⟩
theorem rg_free {A : Nat → Prop} {L rc : List va_W} {H0 H : Heap} {locs : List Loc} (hD : va_D A L.flatten) (hS : va_S A H0 H locs) (hA : ∀ q, H0.size ≤ q → A q) (is : List Nat) (hs : is.map (fun i => L[i]?) = rc.map some) : ∀ q, va_A rc.flatten H.size q → A q := by
  intro q h
  rcases rg_A.mp h with ⟨e, h⟩ | h
  · obtain ⟨a, ha, hqa⟩ := List.mem_flatten.mp h
    obtain ⟨i, -, hi⟩ := rg_mem hs ha
    exact ((ra_D_mem.mp ((rg_D.mp hD).1 a (List.mem_of_getElem? hi))).2 _ hqa : A q)
  · exact hA q (Nat.le_trans hS.1 h)
/-- behind a call: the caller's other regions stay, the callee's come back -/
theorem rg_join {A : Nat → Prop} {D : va_G} {cl : List vw_C} {L rc rr w1 wo : List va_W} {H H1 : Heap} (hP : va_P D cl L.flatten H) (hD : va_D A L.flatten) (ic ir io : List Nat) (hc : ic.map (fun i => L[i]?) = rc.map some) (hr : ir.map (fun i => L[i]?) = rr.map some) (hn : va_nd ir = true) (hdis : ∀ i ∈ ir, i ∉ ic) (ho : io.map (fun i => (rr ++ w1)[i]?) = wo.map some) (hno : va_nd io = true)
    (hk : ∀ q : Nat, q < H.size → ¬ va_A rc.flatten H.size q → H1[q]? = H[q]?) (hF : ∀ q, va_A rc.flatten H.size q → A q) (hP1 : va_P D cl w1.flatten H1) (hD1 : va_D (va_A rc.flatten H.size) w1.flatten) : va_P D cl wo.flatten H1 ∧ va_D A wo.flatten := by
  have hPr := ra_P_mem.mp (rg_subP hP ir hr)
  have hDr := rg_subD hD ir hn hr
  have hap : ∀ (p : Nat × va_E), p ∈ rr.flatten → ¬ va_A rc.flatten H.size p.1 := by
    intro p hp h
    rcases rg_A.mp h with ⟨e, h⟩ | h
    · obtain ⟨a, ha, hpa⟩ := List.mem_flatten.mp hp
      obtain ⟨b, hb, hqb⟩ := List.mem_flatten.mp h
      obtain ⟨i, hi, hi2⟩ := rg_mem hr ha
      obtain ⟨j, hj, hj2⟩ := rg_mem hc hb
      exact rg_apart hD (i := i) (j := j) (fun e => hdis i hi (by rw [e]; exact hj)) hi2 hj2 p hpa _ hqb rfl
    · exact absurd (rg_lt (hPr p hp)) (Nat.not_lt.mpr h)
  have hPall : va_P D cl (rr ++ w1).flatten H1 := by
    rw [ra_P_mem, List.flatten_append]
    intro q hq
    rcases List.mem_append.mp hq with h | h
    · exact rg_same (hPr q h) (hk q.1 (rg_lt (hPr q h)) (hap q h))
    · exact ra_P_mem.mp hP1 q h
  have hDall : va_D A (rr ++ w1).flatten := by
    rw [ra_D_mem, List.flatten_append, List.map_append, List.nodup_append]
    have h1 := ra_D_mem.mp hDr
    have h2 := ra_D_mem.mp hD1
    refine ⟨⟨h1.1, h2.1, fun x hx y hy e => ?_⟩, fun q hq => ?_⟩
    · obtain ⟨p, hp, rfl⟩ := List.mem_map.mp hx
      obtain ⟨q, hq, rfl⟩ := List.mem_map.mp hy
      exact hap p hp (by rw [e]; exact h2.2 q hq)
    · rcases List.mem_append.mp hq with h | h
      · exact h1.2 q h
      · exact hF _ (h2.2 q h)
  exact ⟨rg_subP hPall io ho, rg_subD hDall io hno ho⟩
def nfL : List (String × Nat × String × String × String) := [("LockRail", 59, "LockRail$Tape", "length", "I"), ("LockRail$Reader", 217, "LockRail$Tape", "spot", "I"), ("LockRail$Reader", 33, "LockRail$Tape", "kind", "I"), ("LockRail$Reader", 168, "LockRail$Tape", "number", "I"), ("LockRail", 55, "LockRail$Reader", "tape", "LLockRail$Tape;"), ("LockRail", 80, "LockRail$Reader", "fault", "I"), ("LockRail", 83, "LockRail$Reader", "faultAt", "I"), ("LockRail$Rail", 56, "LockRail$Lamps", "count", "I"), ("LockRail$Reader", 56, "LockRail$Lamps", "count", "I"), ("LockRail", 378, "LockRail$Lamps", "count", "I"), ("LockRail$Rail", 118, "LockRail$Lamps", "place", "[I"), ("LockRail$Rail", 114, "LockRail$Lamps", "bright", "[I"), ("LockRail$Rail", 59, "LockRail$Locks", "count", "I"), ("LockRail$Reader", 74, "LockRail$Locks", "count", "I"), ("LockRail", 310, "LockRail$Locks", "count", "I"), ("LockRail$Rail", 150, "LockRail$Locks", "price", "[I"), ("LockRail$Rail", 134, "LockRail$Locks", "cuts", "[I"), ("LockRail$Rail", 60, "LockRail$Bikes", "count", "I"), ("LockRail$Night", 51, "LockRail$Bikes", "count", "I"), ("LockRail$Reader", 86, "LockRail$Bikes", "count", "I"), ("LockRail", 161, "LockRail$Bikes", "count", "I"), ("LockRail", 101, "LockRail$Bikes", "worth", "[I"), ("LockRail$Rail", 162, "LockRail$Bikes", "worth", "[I"), ("LockRail$Night", 173, "LockRail$Bikes", "worth", "[I"), ("LockRail", 107, "LockRail$Bikes", "seems", "[I"), ("LockRail$Rail", 143, "LockRail$Bikes", "seems", "[I"), ("LockRail$Night", 64, "LockRail$Bikes", "place", "[I"), ("LockRail", 110, "LockRail$Bikes", "place", "[I"), ("LockRail", 113, "LockRail$Bikes", "lock", "[I"), ("LockRail$Rail", 131, "LockRail$Bikes", "lock", "[I"), ("LockRail", 116, "LockRail$Bikes", "marked", "[Z"), ("LockRail$Rail", 146, "LockRail$Bikes", "marked", "[Z"), ("LockRail$Rail", 61, "LockRail$Thieves", "count", "I"), ("LockRail$Night", 79, "LockRail$Thieves", "count", "I"), ("LockRail$Reader", 98, "LockRail$Thieves", "count", "I"), ("LockRail", 283, "LockRail$Thieves", "count", "I"), ("LockRail$Rail", 137, "LockRail$Thieves", "tool", "[I"), ("LockRail$Night", 107, "LockRail$Thieves", "comes", "[I"), ("LockRail$Rail", 140, "LockRail$Thieves", "fears", "[I"), ("LockRail$Night", 86, "LockRail$Thieves", "kind", "[I"), ("LockRail$Night", 93, "LockRail$Thieves", "just", "[I"), ("LockRail$Rail", 87, "LockRail$Year", "isThere", "Z"), ("LockRail", 357, "LockRail$Year", "isThere", "Z"), ("LockRail$Rail", 159, "LockRail$Year", "taken", "[I"), ("LockRail$Night", 204, "LockRail$Year", "taken", "[I"), ("LockRail", 360, "LockRail$Year", "taken", "[I"), ("LockRail$Night", 207, "LockRail$Year", "took", "[I"), ("LockRail", 363, "LockRail$Year", "took", "[I"), ("LockRail$Reader", 143, "LockRail$Rail", "places", "I"), ("LockRail", 232, "LockRail$Rail", "places", "I"), ("LockRail$Reader", 147, "LockRail$Rail", "nights", "I"), ("LockRail$Night", 154, "LockRail$Rail", "nights", "I"), ("LockRail", 338, "LockRail$Rail", "nights", "I"), ("LockRail$Reader", 40, "LockRail$Rail", "lines", "I"), ("LockRail", 77, "LockRail$Rail", "lines", "I"), ("LockRail$Reader", 52, "LockRail$Rail", "lamps", "LLockRail$Lamps;"), ("LockRail", 374, "LockRail$Rail", "lamps", "LLockRail$Lamps;"), ("LockRail$Reader", 70, "LockRail$Rail", "locks", "LLockRail$Locks;"), ("LockRail", 306, "LockRail$Rail", "locks", "LLockRail$Locks;"), ("LockRail$Night", 45, "LockRail$Rail", "bikes", "LLockRail$Bikes;"), ("LockRail$Reader", 82, "LockRail$Rail", "bikes", "LLockRail$Bikes;"), ("LockRail", 97, "LockRail$Rail", "bikes", "LLockRail$Bikes;"), ("LockRail$Night", 75, "LockRail$Rail", "thieves", "LLockRail$Thieves;"), ("LockRail$Reader", 94, "LockRail$Rail", "thieves", "LLockRail$Thieves;"), ("LockRail", 279, "LockRail$Rail", "thieves", "LLockRail$Thieves;"), ("LockRail$Reader", 106, "LockRail$Rail", "markTold", "Z"), ("LockRail$Reader", 198, "LockRail$Rail", "markPrice", "I"), ("LockRail$Reader", 203, "LockRail$Rail", "known", "I"), ("LockRail$Reader", 207, "LockRail$Rail", "hidden", "Z"), ("LockRail$Reader", 115, "LockRail$Rail", "watchTold", "Z"), ("LockRail", 241, "LockRail$Rail", "watchTold", "Z"), ("LockRail$Reader", 211, "LockRail$Rail", "wage", "I"), ("LockRail$Reader", 215, "LockRail$Rail", "adds", "I"), ("LockRail", 245, "LockRail$Rail", "watched", "Z"), ("LockRail", 325, "LockRail$Rail", "year", "LLockRail$Year;"), ("LockRail$Night", 123, "LockRail$Spread", "size", "I"), ("LockRail$Night", 126, "LockRail$Spread", "states", "[I"), ("LockRail$Night", 129, "LockRail$Spread", "parts", "[J")]
def nmL : List (String × Nat × MethodName) := [("LockRail", 9, ⟨"LockRail$Reader", "<init>", "()V"⟩), ("LockRail$Reader", 11, ⟨"LockRail$Tape", "<init>", "()V"⟩), ("LockRail", 18, ⟨"LockRail$Rail", "<init>", "()V"⟩), ("LockRail$Rail", 11, ⟨"LockRail$Lamps", "<init>", "()V"⟩), ("LockRail$Rail", 20, ⟨"LockRail$Locks", "<init>", "()V"⟩), ("LockRail$Rail", 27, ⟨"LockRail$Bikes", "<init>", "()V"⟩), ("LockRail$Rail", 34, ⟨"LockRail$Thieves", "<init>", "()V"⟩), ("LockRail$Rail", 41, ⟨"LockRail$Year", "<init>", "()V"⟩), ("LockRail", 32, ⟨"LockRail$Slots", "<init>", "()V"⟩), ("LockRail", 39, ⟨"LockRail$Night", "<init>", "()V"⟩), ("LockRail$Night", 33, ⟨"LockRail$Spread", "<init>", "()V"⟩), ("LockRail", 46, ⟨"LockRail$Year", "<init>", "()V"⟩), ("LockRail", 65, ⟨"LockRail$Tape", "append", "(I)V"⟩), ("LockRail", 69, ⟨"LockRail$Reader", "readInto", "(LLockRail$Rail;)Z"⟩), ("LockRail$Reader", 25, ⟨"LockRail$Rail", "wipe", "()V"⟩), ("LockRail$Reader", 30, ⟨"LockRail$Tape", "rewind", "()V"⟩), ("LockRail$Reader", 48, ⟨"LockRail$Tape", "isWord", "(Ljava/lang/String;)Z"⟩), ("LockRail$Reader", 128, ⟨"LockRail$Tape", "step", "()V"⟩), ("LockRail$Reader", 153, ⟨"LockRail$Lamps", "add", "(II)V"⟩), ("LockRail$Reader", 161, ⟨"LockRail$Locks", "add", "(IIII)V"⟩), ("LockRail$Reader", 171, ⟨"LockRail$Bikes", "standingAt", "(I)I"⟩), ("LockRail$Reader", 180, ⟨"LockRail$Bikes", "add", "(IIIIZ)V"⟩), ("LockRail$Reader", 195, ⟨"LockRail$Thieves", "add", "(IIIII)V"⟩), ("LockRail", 73, ⟨"LockRail$Rail", "copyFrom", "(LLockRail$Rail;)V"⟩), ("LockRail$Rail", 90, ⟨"LockRail$Lamps", "copyFrom", "(LLockRail$Lamps;)V"⟩), ("LockRail$Rail", 94, ⟨"LockRail$Locks", "copyFrom", "(LLockRail$Locks;)V"⟩), ("LockRail$Rail", 97, ⟨"LockRail$Bikes", "copyFrom", "(LLockRail$Bikes;)V"⟩), ("LockRail$Rail", 100, ⟨"LockRail$Thieves", "copyFrom", "(LLockRail$Thieves;)V"⟩), ("LockRail$Rail", 103, ⟨"LockRail$Year", "copyFrom", "(LLockRail$Year;)V"⟩), ("LockRail", 86, ⟨"LockRail$Rail", "hasPlace", "(I)Z"⟩), ("LockRail", 90, ⟨"LockRail$Rail", "lightOf", "(I)I"⟩), ("LockRail", 94, ⟨"LockRail$Rail", "hasBike", "(I)Z"⟩), ("LockRail", 120, ⟨"LockRail$Rail", "hasThief", "(I)Z"⟩), ("LockRail", 123, ⟨"LockRail$Rail", "troubleOf", "(III)I"⟩), ("LockRail", 127, ⟨"LockRail$Bikes", "markedOnes", "()I"⟩), ("LockRail", 131, ⟨"LockRail$Rail", "gainOf", "(II)I"⟩), ("LockRail", 135, ⟨"LockRail$Rail", "hasSet", "(I)Z"⟩), ("LockRail", 138, ⟨"LockRail$Night", "lookAt", "(LLockRail$Rail;)V"⟩), ("LockRail$Night", 60, ⟨"LockRail$Bikes", "markedOnes", "()I"⟩), ("LockRail$Night", 67, ⟨"LockRail$Rail", "lightOf", "(I)I"⟩), ("LockRail$Night", 71, ⟨"LockRail$Rail", "gainOf", "(II)I"⟩), ("LockRail$Night", 89, ⟨"LockRail$Rail", "troubleOf", "(III)I"⟩), ("LockRail", 141, ⟨"LockRail$Night", "pick", "(II)I"⟩), ("LockRail", 144, ⟨"LockRail$Night", "wantedBy", "(LLockRail$Rail;I)I"⟩), ("LockRail", 148, ⟨"LockRail$Rail", "isTold", "()Z"⟩), ("LockRail", 154, ⟨"LockRail$Night", "play", "(LLockRail$Rail;)V"⟩), ("LockRail$Night", 114, ⟨"LockRail$Spread", "wipe", "()V"⟩), ("LockRail$Night", 119, ⟨"LockRail$Spread", "put", "(IJ)V"⟩), ("LockRail", 157, ⟨"LockRail$Night", "partsOf", "(I)J"⟩), ("LockRail", 164, ⟨"LockRail$Night", "partsOfMany", "(I)J"⟩), ("LockRail", 167, ⟨"LockRail$Night", "riskOf", "(I)J"⟩), ("LockRail", 170, ⟨"LockRail$Night", "hadBy", "(II)J"⟩), ("LockRail", 177, ⟨"LockRail$Night", "costOf", "(LLockRail$Rail;II)J"⟩), ("LockRail$Night", 169, ⟨"LockRail$Rail", "paidFor", "(I)J"⟩), ("LockRail$Night", 181, ⟨"LockRail$Rail", "wageShare", "()J"⟩), ("LockRail", 403, ⟨"LockRail$Night", "costOfAll", "(LLockRail$Rail;I)J"⟩), ("LockRail", 185, ⟨"LockRail$Rail", "hasOption", "(I)Z"⟩), ("LockRail", 188, ⟨"LockRail$Bikes", "optionOf", "(I)I"⟩), ("LockRail", 191, ⟨"LockRail$Bikes", "setOption", "(II)V"⟩), ("LockRail", 219, ⟨"LockRail$Rail", "options", "()I"⟩), ("LockRail", 229, ⟨"LockRail$Bikes", "standingAt", "(I)I"⟩), ("LockRail", 409, ⟨"LockRail$Lamps", "add", "(II)V"⟩), ("LockRail", 248, ⟨"LockRail$Rail", "wages", "()J"⟩), ("LockRail", 258, ⟨"LockRail$Bikes", "markOthers", "(IZ)V"⟩), ("LockRail", 268, ⟨"LockRail$Night", "playBaited", "(LLockRail$Rail;II)V"⟩), ("LockRail", 272, ⟨"LockRail$Night", "baitedLoss", "(LLockRail$Rail;)J"⟩), ("LockRail", 276, ⟨"LockRail$Night", "partsCaught", "(I)J"⟩), ("LockRail", 286, ⟨"LockRail$Night", "leastLure", "(LLockRail$Rail;I)I"⟩), ("LockRail", 300, ⟨"LockRail$Rail", "hasLock", "(I)Z"⟩), ("LockRail", 418, ⟨"LockRail$Night", "netOf", "(LLockRail$Rail;II)I"⟩), ("LockRail", 319, ⟨"LockRail$Thieves", "copyFrom", "(LLockRail$Thieves;)V"⟩), ("LockRail", 328, ⟨"LockRail$Night", "drawYear", "(LLockRail$Rail;ILLockRail$Year;)I"⟩), ("LockRail$Night", 189, ⟨"LockRail$Year", "begin", "()V"⟩), ("LockRail", 332, ⟨"LockRail$Slots", "isSlot", "(I)Z"⟩), ("LockRail", 335, ⟨"LockRail$Slots", "hasRow", "(I)Z"⟩), ("LockRail", 341, ⟨"LockRail$Slots", "tellsNights", "(III)Z"⟩), ("LockRail", 344, ⟨"LockRail$Year", "begin", "()V"⟩), ("LockRail", 347, ⟨"LockRail$Slots", "sizeOf", "(I)I"⟩), ("LockRail", 350, ⟨"LockRail$Slots", "numberAt", "(II)J"⟩), ("LockRail", 353, ⟨"LockRail$Night", "letAllCome", "(IILLockRail$Year;)I"⟩), ("LockRail", 370, ⟨"LockRail$Rail", "worthTaken", "(LLockRail$Year;)J"⟩), ("LockRail", 381, ⟨"LockRail$Slots", "rows", "()I"⟩), ("LockRail", 384, ⟨"LockRail$Slots", "make", "(III)V"⟩), ("LockRail", 388, ⟨"LockRail$Slots", "put", "(IIJ)V"⟩), ("LockRail", 392, ⟨"LockRail$Slots", "areAlike", "(II)Z"⟩), ("LockRail", 395, ⟨"LockRail$Slots", "hasAll", "(III)Z"⟩), ("LockRail", 398, ⟨"LockRail$Slots", "copy", "(IIIII)V"⟩)]
theorem ws_good {w : Cond} (h : w ∈ WS) : (w.onTables && w.keeps) = true ∨ ∃ ty, w = .arrayClass ty := good_of_word (List.mem_filter.mp h).2
theorem goodN {y : MethodName} {c : ByteArray} {n : Nat} {r : Option FieldType} (h : Cond.code y c n r ∈ WS) : GoodIn WS (Cond.code y c n r :: WS) := fun w hw => (List.mem_cons.mp hw).elim (fun e => e ▸ ⟨h, ws_good h⟩) (fun q => ⟨q, ws_good q⟩)
theorem goodV {own C : String} {i : Nat} {y : MethodName} {c : ByteArray} {n : Nat} {r : Option FieldType} (h1 : Cond.methodLink own i y ∈ WS) (h2 : Cond.instanceMethod y ∈ WS) (h3 : Cond.selects C y y ∈ WS) (h4 : Cond.initialized C ∈ WS) (h : Cond.code y c n r ∈ WS) : GoodIn WS (wsV own i C y (Cond.code y c n r :: WS)) := by
  intro w hw
  rcases List.mem_append.mp hw with q | q
  · simp only [List.mem_cons, List.not_mem_nil, or_false] at q
    rcases q with rfl | rfl | rfl | rfl
    · exact ⟨h1, ws_good h1⟩
    · exact ⟨h2, ws_good h2⟩
    · exact ⟨h3, ws_good h3⟩
    · exact ⟨h4, ws_good h4⟩
  · exact goodN h w q
theorem goodS {own : String} {i : Nat} {y : MethodName} {c : ByteArray} {n : Nat} {r : Option FieldType} (h1 : Cond.methodLink own i y ∈ WS) (h2 : Cond.static y ∈ WS) (h3 : Cond.initialized y.cls ∈ WS) (h : Cond.code y c n r ∈ WS) : GoodIn WS (va_wsS own i y (Cond.code y c n r :: WS)) := by
  intro w hw
  rcases List.mem_append.mp hw with q | q
  · simp only [List.mem_cons, List.not_mem_nil, or_false] at q
    rcases q with rfl | rfl | rfl
    · exact ⟨h1, ws_good h1⟩
    · exact ⟨h2, ws_good h2⟩
    · exact ⟨h3, ws_good h3⟩
  · exact goodN h w q
def nst (U : State) : Prop := (∀ q ∈ nfL, va_Nw (.fieldLinkNest q.1 q.2.1 q.2.2.1 q.2.2.2.1 q.2.2.2.2 "LockRail") U) ∧ (∀ q ∈ nmL, va_Nw (.methodLinkNest q.1 q.2.1 q.2.2 "LockRail") U) ∧ va_AO "LockRail$Rail" U
theorem nst.warm {s U : State} (hW : s.WarmedH U.vm) (h : nst s) : nst U := ⟨fun q hq => va_Nw.warmF hW (h.1 q hq), fun q hq => va_Nw.warmM hW (h.2.1 q hq), va_AO.moved hW.alike h.2.2⟩
theorem nst.same {s U : State} (e : s.vm = U.vm) (h : nst s) : nst U := ⟨fun q hq => va_Nw.same rfl e (h.1 q hq), fun q hq => va_Nw.same rfl e (h.2.1 q hq), va_AO.moved (e ▸ Vm.Alike.refl s.vm) h.2.2⟩
theorem nst.f {s : State} (h : nst s) {args : Array Value} (i : Nat) {o r n d : String} {x : Nat} (hq : nfL[i]? = some (o, x, r, n, d)) : (Cond.fieldLinkNest o x r n d "LockRail").before args s = true := va_Nw.use rfl (h.1 _ (List.mem_of_getElem? hq))
theorem nst.m {s : State} (h : nst s) (i : Nat) {o : String} {x : Nat} {y : MethodName} (hq : nmL[i]? = some (o, x, y)) : va_Nw (.methodLinkNest o x y "LockRail") s := h.2.1 _ (List.mem_of_getElem? hq)
/-- a contract's start: these arguments, a heap of this size with this world -/
def cPre (D : va_G) (C : Nat → ClassId) (av : List Value) (sz : Nat) (L : List va_W) : Array Value → State → Prop := va_Pc av (fun U => U.heap.size = sz ∧ va_P D vwCl L.flatten U.heap ∧ va_K D vwCl (cTys C) U ∧ nst U ∧ va_D (fun _ => True) L.flatten)
theorem cPre.blind {D : va_G} {C : Nat → ClassId} {av : List Value} {sz : Nat} {L : List va_W} : FrameBlind (cPre D C av sz L) := fun a U g mk q => by
  obtain ⟨q0, q1, qP, qK, qN, qD⟩ := q
  exact ⟨q0, q1, qP, va_K.moved (u := U) (U := U.calling g mk a) (Vm.Alike.refl U.vm) qK, nst.same rfl qN, qD⟩
theorem cPre.now {D : va_G} {C : Nat → ClassId} {av : List Value} {L : List va_W} {H : Heap} {s : State} {A : Nat → Prop} (hP : va_P D vwCl L.flatten H) (hD : va_D A L.flatten) (hK : va_K D vwCl (cTys C) s) (hN : nst s) : ∀ U : State, U.heap = H → s.WarmedH U.vm → cPre D C av H.size L av.toArray U := fun U hU hW => ⟨rfl, by rw [hU], by rw [hU]; exact hP, va_K.moved hW.alike hK, nst.warm hW hN, hD.weaken (fun _ _ _ _ => trivial)⟩
/-- a contract's end: the answer and what came of the world -/
abbrev cQi {S : Type} (D : va_G) (post : Int32 → S → Prop) (wf : S → List va_W) (A : Nat → Prop) : Array Value → State → Outcome → State → Prop := va_Qi post (fun u t => va_P D vwCl (wf u).flatten t.heap ∧ va_D A (wf u).flatten) A
abbrev cQl {S : Type} (D : va_G) (post : Int64 → S → Prop) (wf : S → List va_W) (A : Nat → Prop) : Array Value → State → Outcome → State → Prop := va_Ql post (fun u t => va_P D vwCl (wf u).flatten t.heap ∧ va_D A (wf u).flatten) A
abbrev cQv {S : Type} (D : va_G) (post : S → Prop) (wf : S → List va_W) (A : Nat → Prop) : Array Value → State → Outcome → State → Prop := va_Qv post (fun u t => va_P D vwCl (wf u).flatten t.heap ∧ va_D A (wf u).flatten) A
theorem cStart {l : Launch} {y : MethodName} {rm : Room} {QA : (Nat → Prop) → Array Value → State → Outcome → State → Prop} {mc ms sz maxL : Nat} {cc : ByteArray} {ret : Option FieldType} {D : va_G} {C : Nat → ClassId} {av : List Value} {L : List va_W}
    (hy : plainName y.cls = true) (hlen : (lg_sl av).length ≤ maxL)
    (body : ∀ (p : Program) (e : Env) (s : State) (m : MethodId) (args : Array Value) (below : List Frame) (meth : Method) (c : Code) (A : Nat → Prop) (ls : Array Slot),
      p.tables.exec = Jvm.exec → c.code = cc → meth.sig.returnType = ret → c.maxLocals = maxL → s.vm.findClass y.cls = some m.cls → (∀ w ∈ WS, w.before args s = true) → meth.locks = false → meth.name = y.name → va_K D vwCl (cTys C) s → nst s → (∀ q, s.heap.size ≤ q → A q) →
      va_P D vwCl L.flatten s.heap → va_D A L.flatten → va_S A s.heap s.heap [] → lv_has ls maxL (lv_args 0 av) →
      W p l e rm s m args below meth c s.heap [] 0 0 (MQ below (QA A) args s mc ms A) (F0 m 0 ls [])) :
    Met l y (Cond.code y cc maxL ret :: WS) rm (cPre D C av sz L) (QA (va_A L.flatten sz)) mc ms (va_A L.flatten sz) := by
  refine Met.ofW (cc := cc) (maxL := maxL) (ret := ret) hy rfl ?_
  intro p e s m args below meth c s₁ B hml hv
  obtain ⟨rfl, hsz, hP, hK, hN, hD0⟩ := hv
  subst hsz
  rw [lg_entry_eq]
  exact body p e s m av.toArray below meth c (va_A L.flatten s.heap.size) _ B.exec B.bytes B.returns hml (findClass_of_methodNamed B.named) (fun w h => atoms_spec (ws := Cond.code y cc maxL ret :: WS) B.pre w (List.mem_cons_of_mem _ h)) B.notSynchronized (name_of_methodNamed B.named B.method).1 hK hN (fun q h => Or.inr h) hP hD0.self va_S.rf (lv_entry av hlen)
section CG
variable {p : Program} {l : Launch} {e : Env} {R : Room} {s : State} {m : MethodId} {args : Array Value} {below : List Frame} {meth : Method} {c : Code} {H : Heap} {locs : List Loc} {cells slots : Nat} {Q : State → Prop} {D : va_G} {C : Nat → ClassId} {A : Nat → Prop} {cc : ByteArray} {pc : Nat} {ls : Array Slot} {rest st0 : List Value} {H0 : Heap}
theorem cRetI {S : Type} {post : Int32 → S → Prop} {wf : S → List va_W} {v : Int32} (u : S) (hx : p.tables.exec = Jvm.exec) (hb : c.code = cc) (hr : meth.sig.returnType = some .int) (hlocks : meth.locks = false) (hS : va_S A s.heap H locs) (hP : va_P D vwCl (wf u).flatten H) (hD : va_D A (wf u).flatten) (hp : post v u) (hdg : decode cc pc = .ok (.ireturn, 1)) :
    W p l e R s m args below meth c H locs cells slots (MQ below (cQi D post wf A) args s cells slots A) (F0 m pc ls [.int v]) :=
  W.iret (v := v) hx hb hr (fun t ht hW => ⟨⟨v, u, rfl, hp, by rw [ht]; exact hP, hD⟩, hS.F ht⟩) hS.2.2 hdg hlocks
theorem cRetZ {S : Type} {post : Int32 → S → Prop} {wf : S → List va_W} {v : Int32} (u : S) (hx : p.tables.exec = Jvm.exec) (hb : c.code = cc) (hr : meth.sig.returnType = some .boolean) (hlocks : meth.locks = false) (hS : va_S A s.heap H locs) (hP : va_P D vwCl (wf u).flatten H) (hD : va_D A (wf u).flatten) (hv : v = 0 ∨ v = 1) (hp : post v u) (hdg : decode cc pc = .ok (.ireturn, 1)) :
    W p l e R s m args below meth c H locs cells slots (MQ below (cQi D post wf A) args s cells slots A) (F0 m pc ls [.int v]) :=
  W.zret (v := v) hx hb hr (by rcases hv with rfl | rfl <;> rfl) (fun t ht hW => ⟨⟨v, u, rfl, hp, by rw [ht]; exact hP, hD⟩, hS.F ht⟩) hS.2.2 hdg hlocks
theorem cRetL {S : Type} {post : Int64 → S → Prop} {wf : S → List va_W} {v : Int64} (u : S) (hx : p.tables.exec = Jvm.exec) (hb : c.code = cc) (hr : meth.sig.returnType = some .long) (hlocks : meth.locks = false) (hS : va_S A s.heap H locs) (hP : va_P D vwCl (wf u).flatten H) (hD : va_D A (wf u).flatten) (hp : post v u) (hdg : decode cc pc = .ok (.lreturn, 1)) :
    W p l e R s m args below meth c H locs cells slots (MQ below (cQl D post wf A) args s cells slots A) (F0 m pc ls [.long v]) :=
  W.lret (v := v) hx hb hr (fun t ht hW => ⟨⟨v, u, rfl, hp, by rw [ht]; exact hP, hD⟩, hS.F ht⟩) hS.2.2 hdg hlocks
theorem cRetV {S : Type} {post : S → Prop} {wf : S → List va_W} (u : S) (hx : p.tables.exec = Jvm.exec) (hb : c.code = cc) (hr : meth.sig.returnType = none) (hlocks : meth.locks = false) (hS : va_S A s.heap H locs) (hP : va_P D vwCl (wf u).flatten H) (hD : va_D A (wf u).flatten) (hp : post u) (hdg : decode cc pc = .ok (.return_, 1)) :
    W p l e R s m args below meth c H locs cells slots (MQ below (cQv D post wf A) args s cells slots A) (F0 m pc ls []) :=
  W.vret hx hb hr (fun t ht hW => ⟨⟨u, rfl, hp, by rw [ht]; exact hP, hD⟩, hS.F ht⟩) hS.2.2 hdg hlocks
theorem rg_rest {L : List va_W} {ir : List Nat} (h : (ir.all fun i => decide (i < L.length)) = true) : ir.map (fun i => L[i]?) = (ir.filterMap (fun i => L[i]?)).map some := by
  induction ir with
  | nil => rfl
  | cons a l ih =>
    simp only [List.all_cons, Bool.and_eq_true, decide_eq_true_eq] at h
    rw [List.map_cons, List.filterMap_cons, List.getElem?_eq_getElem h.1, ih h.2]
    rfl
section GO
variable {L rc : List va_W} {mc ms : Nat} {a : Array Value}
theorem cGoI {S : Type} {post : Int32 → S → Prop} {wf wo : S → List va_W} (hr : va_Run p l e R s m args below meth c H locs cells slots mc ms (F0 m pc ls st0) rest (cQi D post wf (va_A rc.flatten H.size) a) (va_A rc.flatten H.size))
    (hP : va_P D vwCl L.flatten H) (hD : va_D A L.flatten) (hS : va_S A H0 H locs) (hA : ∀ q, H0.size ≤ q → A q) (ic ir io : List Nat) (hc : ic.map (fun i => L[i]?) = rc.map some) (hrr : (ir.all fun i => decide (i < L.length)) = true) (hn : va_nd ir = true) (hdis : ∀ i ∈ ir, i ∉ ic) (hno : va_nd io = true) (ho : ∀ u, io.map (fun i => (ir.filterMap (fun i => L[i]?) ++ wf u)[i]?) = (wo u).map some)
    (kk : ∀ (r : Int32) (u : S) (H1 : Heap) (locs1 : List Loc), post r u → va_P D vwCl (wo u).flatten H1 → va_D A (wo u).flatten → va_S A H0 H1 locs1 → W p l e R s m args below meth c H1 locs1 (cells + mc) (slots + ms) Q (F0 m (pc + 3) ls (.int r :: rest))) : W p l e R s m args below meth c H locs cells slots Q (F0 m pc ls st0) := by
  have hF := rg_free hD hS hA ic hc
  refine va_calli hr hS (fun q _ h => hF q h) hF (fun r u t H1 locs1 ht hvm hw hB hz hk hS1 => ?_)
  obtain ⟨hP1, hD1⟩ := hB
  rw [ht] at hP1
  obtain ⟨hP2, hD2⟩ := rg_join hP hD ic ir io hc (rg_rest hrr) hn hdis (ho u) hno hk hF hP1 hD1
  exact kk r u H1 locs1 hw hP2 hD2 hS1
theorem cGoL {S : Type} {post : Int64 → S → Prop} {wf wo : S → List va_W} (hr : va_Run p l e R s m args below meth c H locs cells slots mc ms (F0 m pc ls st0) rest (cQl D post wf (va_A rc.flatten H.size) a) (va_A rc.flatten H.size))
    (hP : va_P D vwCl L.flatten H) (hD : va_D A L.flatten) (hS : va_S A H0 H locs) (hA : ∀ q, H0.size ≤ q → A q) (ic ir io : List Nat) (hc : ic.map (fun i => L[i]?) = rc.map some) (hrr : (ir.all fun i => decide (i < L.length)) = true) (hn : va_nd ir = true) (hdis : ∀ i ∈ ir, i ∉ ic) (hno : va_nd io = true) (ho : ∀ u, io.map (fun i => (ir.filterMap (fun i => L[i]?) ++ wf u)[i]?) = (wo u).map some)
    (kk : ∀ (r : Int64) (u : S) (H1 : Heap) (locs1 : List Loc), post r u → va_P D vwCl (wo u).flatten H1 → va_D A (wo u).flatten → va_S A H0 H1 locs1 → W p l e R s m args below meth c H1 locs1 (cells + mc) (slots + ms) Q (F0 m (pc + 3) ls (.long r :: rest))) : W p l e R s m args below meth c H locs cells slots Q (F0 m pc ls st0) := by
  have hF := rg_free hD hS hA ic hc
  refine va_calll hr hS (fun q _ h => hF q h) hF (fun r u t H1 locs1 ht hvm hw hB hz hk hS1 => ?_)
  obtain ⟨hP1, hD1⟩ := hB
  rw [ht] at hP1
  obtain ⟨hP2, hD2⟩ := rg_join hP hD ic ir io hc (rg_rest hrr) hn hdis (ho u) hno hk hF hP1 hD1
  exact kk r u H1 locs1 hw hP2 hD2 hS1
theorem cGoV {S : Type} {post : S → Prop} {wf wo : S → List va_W} (hr : va_Run p l e R s m args below meth c H locs cells slots mc ms (F0 m pc ls st0) rest (cQv D post wf (va_A rc.flatten H.size) a) (va_A rc.flatten H.size))
    (hP : va_P D vwCl L.flatten H) (hD : va_D A L.flatten) (hS : va_S A H0 H locs) (hA : ∀ q, H0.size ≤ q → A q) (ic ir io : List Nat) (hc : ic.map (fun i => L[i]?) = rc.map some) (hrr : (ir.all fun i => decide (i < L.length)) = true) (hn : va_nd ir = true) (hdis : ∀ i ∈ ir, i ∉ ic) (hno : va_nd io = true) (ho : ∀ u, io.map (fun i => (ir.filterMap (fun i => L[i]?) ++ wf u)[i]?) = (wo u).map some)
    (kk : ∀ (u : S) (H1 : Heap) (locs1 : List Loc), post u → va_P D vwCl (wo u).flatten H1 → va_D A (wo u).flatten → va_S A H0 H1 locs1 → W p l e R s m args below meth c H1 locs1 (cells + mc) (slots + ms) Q (F0 m (pc + 3) ls rest)) : W p l e R s m args below meth c H locs cells slots Q (F0 m pc ls st0) := by
  have hF := rg_free hD hS hA ic hc
  refine va_callv hr hS (fun q _ h => hF q h) hF (fun u t H1 locs1 ht hvm hw hB hz hk hS1 => ?_)
  obtain ⟨hP1, hD1⟩ := hB
  rw [ht] at hP1
  obtain ⟨hP2, hD2⟩ := rg_join hP hD ic ir io hc (rg_rest hrr) hn hdis (ho u) hno hk hF hP1 hD1
  exact kk u H1 locs1 hw hP2 hD2 hS1
end GO
section RUN
variable {L rc : List va_W} {mc ms nL n index maxL : Nat} {y : MethodName} {bytes : ByteArray} {ret : Option FieldType} {wsy Ts : List Cond} {rm : Room} {Qc : Array Value → State → Outcome → State → Prop} {free : Addr → Prop} {own Cn : String} {b ci N : Nat} {fs As : List Value} {T : u_T}
/-- a nest mate's private method -/
theorem cRunVN (F : CallFix p m c cc nL s args Ts own) (hK : va_K D vwCl (cTys C) s) (hN : nst s) (hP : va_P D vwCl L.flatten H) (hD : va_D A L.flatten) (ic : List Nat) (hic : va_nd ic = true) (hc : ic.map (fun i => L[i]?) = rc.map some)
    (hM : Met l y wsy rm (cPre D C (.ref b :: As) H.size rc) Qc mc ms free) (cw : va_CN R s args own index y "LockRail" bytes maxL ret wsy rm mc ms n ∧ (Cond.instanceMethod y).before args s = true ∧ (Cond.selects Cn y y).before args s = true)
    (hre : rc.flatten[0]? = some (b, .inr (ci, fs))) (hcl : vwCl[ci]? = some (Cn, T, N)) (hn : As.length = n) (hls : ls.size = nL) (hst : st0 = As.reverse ++ .ref b :: rest) (hW : (rest.map fun v => v.category).sum ≤ 8) (hdg : decode cc pc = .ok (.invokevirtual index, 3)) (hf : cells + mc ≤ R.cells ∧ slots + ms ≤ R.slots) :
    va_Run p l e R s m args below meth c H locs cells slots mc ms (F0 m pc ls st0) rest (Qc (Value.ref b :: As).toArray) free := by
  have hPc := rg_subP hP ic hc
  exact va_runVN F hM cw ⟨cPre.blind, va_recv hK hPc hcl hre, cPre.now hPc (rg_subD hD ic hic hc) hK hN⟩ rfl hn hls hst (lv_room hW) hdg hf
/-- a method of its own, or a public one -/
theorem cRunV (F : CallFix p m c cc nL s args Ts own) (hK : va_K D vwCl (cTys C) s) (hN : nst s) (hP : va_P D vwCl L.flatten H) (hD : va_D A L.flatten) (ic : List Nat) (hic : va_nd ic = true) (hc : ic.map (fun i => L[i]?) = rc.map some)
    (hM : Met l y wsy rm (cPre D C (.ref b :: As) H.size rc) Qc mc ms free) (cw : CallW R s args own Cn index y bytes maxL ret wsy rm mc ms n)
    (hre : rc.flatten[0]? = some (b, .inr (ci, fs))) (hcl : vwCl[ci]? = some (Cn, T, N)) (hn : As.length = n) (hls : ls.size = nL) (hst : st0 = As.reverse ++ .ref b :: rest) (hW : (rest.map fun v => v.category).sum ≤ 8) (hdg : decode cc pc = .ok (.invokevirtual index, 3)) (hf : cells + mc ≤ R.cells ∧ slots + ms ≤ R.slots) :
    va_Run p l e R s m args below meth c H locs cells slots mc ms (F0 m pc ls st0) rest (Qc (Value.ref b :: As).toArray) free := by
  have hPc := rg_subP hP ic hc
  exact va_runV F hM cw ⟨cPre.blind, va_recv hK hPc hcl hre, cPre.now hPc (rg_subD hD ic hic hc) hK hN⟩ rfl hn hls hst (lv_room hW) hdg hf
/-- a static one -/
theorem cRunS (F : CallFix p m c cc nL s args Ts own) (hK : va_K D vwCl (cTys C) s) (hN : nst s) (hP : va_P D vwCl L.flatten H) (hD : va_D A L.flatten) (ic : List Nat) (hic : va_nd ic = true) (hc : ic.map (fun i => L[i]?) = rc.map some)
    (hM : Met l y wsy rm (cPre D C As H.size rc) Qc mc ms free) (cw : CallB R s args own index y bytes maxL ret wsy rm mc ms n ∧ (Cond.static y).before args s = true)
    (hn : As.length = n) (hls : ls.size = nL) (hst : st0 = As.reverse ++ rest) (hW : (rest.map fun v => v.category).sum ≤ 8) (hdg : decode cc pc = .ok (.invokestatic index, 3)) (hf : cells + mc ≤ R.cells ∧ slots + ms ≤ R.slots) :
    va_Run p l e R s m args below meth c H locs cells slots mc ms (F0 m pc ls st0) rest (Qc As.toArray) free := by
  have hPc := rg_subP hP ic hc
  exact va_runS F hM cw ⟨cPre.blind, cPre.now hPc (rg_subD hD ic hic hc) hK hN⟩ rfl hn hls hst (lv_room hW) hdg hf
/-- a constructor of a nest mate -/
theorem cRunIN (F : CallFix p m c cc nL s args Ts own) (hK : va_K D vwCl (cTys C) s) (hN : nst s) (hP : va_P D vwCl L.flatten H) (hD : va_D A L.flatten) (ic : List Nat) (hic : va_nd ic = true) (hc : ic.map (fun i => L[i]?) = rc.map some)
    (hM : Met l y wsy rm (cPre D C (.ref b :: As) H.size rc) Qc mc ms free) (cw : va_CN R s args own index y "LockRail" bytes maxL none wsy rm mc ms n ∧ y.name = "<init>" ∧ (Cond.instanceMethod y).before args s = true)
    (hn : As.length = n) (hls : ls.size = nL) (hst : st0 = As.reverse ++ .ref b :: rest) (hW : (rest.map fun v => v.category).sum ≤ 8) (hdg : decode cc pc = .ok (.invokespecial index, 3)) (hf : cells + mc ≤ R.cells ∧ slots + ms ≤ R.slots) :
    va_Run p l e R s m args below meth c H locs cells slots mc ms (F0 m pc ls st0) rest (Qc (Value.ref b :: As).toArray) free := by
  have hPc := rg_subP hP ic hc
  exact va_runIN F hM cw ⟨cPre.blind, cPre.now hPc (rg_subD hD ic hic hc) hK hN⟩ rfl hn hls hst (lv_room hW) hdg hf
/-- a public constructor -/
theorem cRunI (F : CallFix p m c cc nL s args Ts own) (hK : va_K D vwCl (cTys C) s) (hN : nst s) (hP : va_P D vwCl L.flatten H) (hD : va_D A L.flatten) (ic : List Nat) (hic : va_nd ic = true) (hc : ic.map (fun i => L[i]?) = rc.map some)
    (hM : Met l y wsy rm (cPre D C (.ref b :: As) H.size rc) Qc mc ms free) (cw : CallB R s args own index y bytes maxL none wsy rm mc ms n ∧ y.name = "<init>" ∧ (Cond.instanceMethod y).before args s = true)
    (hn : As.length = n) (hls : ls.size = nL) (hst : st0 = As.reverse ++ .ref b :: rest) (hW : (rest.map fun v => v.category).sum ≤ 8) (hdg : decode cc pc = .ok (.invokespecial index, 3)) (hf : cells + mc ≤ R.cells ∧ slots + ms ≤ R.slots) :
    va_Run p l e R s m args below meth c H locs cells slots mc ms (F0 m pc ls st0) rest (Qc (Value.ref b :: As).toArray) free := by
  have hPc := rg_subP hP ic hc
  exact va_runI F hM cw ⟨cPre.blind, cPre.now hPc (rg_subD hD ic hic hc) hK hN⟩ rfl hn hls hst (lv_room hW) hdg hf
end RUN
/-! arrays, with the place as a number -/
section ARR
variable {tys : List (ClassId × FieldType)} {ws : va_W} {b : Nat} {cl : List vw_C}
theorem cIald (hx : p.tables.exec = Jvm.exec) (hb : c.code = cc) (hK : va_K D cl tys s) (hP : va_P D cl ws H) (q0 t0 : Nat) {cA : ClassId} {n : Nat} {f : Nat → Int32} (ha : ws[q0]? = some (b, .inl (cA, n, .inl f))) (ht : tys[t0]? = some (cA, .int)) {i : Int32} (k : Nat) (hk : i.toNatClampNeg = k) (hin : vp_in i n) (hdg : decode cc pc = .ok (.iaload, 1))
    (kk : W p l e R s m args below meth c H locs cells slots Q (F0 m (pc + 1) ls (.int (f k) :: rest))) : W p l e R s m args below meth c H locs cells slots Q (F0 m pc ls (.int i :: .ref b :: rest)) := va_iald hx hb hK hP q0 t0 ha ht hin hdg (by rw [hk]; exact kk)
theorem cBald (hx : p.tables.exec = Jvm.exec) (hb : c.code = cc) (hK : va_K D cl tys s) (hP : va_P D cl ws H) (q0 t0 : Nat) {cA : ClassId} {n : Nat} {f : Nat → Int32} (ha : ws[q0]? = some (b, .inl (cA, n, .inl f))) (ht : tys[t0]? = some (cA, .byte)) {i : Int32} (k : Nat) (hk : i.toNatClampNeg = k) (hin : vp_in i n) (hdg : decode cc pc = .ok (.baload, 1))
    (kk : W p l e R s m args below meth c H locs cells slots Q (F0 m (pc + 1) ls (.int (f k) :: rest))) : W p l e R s m args below meth c H locs cells slots Q (F0 m pc ls (.int i :: .ref b :: rest)) := va_bald hx hb hK hP q0 t0 ha ht hin hdg (by rw [hk]; exact kk)
theorem cZald (hx : p.tables.exec = Jvm.exec) (hb : c.code = cc) (hK : va_K D cl tys s) (hP : va_P D cl ws H) (q0 t0 : Nat) {cA : ClassId} {n : Nat} {f : Nat → Int32} (ha : ws[q0]? = some (b, .inl (cA, n, .inl f))) (ht : tys[t0]? = some (cA, .boolean)) {i : Int32} (k : Nat) (hk : i.toNatClampNeg = k) (hin : vp_in i n) (hdg : decode cc pc = .ok (.baload, 1))
    (kk : W p l e R s m args below meth c H locs cells slots Q (F0 m (pc + 1) ls (.int (f k) :: rest))) : W p l e R s m args below meth c H locs cells slots Q (F0 m pc ls (.int i :: .ref b :: rest)) := va_zald hx hb hK hP q0 t0 ha ht hin hdg (by rw [hk]; exact kk)
theorem cLald (hx : p.tables.exec = Jvm.exec) (hb : c.code = cc) (hK : va_K D cl tys s) (hP : va_P D cl ws H) (q0 t0 : Nat) {cA : ClassId} {n : Nat} {f : Nat → Int64} (ha : ws[q0]? = some (b, .inl (cA, n, .inr (.inl f)))) (ht : tys[t0]? = some (cA, .long)) {i : Int32} (k : Nat) (hk : i.toNatClampNeg = k) (hin : vp_in i n) (hdg : decode cc pc = .ok (.laload, 1))
    (kk : W p l e R s m args below meth c H locs cells slots Q (F0 m (pc + 1) ls (.long (f k) :: rest))) : W p l e R s m args below meth c H locs cells slots Q (F0 m pc ls (.int i :: .ref b :: rest)) := va_lald hx hb hK hP q0 t0 ha ht hin hdg (by rw [hk]; exact kk)
theorem cIast (hx : p.tables.exec = Jvm.exec) (hb : c.code = cc) (hK : va_K D cl tys s) (hP : va_P D cl ws H) (hD : va_D A ws) (hS : va_S A H0 H locs) (q0 t0 : Nat) {cA : ClassId} {n : Nat} {f : Nat → Int32} (ha : ws[q0]? = some (b, .inl (cA, n, .inl f))) (ht : tys[t0]? = some (cA, .int)) {i x : Int32} (k : Nat) (hk : i.toNatClampNeg = k) (hin : vp_in i n) (hdg : decode cc pc = .ok (.iastore, 1))
    (kk : ∀ (H1 : Heap) (locs1 : List Loc), va_P D cl (ws.set q0 (b, .inl (cA, n, .inl (upd f k x)))) H1 → va_D A (ws.set q0 (b, .inl (cA, n, .inl (upd f k x)))) → va_S A H0 H1 locs1 → W p l e R s m args below meth c H1 locs1 cells slots Q (F0 m (pc + 1) ls rest)) : W p l e R s m args below meth c H locs cells slots Q (F0 m pc ls (.int x :: .int i :: .ref b :: rest)) := va_iast hx hb hK hP hD hS q0 t0 ha ht hin hdg (by rw [hk]; exact kk)
theorem cBast (hx : p.tables.exec = Jvm.exec) (hb : c.code = cc) (hK : va_K D cl tys s) (hP : va_P D cl ws H) (hD : va_D A ws) (hS : va_S A H0 H locs) (q0 t0 : Nat) {cA : ClassId} {n : Nat} {f : Nat → Int32} (ha : ws[q0]? = some (b, .inl (cA, n, .inl f))) (ht : tys[t0]? = some (cA, .byte)) {i x : Int32} (k : Nat) (hk : i.toNatClampNeg = k) (hin : vp_in i n) (hdg : decode cc pc = .ok (.bastore, 1))
    (kk : ∀ (H1 : Heap) (locs1 : List Loc), va_P D cl (ws.set q0 (b, .inl (cA, n, .inl (upd f k x.toInt8.toInt32)))) H1 → va_D A (ws.set q0 (b, .inl (cA, n, .inl (upd f k x.toInt8.toInt32)))) → va_S A H0 H1 locs1 → W p l e R s m args below meth c H1 locs1 cells slots Q (F0 m (pc + 1) ls rest)) : W p l e R s m args below meth c H locs cells slots Q (F0 m pc ls (.int x :: .int i :: .ref b :: rest)) := va_bast hx hb hK hP hD hS q0 t0 ha ht hin hdg (by rw [hk, vp_nar_byte]; exact kk)
theorem cZast (hx : p.tables.exec = Jvm.exec) (hb : c.code = cc) (hK : va_K D cl tys s) (hP : va_P D cl ws H) (hD : va_D A ws) (hS : va_S A H0 H locs) (q0 t0 : Nat) {cA : ClassId} {n : Nat} {f : Nat → Int32} (ha : ws[q0]? = some (b, .inl (cA, n, .inl f))) (ht : tys[t0]? = some (cA, .boolean)) {i x : Int32} (k : Nat) (hk : i.toNatClampNeg = k) (hin : vp_in i n) (hz : x = 0 ∨ x = 1) (hdg : decode cc pc = .ok (.bastore, 1))
    (kk : ∀ (H1 : Heap) (locs1 : List Loc), va_P D cl (ws.set q0 (b, .inl (cA, n, .inl (upd f k x)))) H1 → va_D A (ws.set q0 (b, .inl (cA, n, .inl (upd f k x)))) → va_S A H0 H1 locs1 → W p l e R s m args below meth c H1 locs1 cells slots Q (F0 m (pc + 1) ls rest)) : W p l e R s m args below meth c H locs cells slots Q (F0 m pc ls (.int x :: .int i :: .ref b :: rest)) := va_zast hx hb hK hP hD hS q0 t0 ha ht hin hdg (by rw [hk, show vp_nar .boolean x = x by rcases hz with rfl | rfl <;> rfl]; exact kk)
theorem cLast (hx : p.tables.exec = Jvm.exec) (hb : c.code = cc) (hK : va_K D cl tys s) (hP : va_P D cl ws H) (hD : va_D A ws) (hS : va_S A H0 H locs) (q0 t0 : Nat) {cA : ClassId} {n : Nat} {f : Nat → Int64} (ha : ws[q0]? = some (b, .inl (cA, n, .inr (.inl f)))) (ht : tys[t0]? = some (cA, .long)) {i : Int32} {x : Int64} (k : Nat) (hk : i.toNatClampNeg = k) (hin : vp_in i n) (hdg : decode cc pc = .ok (.lastore, 1))
    (kk : ∀ (H1 : Heap) (locs1 : List Loc), va_P D cl (ws.set q0 (b, .inl (cA, n, .inr (.inl (vp_updL f k x))))) H1 → va_D A (ws.set q0 (b, .inl (cA, n, .inr (.inl (vp_updL f k x))))) → va_S A H0 H1 locs1 → W p l e R s m args below meth c H1 locs1 cells slots Q (F0 m (pc + 1) ls rest)) : W p l e R s m args below meth c H locs cells slots Q (F0 m pc ls (.long x :: .int i :: .ref b :: rest)) := va_last hx hb hK hP hD hS q0 t0 ha ht hin hdg (by rw [hk]; exact kk)
end ARR
end CG
theorem cIn {i : Int32} {n : Nat} (h : (decide (0 ≤ i) && decide (i.toNatClampNeg < n)) = true) : vp_in i n := by
  simp only [Bool.and_eq_true, decide_eq_true_eq] at h
  rintro (q | q)
  · exact absurd h.1 (Int32.not_le.mpr q)
  · omega
theorem zb_n {v : Int32} (h : v = 0 ∨ v = 1) : narrow .boolean (.int v) = .int v := by rcases h with rfl | rfl <;> rfl
theorem zb_f {v : Int32} (h : v = 0 ∨ v = 1) : fits .boolean (.int v) = true := by rcases h with rfl | rfl <;> rfl
theorem sw_ne {x k : Int32} (h : ¬ x = k) : x.toInt ≠ k.toInt := fun e => h (Int32.toInt_inj.mp e)
theorem sw_out3 {x : Int32} (h0 : ¬ x = 0) (h1 : ¬ x = 1) (h2 : ¬ x = 2) : x.toInt < 0 ∨ 2 < x.toInt := by
  have := sw_ne h0; have := sw_ne h1; have := sw_ne h2
  simp only [show (0 : Int32).toInt = 0 from rfl, show (1 : Int32).toInt = 1 from rfl, show (2 : Int32).toInt = 2 from rfl] at *
  omega
theorem sw_out5 {x : Int32} (h0 : ¬ x = 0) (h1 : ¬ x = 1) (h2 : ¬ x = 2) (h3 : ¬ x = 3) (h4 : ¬ x = 4) : x.toInt < 0 ∨ 4 < x.toInt := by
  have := sw_ne h0; have := sw_ne h1; have := sw_ne h2; have := sw_ne h3; have := sw_ne h4
  simp only [show (0 : Int32).toInt = 0 from rfl, show (1 : Int32).toInt = 1 from rfl, show (2 : Int32).toInt = 2 from rfl, show (3 : Int32).toInt = 3 from rfl, show (4 : Int32).toInt = 4 from rfl] at *
  omega
theorem sw_out13 {x : Int32} (h0 : ¬ x = 0) (h1 : ¬ x = 1) (h2 : ¬ x = 2) (h3 : ¬ x = 3) (h4 : ¬ x = 4) (h5 : ¬ x = 5) (h6 : ¬ x = 6) (h7 : ¬ x = 7) (h8 : ¬ x = 8) (h9 : ¬ x = 9) (h10 : ¬ x = 10) (h11 : ¬ x = 11) (h12 : ¬ x = 12) : x.toInt < 0 ∨ 12 < x.toInt := by
  have := sw_ne h0; have := sw_ne h1; have := sw_ne h2; have := sw_ne h3; have := sw_ne h4; have := sw_ne h5; have := sw_ne h6; have := sw_ne h7; have := sw_ne h8; have := sw_ne h9; have := sw_ne h10; have := sw_ne h11; have := sw_ne h12
  simp only [show (0 : Int32).toInt = 0 from rfl, show (1 : Int32).toInt = 1 from rfl, show (2 : Int32).toInt = 2 from rfl, show (3 : Int32).toInt = 3 from rfl, show (4 : Int32).toInt = 4 from rfl, show (5 : Int32).toInt = 5 from rfl, show (6 : Int32).toInt = 6 from rfl, show (7 : Int32).toInt = 7 from rfl, show (8 : Int32).toInt = 8 from rfl, show (9 : Int32).toInt = 9 from rfl, show (10 : Int32).toInt = 10 from rfl, show (11 : Int32).toInt = 11 from rfl, show (12 : Int32).toInt = 12 from rfl] at *
  omega
theorem sw_look2 {x : Int32} {a b d : Int} (h0 : ¬ x = 0) (h1 : ¬ x = 1) : Op.lookupswitch.offset [(0, a), (1, b)] d x.toInt = d := by
  have h0 := sw_ne h0
  have h1 := sw_ne h1
  simp only [show (0 : Int32).toInt = 0 from rfl, show (1 : Int32).toInt = 1 from rfl] at h0 h1
  simp [Op.lookupswitch.offset, Ne.symm h0, Ne.symm h1, h0, h1]
section CPY
variable {p : Program} {l : Launch} {e : Env} {R : Room} {s : State} {m : MethodId} {args : Array Value} {below : List Frame} {meth : Method} {c : Code} {H : Heap} {locs : List Loc} {cells slots : Nat} {Q : State → Prop} {D : va_G} {A : Nat → Prop} {cc : ByteArray} {pc : Nat} {ls : Array Slot} {rest : List Value} {H0 : Heap} {tys : List (ClassId × FieldType)} {ws : va_W} {b : Nat} {cl : List vw_C} {own : String} {index : Nat}
theorem cCopyI (hx : p.tables.exec = Jvm.exec) (hb : c.code = cc) (hml : c.maxLocals = ls.size) (hown : s.vm.findClass own = some m.cls) (hlink : (Cond.methodLink own index arraycopyName).before args s = true) (hnat : (Cond.native arraycopyName).before args s = true) (hstat : (Cond.static arraycopyName).before args s = true) (hini : (Cond.initialized "java/lang/System").before args s = true)
    (hK : va_K D cl tys s) (hP : va_P D cl ws H) (hD : va_D A ws) (hS : va_S A H0 H locs) (q0 q1 t0 : Nat) {a0 : Nat} {c0 : ClassId} {n0 n1 : Nat} {f g : Nat → Int32} (ha0 : ws[q0]? = some (a0, .inl (c0, n0, .inl f))) (ha1 : ws[q1]? = some (b, .inl (c0, n1, .inl g))) (ht0 : tys[t0]? = some (c0, .int))
    {sp dp n : Int32} (ks kd kn : Nat) (es : sp.toNatClampNeg = ks) (ed : dp.toNatClampNeg = kd) (en : n.toNatClampNeg = kn) (h1 : ¬ sp < 0) (h2 : ¬ dp < 0) (h3 : ¬ n < 0) (h4 : ks + kn ≤ n0) (h5 : kd + kn ≤ n1)
    (hframes : 1 ≤ R.frames) (hlocals : (rest.map fun v => v.category).sum + (nativeFrameWords "java/lang/System" "arraycopy" 5 + 11) ≤ R.locals) (hdg : decode cc pc = .ok (.invokestatic index, 3))
    (kk : ∀ (H1 : Heap) (locs1 : List Loc), va_P D cl (ws.set q1 (b, .inl (c0, n1, .inl (va_cpy f g ks kd kn)))) H1 → va_D A (ws.set q1 (b, .inl (c0, n1, .inl (va_cpy f g ks kd kn)))) → va_S A H0 H1 locs1 → W p l e R s m args below meth c H1 locs1 cells slots Q (F0 m (pc + 3) ls rest)) : W p l e R s m args below meth c H locs cells slots Q (F0 m pc ls (.int n :: .int dp :: .ref b :: .int sp :: .ref a0 :: rest)) := by
  subst es; subst ed; subst en
  exact va_copyi hx hb hml hown hlink hnat hstat hini hK hP hD hS q0 q1 t0 t0 ha0 ha1 ht0 ht0 rfl h1 h2 h3 h4 h5 (fun _ _ => rfl) hframes hlocals hdg kk
theorem cCopyL (hx : p.tables.exec = Jvm.exec) (hb : c.code = cc) (hml : c.maxLocals = ls.size) (hown : s.vm.findClass own = some m.cls) (hlink : (Cond.methodLink own index arraycopyName).before args s = true) (hnat : (Cond.native arraycopyName).before args s = true) (hstat : (Cond.static arraycopyName).before args s = true) (hini : (Cond.initialized "java/lang/System").before args s = true)
    (hK : va_K D cl tys s) (hP : va_P D cl ws H) (hD : va_D A ws) (hS : va_S A H0 H locs) (q0 q1 t0 : Nat) {a0 : Nat} {c0 : ClassId} {n0 n1 : Nat} {f g : Nat → Int64} (ha0 : ws[q0]? = some (a0, .inl (c0, n0, .inr (.inl f)))) (ha1 : ws[q1]? = some (b, .inl (c0, n1, .inr (.inl g)))) (ht0 : tys[t0]? = some (c0, .long))
    {sp dp n : Int32} (ks kd kn : Nat) (es : sp.toNatClampNeg = ks) (ed : dp.toNatClampNeg = kd) (en : n.toNatClampNeg = kn) (h1 : ¬ sp < 0) (h2 : ¬ dp < 0) (h3 : ¬ n < 0) (h4 : ks + kn ≤ n0) (h5 : kd + kn ≤ n1)
    (hframes : 1 ≤ R.frames) (hlocals : (rest.map fun v => v.category).sum + (nativeFrameWords "java/lang/System" "arraycopy" 5 + 11) ≤ R.locals) (hdg : decode cc pc = .ok (.invokestatic index, 3))
    (kk : ∀ (H1 : Heap) (locs1 : List Loc), va_P D cl (ws.set q1 (b, .inl (c0, n1, .inr (.inl (va_cpy f g ks kd kn))))) H1 → va_D A (ws.set q1 (b, .inl (c0, n1, .inr (.inl (va_cpy f g ks kd kn))))) → va_S A H0 H1 locs1 → W p l e R s m args below meth c H1 locs1 cells slots Q (F0 m (pc + 3) ls rest)) : W p l e R s m args below meth c H locs cells slots Q (F0 m pc ls (.int n :: .int dp :: .ref b :: .int sp :: .ref a0 :: rest)) := by
  subst es; subst ed; subst en
  exact va_copyl hx hb hml hown hlink hnat hstat hini hK hP hD hS q0 q1 t0 t0 ha0 ha1 ht0 ht0 rfl h1 h2 h3 h4 h5 (fun _ _ => rfl) hframes hlocals hdg kk
theorem cCopyZ (hx : p.tables.exec = Jvm.exec) (hb : c.code = cc) (hml : c.maxLocals = ls.size) (hown : s.vm.findClass own = some m.cls) (hlink : (Cond.methodLink own index arraycopyName).before args s = true) (hnat : (Cond.native arraycopyName).before args s = true) (hstat : (Cond.static arraycopyName).before args s = true) (hini : (Cond.initialized "java/lang/System").before args s = true)
    (hK : va_K D cl tys s) (hP : va_P D cl ws H) (hD : va_D A ws) (hS : va_S A H0 H locs) (q0 q1 t0 : Nat) {a0 : Nat} {c0 : ClassId} {n0 n1 : Nat} {f g : Nat → Int32} (ha0 : ws[q0]? = some (a0, .inl (c0, n0, .inl f))) (ha1 : ws[q1]? = some (b, .inl (c0, n1, .inl g))) (ht0 : tys[t0]? = some (c0, .boolean))
    {n : Int32} (kn : Nat) (es : (0 : Int32).toNatClampNeg = 0) (ed : (0 : Int32).toNatClampNeg = 0) (en : n.toNatClampNeg = kn) (h1 : ¬ (0 : Int32) < 0) (h2 : ¬ (0 : Int32) < 0) (h3 : ¬ n < 0) (h4 : 0 + kn ≤ n0) (h5 : 0 + kn ≤ n1) (hz : ∀ i : Nat, i < kn → f i = 0 ∨ f i = 1)
    (hframes : 1 ≤ R.frames) (hlocals : (rest.map fun v => v.category).sum + (nativeFrameWords "java/lang/System" "arraycopy" 5 + 11) ≤ R.locals) (hdg : decode cc pc = .ok (.invokestatic index, 3))
    (kk : ∀ (H1 : Heap) (locs1 : List Loc), va_P D cl (ws.set q1 (b, .inl (c0, n1, .inl (va_cpy f g 0 0 kn)))) H1 → va_D A (ws.set q1 (b, .inl (c0, n1, .inl (va_cpy f g 0 0 kn)))) → va_S A H0 H1 locs1 → W p l e R s m args below meth c H1 locs1 cells slots Q (F0 m (pc + 3) ls rest)) : W p l e R s m args below meth c H locs cells slots Q (F0 m pc ls (.int n :: .int 0 :: .ref b :: .int 0 :: .ref a0 :: rest)) := by
  subst en
  refine va_copyi hx hb hml hown hlink hnat hstat hini hK hP hD hS q0 q1 t0 t0 ha0 ha1 ht0 ht0 rfl h1 h2 h3 (by rw [es]; exact h4) (by rw [es]; exact h5) (fun i hi => ?_) hframes hlocals hdg (by rw [es]; exact kk)
  rw [es, Nat.zero_add]
  exact zb_f (hz i hi)
end CPY
