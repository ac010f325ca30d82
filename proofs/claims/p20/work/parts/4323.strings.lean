/-! Strings: the reader's constants, outside of what is written -/
def lets : List Int32 := [97, 98, 99, 100, 101, 102, 103, 104, 105, 106, 107, 108, 109, 110, 111, 112, 113, 114, 115, 116, 117, 118, 119, 120, 121, 122]
def sW (w : List Int32) : Prop := w.length < 2 ^ 31 ∧ ∀ b ∈ w, b ∈ lets
def sAt (A : Nat → Prop) (U : State) (H : Heap) (w : List Int32) (q : Nat) : Prop := sW w ∧ va_O "java/lang/String" q A U H ∧ va_OF "java/lang/String" "coder" "B" (.int 0) q A U H ∧ ∃ t : Nat, va_OF "java/lang/String" "value" "[B" (.ref t) q A U H ∧ va_T .byte t w.length (fun j => .int (w.getD j 0)) A U H
theorem sAt.moved {A : Nat → Prop} {u U : State} {H : Heap} {w : List Int32} {q : Nat} (hvm : u.vm.Alike U.vm) (h : sAt A u H w q) : sAt A U H w q := by
  obtain ⟨h0, h1, h2, t, h3, h4⟩ := h
  exact ⟨h0, h1.moved hvm, h2.moved hvm, t, h3.moved hvm, h4.moved hvm⟩
theorem sAt.kept {A : Nat → Prop} {U : State} {H H1 : Heap} {w : List Int32} {q : Nat} (h : sAt A U H w q) (hq : ∀ a : Nat, a < H.size → ¬ A a → H1[a]? = H[a]?) : sAt A U H1 w q := by
  obtain ⟨h0, h1, h2, t, h3, h4⟩ := h
  exact ⟨h0, h1.kept hq, h2.kept hq, t, h3.kept hq, h4.kept hq⟩
theorem sAt.narrow {A B : Nat → Prop} {U : State} {H : Heap} {w : List Int32} {q : Nat} (h : sAt A U H w q) (hAB : ∀ q, B q → A q) : sAt B U H w q := by
  obtain ⟨h0, h1, h2, t, h3, h4⟩ := h
  exact ⟨h0, h1.narrow hAB, h2.narrow hAB, t, h3.narrow hAB, h4.narrow hAB⟩
def scL : List (Nat × String × List Int32) := [(131, "rail", [114, 97, 105, 108]), (137, "places", [112, 108, 97, 99, 101, 115]), (145, "nights", [110, 105, 103, 104, 116, 115]), (46, "lamp", [108, 97, 109, 112]), (149, "at", [97, 116]), (151, "bright", [98, 114, 105, 103, 104, 116]), (68, "lock", [108, 111, 99, 107]), (157, "price", [112, 114, 105, 99, 101]), (159, "cuts", [99, 117, 116, 115]), (80, "bike", [98, 105, 107, 101]), (164, "worth", [119, 111, 114, 116, 104]), (166, "seems", [115, 101, 101, 109, 115]), (178, "marked", [109, 97, 114, 107, 101, 100]), (92, "thief", [116, 104, 105, 101, 102]), (183, "tool", [116, 111, 111, 108]), (185, "comes", [99, 111, 109, 101, 115]), (187, "fears", [102, 101, 97, 114, 115]), (189, "best", [98, 101, 115, 116]), (191, "any", [97, 110, 121]), (193, "just", [106, 117, 115, 116]), (104, "mark", [109, 97, 114, 107]), (201, "known", [107, 110, 111, 119, 110]), (205, "hidden", [104, 105, 100, 100, 101, 110]), (113, "watch", [119, 97, 116, 99, 104]), (209, "wage", [119, 97, 103, 101]), (213, "adds", [97, 100, 100, 115])]
def sAll (A : Nat → Prop) (U : State) (H : Heap) : Prop := (∀ c ∈ scL, ∃ q : Nat, vk_R RX5 c.1 c.2.1 q U ∧ sAt A U H c.2.2 q) ∧ va_Z "java/lang/String" "COMPACT_STRINGS" "Z" (.int 1) A U H ∧ va_Zq "jdk/internal/util/Preconditions" "SIOOBE_FORMATTER" "Ljava/util/function/BiFunction;" A U H
abbrev SX : Type := (Nat → Prop) → State → Heap → Prop
/-- what a premise on Strings bears -/
def sOK (X : SX) : Prop := (∀ (A : Nat → Prop) (s U : State) (H : Heap), s.WarmedH U.vm → X A s H → X A U H) ∧ (∀ (A : Nat → Prop) (s U : State) (H : Heap), U.vm = s.vm → X A s H → X A U H) ∧ (∀ (A : Nat → Prop) (U : State) (H H1 : Heap), (∀ a : Nat, a < H.size → ¬ A a → H1[a]? = H[a]?) → X A U H → X A U H1) ∧ (∀ (A B : Nat → Prop) (U : State) (H : Heap), (∀ q, B q → A q) → X A U H → X B U H)
theorem alike_e9 {s U : State} (e : U.vm = s.vm) : s.vm.Alike U.vm := e ▸ Vm.Alike.refl s.vm
theorem sAll.ok : sOK sAll := by
  refine ⟨fun A s U H hW h => ?_, fun A s U H e h => ?_, fun A U H H1 hq h => ?_, fun A B U H hq h => ?_⟩
  · refine ⟨fun c hc => ?_, h.2.1.moved hW.alike, h.2.2.moved hW.alike⟩
    obtain ⟨q, h1, h2⟩ := h.1 c hc
    exact ⟨q, vk_R.warm hW h1, h2.moved hW.alike⟩
  · refine ⟨fun c hc => ?_, h.2.1.moved (alike_e9 e), h.2.2.moved (alike_e9 e)⟩
    obtain ⟨q, h1, h2⟩ := h.1 c hc
    exact ⟨q, vk_R.same e h1, h2.moved (alike_e9 e)⟩
  · refine ⟨fun c hc => ?_, h.2.1.kept hq, h.2.2.kept hq⟩
    obtain ⟨q, h1, h2⟩ := h.1 c hc
    exact ⟨q, h1, h2.kept hq⟩
  · refine ⟨fun c hc => ?_, h.2.1.narrow hq, h.2.2.narrow hq⟩
    obtain ⟨q, h1, h2⟩ := h.1 c hc
    exact ⟨q, h1, h2.narrow hq⟩
def X1 (w : List Int32) (q : Nat) : SX := fun A U H => sAll A U H ∧ sAt A U H w q
def X2 (w : List Int32) (t : Nat) : SX := fun A U H => sAll A U H ∧ sW w ∧ va_T .byte t w.length (fun j => .int (w.getD j 0)) A U H
theorem X1.ok (w : List Int32) (q : Nat) : sOK (X1 w q) := ⟨fun A s U H hW h => ⟨sAll.ok.1 A s U H hW h.1, h.2.moved hW.alike⟩, fun A s U H e h => ⟨sAll.ok.2.1 A s U H e h.1, h.2.moved (alike_e9 e)⟩, fun A U H H1 hq h => ⟨sAll.ok.2.2.1 A U H H1 hq h.1, h.2.kept hq⟩, fun A B U H hq h => ⟨sAll.ok.2.2.2 A B U H hq h.1, h.2.narrow hq⟩⟩
theorem X2.ok (w : List Int32) (t : Nat) : sOK (X2 w t) := ⟨fun A s U H hW h => ⟨sAll.ok.1 A s U H hW h.1, h.2.1, h.2.2.moved hW.alike⟩, fun A s U H e h => ⟨sAll.ok.2.1 A s U H e h.1, h.2.1, h.2.2.moved (alike_e9 e)⟩, fun A U H H1 hq h => ⟨sAll.ok.2.2.1 A U H H1 hq h.1, h.2.1, h.2.2.kept hq⟩, fun A B U H hq h => ⟨sAll.ok.2.2.2 A B U H hq h.1, h.2.1, h.2.2.narrow hq⟩⟩
def cPreS (D : va_G) (C : Nat → ClassId) (av : List Value) (sz : Nat) (L : List va_W) (X : SX) : Array Value → State → Prop := va_Pc av (fun U => U.heap.size = sz ∧ va_P D vwCl L.flatten U.heap ∧ va_K D vwCl (cTys C) U ∧ nst U ∧ va_D (fun _ => True) L.flatten ∧ X (va_A L.flatten sz) U U.heap)
theorem cPreS.blind {D : va_G} {C : Nat → ClassId} {av : List Value} {sz : Nat} {L : List va_W} {X : SX} (hX : sOK X) : FrameBlind (cPreS D C av sz L X) := fun a U g mk q => by
  obtain ⟨q0, q1, qP, qK, qN, qD, qX⟩ := q
  exact ⟨q0, q1, qP, va_K.moved (u := U) (U := U.calling g mk a) (Vm.Alike.refl U.vm) qK, nst.same rfl qN, qD, hX.2.1 _ U _ _ rfl qX⟩
theorem cPreS.now {D : va_G} {C : Nat → ClassId} {av : List Value} {L : List va_W} {H : Heap} {s : State} {A : Nat → Prop} {X : SX} {locs : List Loc} (hX : sOK X) (h : X A s s.heap) (hS : va_S A s.heap H locs) (hF : ∀ q, va_A L.flatten H.size q → A q) (hP : va_P D vwCl L.flatten H) (hD : va_D A L.flatten) (hK : va_K D vwCl (cTys C) s) (hN : nst s) : ∀ U : State, U.heap = H → s.WarmedH U.vm → cPreS D C av H.size L X av.toArray U := fun U hU hW => ⟨rfl, by rw [hU], by rw [hU]; exact hP, va_K.moved hW.alike hK, nst.warm hW hN, hD.weaken (fun _ _ _ _ => trivial), by rw [hU]; exact hX.1 _ s U _ hW (hX.2.2.2 _ _ _ _ hF (hX.2.2.1 _ _ _ _ hS.2.1 h))⟩
theorem cStartS {l : Launch} {y : MethodName} {rm : Room} {QA : (Nat → Prop) → Array Value → State → Outcome → State → Prop} {mc ms sz maxL : Nat} {cc : ByteArray} {ret : Option FieldType} {D : va_G} {C : Nat → ClassId} {av : List Value} {L : List va_W} {X : SX}
    (hy : plainName y.cls = true) (hlen : (lg_sl av).length ≤ maxL)
    (body : ∀ (p : Program) (e : Env) (s : State) (m : MethodId) (args : Array Value) (below : List Frame) (meth : Method) (c : Code) (A : Nat → Prop) (ls : Array Slot),
      p.tables.exec = Jvm.exec → c.code = cc → meth.sig.returnType = ret → c.maxLocals = maxL → s.vm.findClass y.cls = some m.cls → (∀ w ∈ WS, w.before args s = true) → meth.locks = false → meth.name = y.name → va_K D vwCl (cTys C) s → nst s → (∀ q, s.heap.size ≤ q → A q) →
      va_P D vwCl L.flatten s.heap → va_D A L.flatten → va_S A s.heap s.heap [] → lv_has ls maxL (lv_args 0 av) → X A s s.heap →
      W p l e rm s m args below meth c s.heap [] 0 0 (MQ below (QA A) args s mc ms A) (F0 m 0 ls [])) :
    Met l y (Cond.code y cc maxL ret :: WS) rm (cPreS D C av sz L X) (QA (va_A L.flatten sz)) mc ms (va_A L.flatten sz) := by
  refine Met.ofW (cc := cc) (maxL := maxL) (ret := ret) hy rfl ?_
  intro p e s m args below meth c s₁ B hml hv
  obtain ⟨rfl, hsz, hP, hK, hN, hD0, hX⟩ := hv
  subst hsz
  rw [lg_entry_eq]
  exact body p e s m av.toArray below meth c (va_A L.flatten s.heap.size) _ B.exec B.bytes B.returns hml (findClass_of_methodNamed B.named) (fun w h => atoms_spec (ws := Cond.code y cc maxL ret :: WS) B.pre w (List.mem_cons_of_mem _ h)) B.notSynchronized (name_of_methodNamed B.named B.method).1 hK hN (fun q h => Or.inr h) hP hD0.self va_S.rf (lv_entry av hlen) hX
section SRUN
variable {p : Program} {l : Launch} {e : Env} {R : Room} {s : State} {m : MethodId} {args : Array Value} {below : List Frame} {meth : Method} {c : Code} {H : Heap} {locs : List Loc} {cells slots : Nat} {Q : State → Prop} {D : va_G} {C : Nat → ClassId} {A : Nat → Prop} {cc : ByteArray} {pc : Nat} {ls : Array Slot} {rest st0 : List Value}
variable {L rc : List va_W} {mc ms nL n index maxL : Nat} {y : MethodName} {bytes : ByteArray} {ret : Option FieldType} {wsy Ts : List Cond} {rm : Room} {Qc : Array Value → State → Outcome → State → Prop} {free : Addr → Prop} {own Cn : String} {b ci N : Nat} {fs As : List Value} {T : u_T} {X : SX}
theorem cRetT {S : Type} {post : Int32 → S → Prop} {wf : S → List va_W} {v : Int32} {ty : FieldType} (u : S) (hx : p.tables.exec = Jvm.exec) (hb : c.code = cc) (hr : meth.sig.returnType = some ty) (hn : narrow ty (.int v) = .int v) (hlocks : meth.locks = false) (hS : va_S A s.heap H locs) (hP : va_P D vwCl (wf u).flatten H) (hD : va_D A (wf u).flatten) (hp : post v u) (hdg : decode cc pc = .ok (.ireturn, 1)) :
    W p l e R s m args below meth c H locs cells slots (MQ below (cQi D post wf A) args s cells slots A) (F0 m pc ls [.int v]) :=
  W.zret (v := v) hx hb hr hn (fun t ht hW => ⟨⟨v, u, rfl, hp, by rw [ht]; exact hP, hD⟩, hS.F ht⟩) hS.2.2 hdg hlocks
theorem cRunVNS (hX : sOK X) (h0 : X A s s.heap) (hS : va_S A s.heap H locs) (hA : ∀ q, s.heap.size ≤ q → A q) (F : CallFix p m c cc nL s args Ts own) (hK : va_K D vwCl (cTys C) s) (hN : nst s) (hP : va_P D vwCl L.flatten H) (hD : va_D A L.flatten) (ic : List Nat) (hic : va_nd ic = true) (hc : ic.map (fun i => L[i]?) = rc.map some)
    (hM : Met l y wsy rm (cPreS D C (.ref b :: As) H.size rc X) Qc mc ms free) (cw : va_CN R s args own index y "LockRail" bytes maxL ret wsy rm mc ms n ∧ (Cond.instanceMethod y).before args s = true ∧ (Cond.selects Cn y y).before args s = true)
    (hre : rc.flatten[0]? = some (b, .inr (ci, fs))) (hcl : vwCl[ci]? = some (Cn, T, N)) (hn : As.length = n) (hls : ls.size = nL) (hst : st0 = As.reverse ++ .ref b :: rest) (hW : (rest.map fun v => v.category).sum ≤ 8) (hdg : decode cc pc = .ok (.invokevirtual index, 3)) (hf : cells + mc ≤ R.cells ∧ slots + ms ≤ R.slots) :
    va_Run p l e R s m args below meth c H locs cells slots mc ms (F0 m pc ls st0) rest (Qc (Value.ref b :: As).toArray) free := by
  have hPc := rg_subP hP ic hc
  exact va_runVN F hM cw ⟨cPreS.blind hX, va_recv hK hPc hcl hre, cPreS.now hX h0 hS (rg_free hD hS hA ic hc) hPc (rg_subD hD ic hic hc) hK hN⟩ rfl hn hls hst (lv_room hW) hdg hf
theorem cRunVS (hX : sOK X) (h0 : X A s s.heap) (hS : va_S A s.heap H locs) (hA : ∀ q, s.heap.size ≤ q → A q) (F : CallFix p m c cc nL s args Ts own) (hK : va_K D vwCl (cTys C) s) (hN : nst s) (hP : va_P D vwCl L.flatten H) (hD : va_D A L.flatten) (ic : List Nat) (hic : va_nd ic = true) (hc : ic.map (fun i => L[i]?) = rc.map some)
    (hM : Met l y wsy rm (cPreS D C (.ref b :: As) H.size rc X) Qc mc ms free) (cw : CallW R s args own Cn index y bytes maxL ret wsy rm mc ms n)
    (hre : rc.flatten[0]? = some (b, .inr (ci, fs))) (hcl : vwCl[ci]? = some (Cn, T, N)) (hn : As.length = n) (hls : ls.size = nL) (hst : st0 = As.reverse ++ .ref b :: rest) (hW : (rest.map fun v => v.category).sum ≤ 8) (hdg : decode cc pc = .ok (.invokevirtual index, 3)) (hf : cells + mc ≤ R.cells ∧ slots + ms ≤ R.slots) :
    va_Run p l e R s m args below meth c H locs cells slots mc ms (F0 m pc ls st0) rest (Qc (Value.ref b :: As).toArray) free := by
  have hPc := rg_subP hP ic hc
  exact va_runV F hM cw ⟨cPreS.blind hX, va_recv hK hPc hcl hre, cPreS.now hX h0 hS (rg_free hD hS hA ic hc) hPc (rg_subD hD ic hic hc) hK hN⟩ rfl hn hls hst (lv_room hW) hdg hf
theorem cRunSS (hX : sOK X) (h0 : X A s s.heap) (hS : va_S A s.heap H locs) (hA : ∀ q, s.heap.size ≤ q → A q) (F : CallFix p m c cc nL s args Ts own) (hK : va_K D vwCl (cTys C) s) (hN : nst s) (hP : va_P D vwCl L.flatten H) (hD : va_D A L.flatten) (ic : List Nat) (hic : va_nd ic = true) (hc : ic.map (fun i => L[i]?) = rc.map some)
    (hM : Met l y wsy rm (cPreS D C As H.size rc X) Qc mc ms free) (cw : CallB R s args own index y bytes maxL ret wsy rm mc ms n ∧ (Cond.static y).before args s = true)
    (hn : As.length = n) (hls : ls.size = nL) (hst : st0 = As.reverse ++ rest) (hW : (rest.map fun v => v.category).sum ≤ 8) (hdg : decode cc pc = .ok (.invokestatic index, 3)) (hf : cells + mc ≤ R.cells ∧ slots + ms ≤ R.slots) :
    va_Run p l e R s m args below meth c H locs cells slots mc ms (F0 m pc ls st0) rest (Qc As.toArray) free := by
  have hPc := rg_subP hP ic hc
  exact va_runS F hM cw ⟨cPreS.blind hX, cPreS.now hX h0 hS (rg_free hD hS hA ic hc) hPc (rg_subD hD ic hic hc) hK hN⟩ rfl hn hls hst (lv_room hW) hdg hf
/-- a method of a String -/
theorem cRunVQ (hX : sOK X) (h0 : X A s s.heap) (hS : va_S A s.heap H locs) (hA : ∀ q, s.heap.size ≤ q → A q) (F : CallFix p m c cc nL s args Ts own) (hK : va_K D vwCl (cTys C) s) (hN : nst s) (hq : va_O "java/lang/String" b A s s.heap)
    (hM : Met l y wsy rm (cPreS D C (.ref b :: As) H.size [] X) Qc mc ms free) (cw : CallW R s args own "java/lang/String" index y bytes maxL ret wsy rm mc ms n)
    (hn : As.length = n) (hls : ls.size = nL) (hst : st0 = As.reverse ++ .ref b :: rest) (hW : (rest.map fun v => v.category).sum ≤ 8) (hdg : decode cc pc = .ok (.invokevirtual index, 3)) (hf : cells + mc ≤ R.cells ∧ slots + ms ≤ R.slots) :
    va_Run p l e R s m args below meth c H locs cells slots mc ms (F0 m pc ls st0) rest (Qc (Value.ref b :: As).toArray) free := by
  obtain ⟨cell, g1, g2, g3, -⟩ := hq.kept hS.2.1
  have hP0 : va_P D vwCl (List.flatten ([] : List va_W)) H := fun k q hk => absurd hk (by simp)
  have hD0 : va_D A (List.flatten ([] : List va_W)) := ⟨fun i j p q hi => absurd hi (by simp), fun k q hk => absurd hk (by simp)⟩
  exact va_runV F hM cw ⟨cPreS.blind hX, ⟨cell, g1, g2, g3⟩, cPreS.now hX h0 hS (fun q h => hA q (Nat.le_trans hS.1 ((rg_A.mp h).resolve_left (fun ⟨_, h⟩ => absurd h (by simp))))) hP0 hD0 hK hN⟩ rfl hn hls hst (lv_room hW) hdg hf
end SRUN
theorem s_pos {i : Int32} {n : Nat} (h : vp_in i n) : ¬ i < 0 := fun c => h (Or.inl c)
theorem s_lt {i : Int32} {n : Nat} (h : vp_in i n) (hn : n < 2 ^ 31) : i < Int32.ofNat n := by
  have h0 := s_pos h
  obtain ⟨k, hk, rfl⟩ := nI_of h0
  have h1 : ¬ n ≤ k := fun c => h (Or.inr (by rw [nI_clamp hk]; exact c))
  exact nI_lt (by omega) hn
theorem s_lets : ∀ b ∈ lets, ((b &&& 255).toUInt32 % 65536).toInt32 = b ∧ narrow .char (.int b) = .int b := by decide +kernel
theorem s_let {w : List Int32} (hw : sW w) {i : Int32} (h : vp_in i w.length) : (((w.getD i.toNatClampNeg 0) &&& 255).toUInt32 % 65536).toInt32 = w.getD i.toNatClampNeg 0 ∧ narrow .char (.int (w.getD i.toNatClampNeg 0)) = .int (w.getD i.toNatClampNeg 0) := by
  have hl : i.toNatClampNeg < w.length := Nat.lt_of_not_le (fun c => h (Or.inr c))
  refine s_lets _ (hw.2 _ ?_)
  rw [List.getD_eq_getElem?_getD, List.getElem?_eq_getElem hl]
  exact List.getElem_mem hl
abbrev rmJ0_coder_7d493 : Room := { frames := 0, cells := 0, slots := 0, locals := 0 }
set_option maxHeartbeats 4000000 in
set_option maxRecDepth 100000 in
theorem k_J0_coder (l : Launch) (D : va_G) (C : Nat → ClassId) (sz : Nat) (w : List Int32) (q : Nat) : Met l yJ0_coder_7d493 (Cond.code yJ0_coder_7d493 cJ0_coder_7d493 1 (some .byte) :: WS) rmJ0_coder_7d493 (cPreS D C [.ref q] sz [] (X1 w q)) (cQi D (fun (r : Int32) (_ : Unit) => r = 0) (fun _ => []) (va_A (List.flatten []) sz)) 0 0 (va_A (List.flatten []) sz) := by
  refine cStartS (QA := fun A => cQi D (fun (r : Int32) (_ : Unit) => r = 0) (fun _ => []) A) (cc := cJ0_coder_7d493) (maxL := 1) (ret := (some .byte)) (by decide) (Nat.le_of_ble_eq_true rfl) ?_
  intro p e s m args below meth c A ls hx hb hr hml hown hw hlocks hname hK hN hA hP hD hS hl hX
  generalize hQ : MQ below _ args s 0 0 A = Q
  obtain ⟨hZ, hq⟩ := hX
  have hl : lv_has ls 1 [(0, .ref q)] := hl
  refine va_gets hx hb hZ.2.1 hS hown (hw _ mw_2_233) (fun _ h9 => h9) dJ0_coder_7d493_0 ?_
  refine lv_if_eq (tgt := 13) hx hb dJ0_coder_7d493_3 (by decide) (fun c1 => absurd c1 (by decide)) (fun _ => ?_)
  refine lv_aload_n hx hb dJ0_coder_7d493_6 rfl (lv_at hl 0 rfl) ?_
  refine vk_getf hx hb hq.2.2.1 hS hown (hw _ mw_9_105) (fun _ h9 => h9) dJ0_coder_7d493_7 ?_
  refine lv_goto (tgt := 14) hx hb dJ0_coder_7d493_10 (by decide) ?_
  rw [← hQ]
  exact cRetT (v := 0) () hx hb hr rfl hlocks hS hP hD rfl dJ0_coder_7d493_14
abbrev rmJ0_isLatin1_aae02 : Room := { frames := 0, cells := 0, slots := 0, locals := 0 }
set_option maxHeartbeats 4000000 in
set_option maxRecDepth 100000 in
theorem k_J0_isLatin1 (l : Launch) (D : va_G) (C : Nat → ClassId) (sz : Nat) (w : List Int32) (q : Nat) : Met l yJ0_isLatin1_aae02 (Cond.code yJ0_isLatin1_aae02 cJ0_isLatin1_aae02 1 (some .boolean) :: WS) rmJ0_isLatin1_aae02 (cPreS D C [.ref q] sz [] (X1 w q)) (cQi D (fun (r : Int32) (_ : Unit) => r = 1) (fun _ => []) (va_A (List.flatten []) sz)) 0 0 (va_A (List.flatten []) sz) := by
  refine cStartS (QA := fun A => cQi D (fun (r : Int32) (_ : Unit) => r = 1) (fun _ => []) A) (cc := cJ0_isLatin1_aae02) (maxL := 1) (ret := (some .boolean)) (by decide) (Nat.le_of_ble_eq_true rfl) ?_
  intro p e s m args below meth c A ls hx hb hr hml hown hw hlocks hname hK hN hA hP hD hS hl hX
  generalize hQ : MQ below _ args s 0 0 A = Q
  obtain ⟨hZ, hq⟩ := hX
  have hl : lv_has ls 1 [(0, .ref q)] := hl
  refine va_gets hx hb hZ.2.1 hS hown (hw _ mw_2_233) (fun _ h9 => h9) dJ0_isLatin1_aae02_0 ?_
  refine lv_if_eq (tgt := 17) hx hb dJ0_isLatin1_aae02_3 (by decide) (fun c1 => absurd c1 (by decide)) (fun _ => ?_)
  refine lv_aload_n hx hb dJ0_isLatin1_aae02_6 rfl (lv_at hl 0 rfl) ?_
  refine vk_getf hx hb hq.2.2.1 hS hown (hw _ mw_9_105) (fun _ h9 => h9) dJ0_isLatin1_aae02_7 ?_
  refine lv_if_ne (tgt := 17) hx hb dJ0_isLatin1_aae02_10 (by decide) (fun c1 => absurd rfl c1) (fun _ => ?_)
  refine lv_iconst (v := 1) hx hb dJ0_isLatin1_aae02_13 (by decide) ?_
  refine lv_goto (tgt := 18) hx hb dJ0_isLatin1_aae02_14 (by decide) ?_
  rw [← hQ]
  exact cRetT (v := 1) () hx hb hr rfl hlocks hS hP hD rfl dJ0_isLatin1_aae02_18
abbrev rmJ3_checkIndex_8e157 : Room := { frames := 0, cells := 0, slots := 0, locals := 0 }
set_option maxHeartbeats 4000000 in
set_option maxRecDepth 100000 in
theorem k_J3_checkIndex (l : Launch) (D : va_G) (C : Nat → ClassId) (sz : Nat) (i n : Int32) (o : Value) (h0 : ¬ i < 0) (h1 : i < n) (ho : o = .null ∨ ∃ t : Nat, o = .ref t) : Met l yJ3_checkIndex_8e157 (Cond.code yJ3_checkIndex_8e157 cJ3_checkIndex_8e157 3 (some .int) :: WS) rmJ3_checkIndex_8e157 (cPre D C [.int i, .int n, o] sz []) (cQi D (fun (r : Int32) (_ : Unit) => r = i) (fun _ => []) (va_A (List.flatten []) sz)) 0 0 (va_A (List.flatten []) sz) := by
  rcases ho with rfl | ⟨t, rfl⟩
  · refine cStart (QA := fun A => cQi D (fun (r : Int32) (_ : Unit) => r = i) (fun _ => []) A) (cc := cJ3_checkIndex_8e157) (maxL := 3) (ret := (some .int)) (by decide) (Nat.le_of_ble_eq_true rfl) ?_
    intro p e s m args below meth c A ls hx hb hr hml hown hw hlocks hname hK hN hA hP hD hS hl
    generalize hQ : MQ below _ args s 0 0 A = Q
    have hl : lv_has ls 3 [(0, .int i), (1, .int n)] := lv_sub hl [0, 1] rfl
    refine lv_iload_n hx hb dJ3_checkIndex_8e157_0 rfl (lv_at hl 0 rfl) ?_
    refine lv_if_lt (tgt := 9) hx hb dJ3_checkIndex_8e157_1 (by decide) (fun c1 => absurd c1 h0) (fun _ => ?_)
    refine lv_iload_n hx hb dJ3_checkIndex_8e157_4 rfl (lv_at hl 0 rfl) ?_
    refine lv_iload_n hx hb dJ3_checkIndex_8e157_5 rfl (lv_at hl 1 rfl) ?_
    refine lv_icmp_lt (tgt := 16) hx hb dJ3_checkIndex_8e157_6 (by decide) (fun _ => ?_) (fun c1 => absurd h1 c1)
    refine lv_iload_n hx hb dJ3_checkIndex_8e157_16 rfl (lv_at hl 0 rfl) ?_
    rw [← hQ]
    exact cRetI (v := i) () hx hb hr hlocks hS hP hD rfl dJ3_checkIndex_8e157_17
  · refine cStart (QA := fun A => cQi D (fun (r : Int32) (_ : Unit) => r = i) (fun _ => []) A) (cc := cJ3_checkIndex_8e157) (maxL := 3) (ret := (some .int)) (by decide) (Nat.le_of_ble_eq_true rfl) ?_
    intro p e s m args below meth c A ls hx hb hr hml hown hw hlocks hname hK hN hA hP hD hS hl
    generalize hQ : MQ below _ args s 0 0 A = Q
    have hl : lv_has ls 3 [(0, .int i), (1, .int n)] := lv_sub hl [0, 1] rfl
    refine lv_iload_n hx hb dJ3_checkIndex_8e157_0 rfl (lv_at hl 0 rfl) ?_
    refine lv_if_lt (tgt := 9) hx hb dJ3_checkIndex_8e157_1 (by decide) (fun c1 => absurd c1 h0) (fun _ => ?_)
    refine lv_iload_n hx hb dJ3_checkIndex_8e157_4 rfl (lv_at hl 0 rfl) ?_
    refine lv_iload_n hx hb dJ3_checkIndex_8e157_5 rfl (lv_at hl 1 rfl) ?_
    refine lv_icmp_lt (tgt := 16) hx hb dJ3_checkIndex_8e157_6 (by decide) (fun _ => ?_) (fun c1 => absurd h1 c1)
    refine lv_iload_n hx hb dJ3_checkIndex_8e157_16 rfl (lv_at hl 0 rfl) ?_
    rw [← hQ]
    exact cRetI (v := i) () hx hb hr hlocks hS hP hD rfl dJ3_checkIndex_8e157_17
abbrev rmJ0_checkIndex_df160 : Room := { frames := 1, cells := 0, slots := 0, locals := 22 }
set_option maxHeartbeats 4000000 in
set_option maxRecDepth 100000 in
theorem k_J0_checkIndex (l : Launch) (D : va_G) (C : Nat → ClassId) (sz : Nat) (i n : Int32) (h0 : ¬ i < 0) (h1 : i < n) : Met l yJ0_checkIndex_df160 (Cond.code yJ0_checkIndex_df160 cJ0_checkIndex_df160 2 none :: WS) rmJ0_checkIndex_df160 (cPreS D C [.int i, .int n] sz [] (sAll)) (cQv D (fun (_ : Unit) => True) (fun _ => []) (va_A (List.flatten []) sz)) 0 0 (va_A (List.flatten []) sz) := by
  refine cStartS (QA := fun A => cQv D (fun (_ : Unit) => True) (fun _ => []) A) (cc := cJ0_checkIndex_df160) (maxL := 2) (ret := none) (by decide) (Nat.le_of_ble_eq_true rfl) ?_
  intro p e s m args below meth c A ls hx hb hr hml hown hw hlocks hname hK hN hA hP hD hS hl hX
  generalize hQ : MQ below _ args s 0 0 A = Q
  have hZ : sAll A s s.heap := hX
  have hl : lv_has ls 2 [(0, .int i), (1, .int n)] := hl
  refine lv_iload_n hx hb dJ0_checkIndex_df160_0 rfl (lv_at hl 0 rfl) ?_
  refine lv_iload_n hx hb dJ0_checkIndex_df160_1 rfl (lv_at hl 1 rfl) ?_
  rcases hZ.2.2 with hz | ⟨t, hz⟩
  · refine va_gets hx hb hz hS hown (hw _ mw_3_9) (fun _ h9 => h9) dJ0_checkIndex_df160_2 ?_
    refine cGoI (wo := fun _ => []) (cRunS (As := [.int i, .int n, .null]) (rest := []) ⟨hx, hb, hml, hown, hw⟩ hK hN hP hD [] rfl rfl (k_J3_checkIndex l D C _ i n .null h0 h1 (Or.inl rfl)) (va_cwS 3 hw (goodS mw_3_11 mw_3_12 mw_1_17 mw_3_13) rfl rfl rfl (by decide +kernel) ⟨Nat.le_of_ble_eq_true rfl, Nat.le_of_ble_eq_true rfl⟩) rfl hl.1 rfl (Nat.le_of_ble_eq_true rfl) dJ0_checkIndex_df160_5 ⟨Nat.zero_le _, Nat.zero_le _⟩) hP hD hS hA [] [] [] rfl rfl rfl (by decide) rfl (fun _ => rfl) (fun r u H locs er hP hD hS => ?_)
    refine lv_pop hx hb dJ0_checkIndex_df160_8 rfl ?_
    rw [← hQ]
    exact cRetV () hx hb hr hlocks hS hP hD trivial dJ0_checkIndex_df160_9
  · refine va_gets hx hb hz hS hown (hw _ mw_3_9) (fun _ h9 => h9) dJ0_checkIndex_df160_2 ?_
    refine cGoI (wo := fun _ => []) (cRunS (As := [.int i, .int n, .ref t]) (rest := []) ⟨hx, hb, hml, hown, hw⟩ hK hN hP hD [] rfl rfl (k_J3_checkIndex l D C _ i n (.ref t) h0 h1 (Or.inr ⟨t, rfl⟩)) (va_cwS 3 hw (goodS mw_3_11 mw_3_12 mw_1_17 mw_3_13) rfl rfl rfl (by decide +kernel) ⟨Nat.le_of_ble_eq_true rfl, Nat.le_of_ble_eq_true rfl⟩) rfl hl.1 rfl (Nat.le_of_ble_eq_true rfl) dJ0_checkIndex_df160_5 ⟨Nat.zero_le _, Nat.zero_le _⟩) hP hD hS hA [] [] [] rfl rfl rfl (by decide) rfl (fun _ => rfl) (fun r u H locs er hP hD hS => ?_)
    refine lv_pop hx hb dJ0_checkIndex_df160_8 rfl ?_
    rw [← hQ]
    exact cRetV () hx hb hr hlocks hS hP hD trivial dJ0_checkIndex_df160_9
abbrev rmJ1_charAt_3b067 : Room := { frames := 2, cells := 0, slots := 0, locals := 43 }
set_option maxHeartbeats 4000000 in
set_option maxRecDepth 100000 in
theorem k_J1_charAt (l : Launch) (D : va_G) (C : Nat → ClassId) (sz : Nat) (w : List Int32) (t : Nat) (i : Int32) (hi : vp_in i w.length) : Met l yJ1_charAt_3b067 (Cond.code yJ1_charAt_3b067 cJ1_charAt_3b067 2 (some .char) :: WS) rmJ1_charAt_3b067 (cPreS D C [.ref t, .int i] sz [] (X2 w t)) (cQi D (fun (r : Int32) (_ : Unit) => r = w.getD i.toNatClampNeg 0) (fun _ => []) (va_A (List.flatten []) sz)) 0 0 (va_A (List.flatten []) sz) := by
  refine cStartS (QA := fun A => cQi D (fun (r : Int32) (_ : Unit) => r = w.getD i.toNatClampNeg 0) (fun _ => []) A) (cc := cJ1_charAt_3b067) (maxL := 2) (ret := (some .char)) (by decide) (Nat.le_of_ble_eq_true rfl) ?_
  intro p e s m args below meth c A ls hx hb hr hml hown hw hlocks hname hK hN hA hP hD hS hl hX
  generalize hQ : MQ below _ args s 0 0 A = Q
  obtain ⟨hZ, hsw, hT⟩ := hX
  have hl : lv_has ls 2 [(0, .ref t), (1, .int i)] := hl
  refine lv_iload_n hx hb dJ1_charAt_3b067_0 rfl (lv_at hl 1 rfl) ?_
  refine lv_aload_n hx hb dJ1_charAt_3b067_1 rfl (lv_at hl 0 rfl) ?_
  refine va_tlen (v := Int32.ofNat w.length) hx hb hT hS rfl dJ1_charAt_3b067_2 ?_
  refine cGoV (wo := fun _ => []) (cRunSS (X := sAll) (As := [.int i, .int (Int32.ofNat w.length)]) (rest := []) sAll.ok hZ hS hA ⟨hx, hb, hml, hown, hw⟩ hK hN hP hD [] rfl rfl (k_J0_checkIndex l D C _ i (Int32.ofNat w.length) (s_pos hi) (s_lt hi hsw.1)) (va_cwS 2 hw (goodS mw_3_6 mw_3_7 mw_1_15 mw_3_8) rfl rfl rfl (by decide +kernel) ⟨Nat.le_of_ble_eq_true rfl, Nat.le_of_ble_eq_true rfl⟩) rfl hl.1 rfl (Nat.le_of_ble_eq_true rfl) dJ1_charAt_3b067_3 ⟨Nat.zero_le _, Nat.zero_le _⟩) hP hD hS hA [] [] [] rfl rfl rfl (by decide) rfl (fun _ => rfl) (fun u H locs _ hP hD hS => ?_)
  refine lv_aload_n hx hb dJ1_charAt_3b067_6 rfl (lv_at hl 0 rfl) ?_
  refine lv_iload_n hx hb dJ1_charAt_3b067_7 rfl (lv_at hl 1 rfl) ?_
  refine va_tb (v := .int (w.getD i.toNatClampNeg 0)) hx hb hT hS hi rfl dJ1_charAt_3b067_8 ?_
  refine lv_sipush (v := 255) hx hb dJ1_charAt_3b067_9 (by decide) ?_
  refine lv_iand hx hb dJ1_charAt_3b067_12 ?_
  refine lv_i2c (v := w.getD i.toNatClampNeg 0) hx hb dJ1_charAt_3b067_13 (s_let hsw hi).1 ?_
  rw [← hQ]
  exact cRetT (v := w.getD i.toNatClampNeg 0) () hx hb hr (s_let hsw hi).2 hlocks hS hP hD rfl dJ1_charAt_3b067_14
abbrev rmJ0_length_8abf5 : Room := { frames := 1, cells := 0, slots := 0, locals := 20 }
set_option maxHeartbeats 4000000 in
set_option maxRecDepth 100000 in
theorem k_J0_length (l : Launch) (D : va_G) (C : Nat → ClassId) (sz : Nat) (w : List Int32) (q : Nat) : Met l yJ0_length_8abf5 (Cond.code yJ0_length_8abf5 cJ0_length_8abf5 1 (some .int) :: WS) rmJ0_length_8abf5 (cPreS D C [.ref q] sz [] (X1 w q)) (cQi D (fun (r : Int32) (_ : Unit) => r = Int32.ofNat w.length) (fun _ => []) (va_A (List.flatten []) sz)) 0 0 (va_A (List.flatten []) sz) := by
  refine cStartS (QA := fun A => cQi D (fun (r : Int32) (_ : Unit) => r = Int32.ofNat w.length) (fun _ => []) A) (cc := cJ0_length_8abf5) (maxL := 1) (ret := (some .int)) (by decide) (Nat.le_of_ble_eq_true rfl) ?_
  intro p e s m args below meth c A ls hx hb hr hml hown hw hlocks hname hK hN hA hP hD hS hl hX
  generalize hQ : MQ below _ args s 0 0 A = Q
  obtain ⟨hZ, hq⟩ := hX
  obtain ⟨t, hv, hT⟩ := hq.2.2.2
  have hl : lv_has ls 1 [(0, .ref q)] := hl
  refine lv_aload_n hx hb dJ0_length_8abf5_0 rfl (lv_at hl 0 rfl) ?_
  refine vk_getf hx hb hv hS hown (hw _ mw_9_104) (fun _ h9 => h9) dJ0_length_8abf5_1 ?_
  refine va_tlen (v := Int32.ofNat w.length) hx hb hT hS rfl dJ0_length_8abf5_4 ?_
  refine lv_aload_n hx hb dJ0_length_8abf5_5 rfl (lv_at hl 0 rfl) ?_
  refine cGoI (wo := fun _ => []) (cRunVQ (X := X1 w q) (As := []) (rest := [.int (Int32.ofNat w.length)]) (X1.ok _ _) ⟨hZ, hq⟩ hS hA ⟨hx, hb, hml, hown, hw⟩ hK hN hq.2.1 (k_J0_coder l D C _ w q) (cwV 0 hw (goodV mw_2_229 mw_2_230 mw_2_231 mw_1_15 mw_2_232) rfl rfl rfl (by decide +kernel) ⟨Nat.le_of_ble_eq_true rfl, Nat.le_of_ble_eq_true rfl⟩) rfl hl.1 rfl (Nat.le_of_ble_eq_true rfl) dJ0_length_8abf5_6 ⟨Nat.zero_le _, Nat.zero_le _⟩) hP hD hS hA [] [] [] rfl rfl rfl (by decide) rfl (fun _ => rfl) (fun r u H locs er hP hD hS => ?_)
  obtain rfl : r = 0 := er
  refine lv_ishr hx hb dJ0_length_8abf5_9 ?_
  refine cLitI (y := Int32.ofNat w.length) (sc_shr0 hq.1.1) ?_
  rw [← hQ]
  exact cRetI (v := Int32.ofNat w.length) () hx hb hr hlocks hS hP hD rfl dJ0_length_8abf5_10
abbrev rmJ0_charAt_5068e : Room := { frames := 3, cells := 0, slots := 0, locals := 64 }
set_option maxHeartbeats 4000000 in
set_option maxRecDepth 100000 in
theorem k_J0_charAt (l : Launch) (D : va_G) (C : Nat → ClassId) (sz : Nat) (w : List Int32) (q : Nat) (i : Int32) (hi : vp_in i w.length) : Met l yJ0_charAt_5068e (Cond.code yJ0_charAt_5068e cJ0_charAt_5068e 2 (some .char) :: WS) rmJ0_charAt_5068e (cPreS D C [.ref q, .int i] sz [] (X1 w q)) (cQi D (fun (r : Int32) (_ : Unit) => r = w.getD i.toNatClampNeg 0) (fun _ => []) (va_A (List.flatten []) sz)) 0 0 (va_A (List.flatten []) sz) := by
  refine cStartS (QA := fun A => cQi D (fun (r : Int32) (_ : Unit) => r = w.getD i.toNatClampNeg 0) (fun _ => []) A) (cc := cJ0_charAt_5068e) (maxL := 2) (ret := (some .char)) (by decide) (Nat.le_of_ble_eq_true rfl) ?_
  intro p e s m args below meth c A ls hx hb hr hml hown hw hlocks hname hK hN hA hP hD hS hl hX
  generalize hQ : MQ below _ args s 0 0 A = Q
  obtain ⟨hZ, hq⟩ := hX
  obtain ⟨t, hv, hT⟩ := hq.2.2.2
  have hl : lv_has ls 2 [(0, .ref q), (1, .int i)] := hl
  refine lv_aload_n hx hb dJ0_charAt_5068e_0 rfl (lv_at hl 0 rfl) ?_
  refine cGoI (wo := fun _ => []) (cRunVQ (X := X1 w q) (As := []) (rest := []) (X1.ok _ _) ⟨hZ, hq⟩ hS hA ⟨hx, hb, hml, hown, hw⟩ hK hN hq.2.1 (k_J0_isLatin1 l D C _ w q) (cwV 0 hw (goodV mw_2_239 mw_3_0 mw_3_1 mw_1_15 mw_3_2) rfl rfl rfl (by decide +kernel) ⟨Nat.le_of_ble_eq_true rfl, Nat.le_of_ble_eq_true rfl⟩) rfl hl.1 rfl (Nat.le_of_ble_eq_true rfl) dJ0_charAt_5068e_1 ⟨Nat.zero_le _, Nat.zero_le _⟩) hP hD hS hA [] [] [] rfl rfl rfl (by decide) rfl (fun _ => rfl) (fun r u H locs er hP hD hS => ?_)
  obtain rfl : r = 1 := er
  refine lv_if_eq (tgt := 16) hx hb dJ0_charAt_5068e_4 (by decide) (fun c1 => absurd c1 (by decide)) (fun _ => ?_)
  refine lv_aload_n hx hb dJ0_charAt_5068e_7 rfl (lv_at hl 0 rfl) ?_
  refine vk_getf hx hb hv hS hown (hw _ mw_9_104) (fun _ h9 => h9) dJ0_charAt_5068e_8 ?_
  refine lv_iload_n hx hb dJ0_charAt_5068e_11 rfl (lv_at hl 1 rfl) ?_
  refine cGoI (wo := fun _ => []) (cRunSS (X := X2 w t) (As := [.ref t, .int i]) (rest := []) (X2.ok _ _) ⟨hZ, hq.1, hT⟩ hS hA ⟨hx, hb, hml, hown, hw⟩ hK hN hP hD [] rfl rfl (k_J1_charAt l D C _ w t i hi) (va_cwS 2 hw (goodS mw_3_3 mw_3_4 mw_1_16 mw_3_5) rfl rfl rfl (by decide +kernel) ⟨Nat.le_of_ble_eq_true rfl, Nat.le_of_ble_eq_true rfl⟩) rfl hl.1 rfl (Nat.le_of_ble_eq_true rfl) dJ0_charAt_5068e_12 ⟨Nat.zero_le _, Nat.zero_le _⟩) hP hD hS hA [] [] [] rfl rfl rfl (by decide) rfl (fun _ => rfl) (fun r u H locs er hP hD hS => ?_)
  obtain rfl : r = w.getD i.toNatClampNeg 0 := er
  rw [← hQ]
  exact cRetT (v := w.getD i.toNatClampNeg 0) () hx hb hr (s_let hq.1 hi).2 hlocks hS hP hD rfl dJ0_charAt_5068e_15
