set_option maxRecDepth 100000 in
set_option maxHeartbeats 4000000 in
theorem whole_start {p : Program} {e : Env} {s : State} {m : MethodId} {below : List Frame} {meth : Method} {c : Code} (l : Launch) {b L : Nat} {xs : Nat → Int32} (hL : L ≤ 3072) (C0 : lw_At p s m meth c b L xs) : W p l e room_1 s m #[Value.ref b] below meth c s.heap [] 0 0 (lw_Z below #[Value.ref b] s) (entryFrame m ([Value.ref b] : List Value).toArray 4) := by
  obtain ⟨hx, hb, hr, hml, hown, hts, hX, hbl, hlocks, hgv⟩ := id C0
  have hA : ∀ q : Nat, s.heap.size ≤ q → (fun q : Nat => s.heap.size ≤ q) q := fun _ h => h
  have hbA : ¬ (fun q : Nat => s.heap.size ≤ q) b := Nat.not_le.mpr hbl
  have hw : ∀ w ∈ WS, w.before #[Value.ref b] s = true := fun w h => hts w (List.mem_filter.mp h).1
  have hN : nst s := nst_0 hts
  obtain ⟨D, C, hK⟩ := kls0 hts
  have hZ : sAll (fun q : Nat => s.heap.size ≤ q) s s.heap := sAll0 hts hgv (fun a h => Nat.not_le.mpr h)
  have hC : LC p s m c b L xs D C (fun q : Nat => s.heap.size ≤ q) := ⟨hx, hb, hml, hown, hw, hK, hN, hA, hX, hbl, hbA, hZ⟩
  have hS : va_S (fun q : Nat => s.heap.size ≤ q) s.heap s.heap [] := va_S.rf
  have hP : va_P D vwCl [] s.heap := fun k q h => by simp at h
  have hD : va_D (fun q : Nat => s.heap.size ≤ q) [] := ⟨fun i j p q h => by simp at h, fun k q h => by simp at h⟩
  have hl := lv_entry ([.ref b]) (n := 4) (Nat.le_of_ble_eq_true rfl)
  rw [lg_entry_eq]
  generalize (lg_sl ([.ref b]) ++ List.replicate (4 - (lg_sl ([.ref b])).length) Slot.unset).toArray = ls at hl ⊢
  have hl : lv_has ls 4 [(0, .ref b)] := hl
  refine va_new (ci := 11) (fs := [.null, .null, .null, .null, .null, .null, .null, .null]) (C := RX11) (T := TX11) (N := 8) hx hb hw inW_X11 tyX11 tyX11_ok hown (hts (.classLink RL 7 RX11) (tl_1 (List.mem_of_getElem? (i := 21) rfl))) (hts (.instantiable RX11 8) (tl_1 (List.mem_of_getElem? (i := 22) rfl))) (hts (.initialized RX11) (tl_1 (List.mem_of_getElem? (i := 1) rfl))) hK hP hD hS hA rfl (fun j hj => by revert j; decide) (Nat.le_of_ble_eq_true rfl) (Nat.le_of_ble_eq_true rfl) dL_law_0 (fun q0 H hP hD hS => ?_)
  have hP : va_P D vwCl (List.flatten ([[(q0, .inr (11, [.null, .null, .null, .null, .null, .null, .null, .null]))]])) H := hP
  have hD : va_D (fun q : Nat => s.heap.size ≤ q) (List.flatten ([[(q0, .inr (11, [.null, .null, .null, .null, .null, .null, .null, .null]))]])) := hD
  refine lv_dup hx hb dL_law_3 rfl ?_
  refine lGoV1 (cRunI (As := []) (rest := [.ref q0]) ⟨hx, hb, hml, hown, hw⟩ hK hN hP hD [0] rfl rfl (met_outV (i_X11_init l D C _ q0)) (cwI 0 hw (goodN mw_1_25) rfl rfl rfl (hw _ mw_1_1) (hw _ mw_1_23) (hw _ mw_1_24) rfl (by decide +kernel) ⟨Nat.le_of_ble_eq_true rfl, Nat.le_of_ble_eq_true rfl⟩) rfl hl.1 rfl (Nat.le_of_ble_eq_true rfl) dL_law_4 ⟨Nat.le_of_ble_eq_true rfl, Nat.le_of_ble_eq_true rfl⟩) hP hD hS hA (fun u H locs h0 hP9 hD9 hS9 => ?_)
  subst h0
  have hP := hP9
  have hD := hD9
  have hS := hS9
  clear hP9 hD9 hS9
  have hP : va_P D vwCl (List.flatten [(List.flatten ([cLockRail (u 7 1) (u 0 0) (u 1 0) (u 2 0) (u 7 0) (u 3 0) (u 4 0) (u 5 0) (u 6 0) C] ++ wReader (u 0) C (va_up (fun _ => 0) 1 (-1)) (fun _ _ => 0) ++ wRail (u 1) C (fun _ => 0) (fun _ _ => 0) ++ wRail (u 2) C (fun _ => 0) (fun _ _ => 0) ++ wSlots (u 3) C (fun _ _ => 0) (fun _ _ => 0) ++ wNight (u 4 0) (u 4) C (fun _ => 0) (fun _ _ => 0) (fun _ _ => 0) ++ [cYear (u 5 0) (u 5 1) (u 5 2) C 0 (fun _ => 0) (fun _ => 0)] ++ [cOb (u 6 0) C (fun _ => 0)] ++ [[(u 7 0, .inl (C 4, 3, .inr (.inr (.inr (.inr (fun _ => none))))))]]))]) H := hP
  have hD : va_D (fun q : Nat => s.heap.size ≤ q) (List.flatten [(List.flatten ([cLockRail (u 7 1) (u 0 0) (u 1 0) (u 2 0) (u 7 0) (u 3 0) (u 4 0) (u 5 0) (u 6 0) C] ++ wReader (u 0) C (va_up (fun _ => 0) 1 (-1)) (fun _ _ => 0) ++ wRail (u 1) C (fun _ => 0) (fun _ _ => 0) ++ wRail (u 2) C (fun _ => 0) (fun _ _ => 0) ++ wSlots (u 3) C (fun _ _ => 0) (fun _ _ => 0) ++ wNight (u 4 0) (u 4) C (fun _ => 0) (fun _ _ => 0) (fun _ _ => 0) ++ [cYear (u 5 0) (u 5 1) (u 5 2) C 0 (fun _ => 0) (fun _ => 0)] ++ [cOb (u 6 0) C (fun _ => 0)] ++ [[(u 7 0, .inl (C 4, 3, .inr (.inr (.inr (.inr (fun _ => none))))))]]))]) := hD
  refine lv_astore_n (lv' := [(1, .ref (u 7 1)), (0, .ref b)]) hx hb dL_law_7 rfl hl (by decide) rfl (fun ls hl => ?_)
  refine va_new (ci := 12) (fs := [.int 0, .null, .null, .null, .null, .null, .int 0, .int 0, .int 0, .int 0, .int 0, .long 0, .int 0, .int 0, .int 0, .int 0, .null, .null, .null, .null, .null, .null, .null, .null, .null, .null, .null, .null, .null, .null, .null, .int 0, .int 0, .null, .null, .int 0, .null, .null, .null, .long 0, .null, .int 0, .null, .null, .null, .null, .null, .long 0, .long 0, .null, .long 0]) (C := RX12) (T := TX12) (N := 51) hx hb hw inW_X12 tyX12 tyX12_ok hown (hts (.classLink RL 10 RX12) (tl_6 (List.mem_of_getElem? (i := 36) rfl))) (hts (.instantiable RX12 51) (tl_6 (List.mem_of_getElem? (i := 37) rfl))) (hts (.initialized RX12) (tl_1 (List.mem_of_getElem? (i := 13) rfl))) hK hP hD hS hA rfl (fun j hj => by revert j; decide) (Nat.le_of_ble_eq_true rfl) (Nat.le_of_ble_eq_true rfl) dL_law_8 (fun q1 H hP hD hS => ?_)
  rw [fl_sn] at hP hD
  refine lv_dup hx hb dL_law_11 rfl ?_
  refine lGoV2 (cRunI (As := []) (rest := [.ref q1]) ⟨hx, hb, hml, hown, hw⟩ hK hN hP hD [1] rfl rfl (met_outV (i_X12_init l D C _ q1)) (cwI 0 hw (goodN mw_6_40) rfl rfl rfl (hw _ mw_1_13) (hw _ mw_6_38) (hw _ mw_6_39) rfl (by decide +kernel) ⟨Nat.le_of_ble_eq_true rfl, Nat.le_of_ble_eq_true rfl⟩) rfl hl.1 rfl (Nat.le_of_ble_eq_true rfl) dL_law_12 ⟨Nat.le_of_ble_eq_true rfl, Nat.le_of_ble_eq_true rfl⟩) hP hD hS hA (fun v H locs h0 hP9 hD9 hS9 => ?_)
  subst h0
  have hP := hP9
  have hD := hD9
  have hS := hS9
  clear hP9 hD9 hS9
  have hP : va_P D vwCl (List.flatten [(List.flatten ([cLockRail (u 7 1) (u 0 0) (u 1 0) (u 2 0) (u 7 0) (u 3 0) (u 4 0) (u 5 0) (u 6 0) C] ++ wReader (u 0) C (va_up (fun _ => 0) 1 (-1)) (fun _ _ => 0) ++ wRail (u 1) C (fun _ => 0) (fun _ _ => 0) ++ wRail (u 2) C (fun _ => 0) (fun _ _ => 0) ++ wSlots (u 3) C (fun _ _ => 0) (fun _ _ => 0) ++ wNight (u 4 0) (u 4) C (fun _ => 0) (fun _ _ => 0) (fun _ _ => 0) ++ [cYear (u 5 0) (u 5 1) (u 5 2) C 0 (fun _ => 0) (fun _ => 0)] ++ [cOb (u 6 0) C (fun _ => 0)] ++ [[(u 7 0, .inl (C 4, 3, .inr (.inr (.inr (.inr (fun _ => none))))))]])), List.flatten (wM v C (va_up (fun _ => 0) 9 (-1)) (fun _ => 0) (va_up (fun _ _ => 0) 0 (upd (upd (upd (upd (fun _ => 0) 0 (-1)) 1 (-1)) 2 (-1)) 3 (-1))) (fun _ _ => 0))]) H := hP
  have hD : va_D (fun q : Nat => s.heap.size ≤ q) (List.flatten [(List.flatten ([cLockRail (u 7 1) (u 0 0) (u 1 0) (u 2 0) (u 7 0) (u 3 0) (u 4 0) (u 5 0) (u 6 0) C] ++ wReader (u 0) C (va_up (fun _ => 0) 1 (-1)) (fun _ _ => 0) ++ wRail (u 1) C (fun _ => 0) (fun _ _ => 0) ++ wRail (u 2) C (fun _ => 0) (fun _ _ => 0) ++ wSlots (u 3) C (fun _ _ => 0) (fun _ _ => 0) ++ wNight (u 4 0) (u 4) C (fun _ => 0) (fun _ _ => 0) (fun _ _ => 0) ++ [cYear (u 5 0) (u 5 1) (u 5 2) C 0 (fun _ => 0) (fun _ => 0)] ++ [cOb (u 6 0) C (fun _ => 0)] ++ [[(u 7 0, .inl (C 4, 3, .inr (.inr (.inr (.inr (fun _ => none))))))]])), List.flatten (wM v C (va_up (fun _ => 0) 9 (-1)) (fun _ => 0) (va_up (fun _ _ => 0) 0 (upd (upd (upd (upd (fun _ => 0) 0 (-1)) 1 (-1)) 2 (-1)) 3 (-1))) (fun _ _ => 0))]) := hD
  rw [st_l] at hP hD
  refine lv_astore_n (lv' := [(2, .ref (v 0)), (1, .ref (u 7 1)), (0, .ref b)]) hx hb dL_law_15 rfl hl (by decide) rfl (fun ls hl => ?_)
  refine lv_iconst (v := 0) hx hb dL_law_16 (by decide) ?_
  refine lv_istore_n (lv' := [(3, .int 0), (2, .ref (v 0)), (1, .ref (u 7 1)), (0, .ref b)]) hx hb dL_law_17 rfl hl (by decide) rfl (fun ls hl => ?_)
  have hW : LSt (0 = 0) D C (fun q : Nat => s.heap.size ≤ q) (u 7 1) (v 0) H := ⟨u 0, u 1, u 2, u 7 0, u 3, u 4 0, u 4, u 5 0, u 5 1, u 5 2, u 6 0, v, (va_up (fun _ => 0) 1 (-1)), fun _ _ => 0, fun _ => 0, fun _ _ => 0, fun _ => 0, fun _ _ => 0, fun _ _ => 0, fun _ _ => 0, fun _ => 0, fun _ _ => 0, fun _ _ => 0, 0, fun _ => 0, fun _ => 0, fun _ => 0, fun _ => none, fun _ => [], fun _ => none, (va_up (fun _ => 0) 9 (-1)), fun _ => 0, (va_up (fun _ _ => 0) 0 (upd (upd (upd (upd (fun _ => 0) 0 (-1)) 1 (-1)) 2 (-1)) 3 (-1))), fun _ _ => 0, fun _ => rfl, rfl, inv0, fun k hk => Or.inl ⟨rfl, rfl, rfl⟩, hP, hD⟩
  refine W.widen (k := 107 + 22 * 0) (n := 286978 + 163 * 0) (by decide) (by decide) ?_
  exact lp_all hL hC hr hlocks 512 0 (by omega) (by omega) H locs ls hW hS hl
set_option maxHeartbeats 4000000 in
theorem lw_walk (l : Launch) (b : Addr) (xs : List Int32) : MetFree l x (headSpec (Jvm.Cond.code x code maxLocals ret :: tables_1) room_1) (lw_P b xs) (fun _ _ _ _ _ => True) lw_Q := by
  refine MetFree.of_bodyS (code := code) (maxLocals := maxLocals) (ret := ret) (by decide) ?_ ?_
  · intro args s m h hn
    obtain ⟨meth, c, h1, h2, h3, h4, h5, h6, -, -⟩ := Cond.code_spec hn (atoms_spec (ws := Jvm.Cond.code x code maxLocals ret :: tables_1) h _ List.mem_cons_self)
    exact ⟨meth, c, h1, h2, h3, h4, h5, h6⟩
  · intro p e s m args below meth c s₁ B hml0 hP _
    obtain ⟨rfl, hx, hbd, hgv⟩ := hP
    obtain ⟨scr, harrAt, hlist, hof, hsmall⟩ := hx
    obtain ⟨hcb, hkn, -, -⟩ := State.arrayAt?_spec harrAt
    have hown : s.vm.findClass R_law = some m.cls := findClass_of_methodNamed B.named
    have hts0 : ∀ c ∈ (Jvm.Cond.code x code maxLocals ret :: tables_1), c.before #[Value.ref b] s = true := atoms_spec (ws := Jvm.Cond.code x code maxLocals ret :: tables_1) B.pre
    have hts : ∀ w ∈ lw_tbl, w.before #[Value.ref b] s = true := k2_hts_sels lw_privs (fun w hw => hts0 w (List.mem_cons_of_mem _ hw)) lw_privs_ok
    have hml : c.maxLocals = 4 := B.maxLocals_eq (hts0 _ List.mem_cons_self)
    have X₀ : Stand p l e room_1 s m #[Value.ref b] below meth c s₁ [] 0 0 := Stand.of_body B
    have hh0 : s₁.heap = s.heap := by rw [B.state]; rfl
    have hsz : scr.slots.size = xs.length := by rw [← Array.length_toList, hlist, List.length_map]
    have hval : ∀ j : Nat, j < xs.length → scr.slots[j]? = some (.int (xs.getD j 0)) := fun j hj => by
      rw [← Array.getElem?_toList, hlist]
      simp [hj]
    have hbl : b < s.heap.size := (Array.getElem?_eq_some_iff.mp hcb).1
    have hX : va_X b xs.length (fun j => xs.getD j 0) s s.heap := ⟨scr, hcb, hof, hkn, hsz, hval⟩
    have K : W p l e room_1 s m #[Value.ref b] below meth c s₁.heap [] 0 0 (lw_Z below #[Value.ref b] s) (entryFrame m ([Value.ref b] : List Value).toArray 4) := by
      rw [hh0]
      exact whole_start l hbd ⟨B.exec, B.bytes, B.returns, hml, hown, hts, hX, hbl, B.notSynchronized, hgv⟩
    obtain ⟨t, a1, o, b1, b2, b3⟩ := K s₁ rfl X₀
    exact ⟨t, o, a1, b1, b2, b3⟩
theorem lw_pre_spec {args : Array Value} {s : State} (h : (Jvm.Cond.and given_1 narrow_1).before args s = true) (hr : rest_1_c.before args s = true) : ∃ (b : Addr) (xs : List Int32), lw_P b xs args s := by
  have hs := flat_of_before _ h
  have hq := flat_of_before _ hr
  have hc : (Cond.count 1).before args s = true := hs _ (by decide +kernel)
  have harr : (Cond.arrayOf (.arg 0) .int).before args s = true := hs _ (by decide +kernel)
  have hle : (Cond.le (.length (.arg 0)) (.int 3072)).before args s = true := hs _ (by decide +kernel)
  have hlen : (Cond.isInt (.length (.arg 0))).before args s = true := hq _ (by decide +kernel)
  have hall : (Cond.all (.arg 0) (.isInt (.elem (.arg 0) (.index 0)))).before args s = true := hq _ (by decide +kernel)
  obtain ⟨b, xs, hb, hx⟩ := State.ints_of_pre rfl harr hlen hall
  have hsm : xs.length < 2 ^ 31 := hx.choose_spec.2.2.2
  have hev : (Term.length (.arg 0)).eval args s none [] s = some (.int xs.length.toInt32) := hx.length_eval hb
  have hv := Cond.le_ints hev (show (Term.int 3072).eval args s none [] s = some (.int 3072) from rfl)
  have hd : xs.length.toInt32 ≤ 3072 := by
    simpa [Cond.before, Cond.holds, hv] using hle
  have hN : xs.length ≤ 3072 := (Int32.ofNat_le_ofNat hsm (by decide)).mp (show Int32.ofNat xs.length ≤ Int32.ofNat 3072 from hd)
  exact ⟨b, xs, Cond.one_arg hc (show args[0]? = some (.ref b) from hb), hx, hN, h⟩
theorem lw_comes (l : Launch) : Comes l x (Jvm.Cond.code x code maxLocals ret :: tables_1) room_1 (fun tb e args s => Calls_1 tb e args s ∧ rest_1 tb e args s ∧ Pre_1 tb e args s)
    (fun _ _ args s o t => lw_Q args s o t) := by
  intro p e ha hc hk s m args below hf hfit hheap happ hpre
  obtain ⟨b, xs, hP⟩ := lw_pre_spec hpre.2.2 hpre.2.1
  obtain ⟨k, o, h1, h2, h3, hQ⟩ := lw_walk l b xs p e ha hc hk s m args below hf ((Spec.applies_iff_loose hf).mp happ).1 hP trivial
  exact ⟨k, o, h1, h2, h3, hQ⟩
theorem lw_frame {s t : State} {o : Outcome} {args : Array Value} (h : Framed s o t [] 600000 room_1.slots) :
    Framed s o t (fieldLocs frame_1_writes args s ++ arrayLocs frame_1_arrays args s ++ staticLocs frame_1_statics s) 600000 room_1.slots := h
theorem lw_limb (L : Cond) (hL : ∀ (args : Array Value) (s t : State), L.after args s (.returned (some (.int 1))) t = true) :
    ArmFor flags0 classFile x code maxLocals ret World_1 tables_1 room_1 Calls_1 rest_1 Pre_1
      (fun tb e a s o t => postC L tb e a s o t ∧ Framed s o t (fieldLocs frame_1_writes a s ++ arrayLocs frame_1_arrays a s ++ staticLocs frame_1_statics s) 600000 room_1.slots) := by
  intro l _ _ _ p e ha hc hk s m args below hf hfit hheap happ hpre
  obtain ⟨k, o, h1, h2, h3, rfl, hF⟩ := lw_comes l p e ha hc hk s m args below hf hfit hheap happ hpre
  exact ⟨k, _, h1, h2, h3, hL args s _, lw_frame hF⟩
theorem i_vc : Claimed_1_1 ∧ Claimed_1_2 := ⟨lw_limb limb_1_1 (fun args s t => by simp [limb_1_1, Cond.after, Cond.holds, Cond.value]), lw_limb limb_1_2 (fun args s t => Cond.after_iff.mpr (by
  first | (rw [show limb_1_2 = Cond.eq .result (.int 1) from rfl, Cond.eq_ints (x := 1) (y := 1) rfl rfl]; simp; done) | (simp [limb_1_2, Cond.value, Term.eval]; done)))⟩

