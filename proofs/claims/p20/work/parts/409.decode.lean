/-! decode by bytes -/
theorem q_b {L q : List UInt8} {a n j : Nat} {b : UInt8} (h : (L.drop a).take n = q) (hj : q[j]? = some b) : L[a + j]? = some b := by
  subst h
  rw [List.getElem?_take] at hj
  split at hj
  · rw [List.getElem?_drop] at hj
    exact hj
  · cases hj
theorem q_bind {α β : Type} {r : Jvm.ClassFile.Decoder α} {f : α → Jvm.ClassFile.Decoder β} {c : ByteArray} {p q : Nat} {a : α} (h : r c p = .ok (a, q)) : (r >>= f) c p = f a c q := by
  have e : (r >>= f) c p = Except.bind (r c p) (fun x => f x.1 c x.2) := rfl
  rw [e, h]
  rfl
theorem q_map {α β : Type} {r : Jvm.ClassFile.Decoder α} {f : α → β} {c : ByteArray} {p q : Nat} {a : α} (h : r c p = .ok (a, q)) : (f <$> r) c p = .ok (f a, q) := by
  have e : (f <$> r) c p = Except.bind (r c p) (fun x => .ok (f x.1, x.2)) := rfl
  rw [e, h]
  rfl
theorem q_u1 {c : ByteArray} {p : Nat} {b : UInt8} (h : c.data.toList[p]? = some b) : (Jvm.ClassFile.Reader.u1 : Jvm.ClassFile.Decoder Nat) c p = .ok (b.toNat, p + 1) := by
  obtain ⟨hp, hb⟩ := List.getElem?_eq_some_iff.mp h
  have hs : p < c.size := hp
  have hg : c[p] = b := hb
  show (dite (p < c.size) (fun h => (do set (p + 1); pure (c[p]'h).toNat : Jvm.ClassFile.Decoder Nat)) (fun _ => throw (Jvm.ClassFile.HasTruncated.truncated p))) c p = _
  rw [dif_pos hs]
  show Except.ok ((c[p]'hs).toNat, p + 1) = _
  rw [hg]
theorem q_u2 {c : ByteArray} {p : Nat} {x y : UInt8} (h : c.data.toList[p]? = some x) (g : c.data.toList[p + 1]? = some y) : (Jvm.ClassFile.Reader.u2 : Jvm.ClassFile.Decoder Nat) c p = .ok (x.toNat * 256 + y.toNat, p + 1 + 1) := by
  unfold Jvm.ClassFile.Reader.u2
  rw [q_bind (q_u1 h), q_bind (q_u1 g)]
  rfl
theorem q_s1 {c : ByteArray} {p : Nat} {x : UInt8} (h : c.data.toList[p]? = some x) : (Jvm.ClassFile.Reader.s1 : Jvm.ClassFile.Decoder Int) c p = .ok (Jvm.ClassFile.Reader.signed 8 x.toNat, p + 1) := q_map (q_u1 h)
theorem q_s2 {c : ByteArray} {p : Nat} {x y : UInt8} (h : c.data.toList[p]? = some x) (g : c.data.toList[p + 1]? = some y) : (Jvm.ClassFile.Reader.s2 : Jvm.ClassFile.Decoder Int) c p = .ok (Jvm.ClassFile.Reader.signed 16 (x.toNat * 256 + y.toNat), p + 1 + 1) := q_map (q_u2 h g)
theorem q_dec {c : ByteArray} {pc q : Nat} {i : Instr} (hb : (Jvm.ClassFile.Decoder.instr pc) c pc = .ok (i, q)) (k : Nat) (hk : q = pc + k) : decode c pc = .ok (i, k) := by
  have e : decode c pc = Except.bind ((Jvm.ClassFile.Decoder.instr pc) c pc) (fun x => .ok (x.1, x.2 - pc)) := rfl
  rw [e, hb, hk]
  show Except.ok (i, pc + k - pc) = _
  rw [Nat.add_sub_cancel_left]
set_option maxRecDepth 100000 in
theorem op_2 {c : ByteArray} {pc : Nat} (h : c.data.toList[pc]? = some 2) : decode c pc = .ok (.iconst (-1), 1) := q_dec (q := pc + 1) (by
  unfold Jvm.ClassFile.Decoder.instr
  rw [q_bind (q_u1 h)]
  rfl) 1 rfl
set_option maxRecDepth 100000 in
theorem op_3 {c : ByteArray} {pc : Nat} (h : c.data.toList[pc]? = some 3) : decode c pc = .ok (.iconst 0, 1) := q_dec (q := pc + 1) (by
  unfold Jvm.ClassFile.Decoder.instr
  rw [q_bind (q_u1 h)]
  rfl) 1 rfl
set_option maxRecDepth 100000 in
theorem op_4 {c : ByteArray} {pc : Nat} (h : c.data.toList[pc]? = some 4) : decode c pc = .ok (.iconst 1, 1) := q_dec (q := pc + 1) (by
  unfold Jvm.ClassFile.Decoder.instr
  rw [q_bind (q_u1 h)]
  rfl) 1 rfl
set_option maxRecDepth 100000 in
theorem op_5 {c : ByteArray} {pc : Nat} (h : c.data.toList[pc]? = some 5) : decode c pc = .ok (.iconst 2, 1) := q_dec (q := pc + 1) (by
  unfold Jvm.ClassFile.Decoder.instr
  rw [q_bind (q_u1 h)]
  rfl) 1 rfl
set_option maxRecDepth 100000 in
theorem op_6 {c : ByteArray} {pc : Nat} (h : c.data.toList[pc]? = some 6) : decode c pc = .ok (.iconst 3, 1) := q_dec (q := pc + 1) (by
  unfold Jvm.ClassFile.Decoder.instr
  rw [q_bind (q_u1 h)]
  rfl) 1 rfl
set_option maxRecDepth 100000 in
theorem op_7 {c : ByteArray} {pc : Nat} (h : c.data.toList[pc]? = some 7) : decode c pc = .ok (.iconst 4, 1) := q_dec (q := pc + 1) (by
  unfold Jvm.ClassFile.Decoder.instr
  rw [q_bind (q_u1 h)]
  rfl) 1 rfl
set_option maxRecDepth 100000 in
theorem op_8 {c : ByteArray} {pc : Nat} (h : c.data.toList[pc]? = some 8) : decode c pc = .ok (.iconst 5, 1) := q_dec (q := pc + 1) (by
  unfold Jvm.ClassFile.Decoder.instr
  rw [q_bind (q_u1 h)]
  rfl) 1 rfl
set_option maxRecDepth 100000 in
theorem op_9 {c : ByteArray} {pc : Nat} (h : c.data.toList[pc]? = some 9) : decode c pc = .ok (.lconst 0, 1) := q_dec (q := pc + 1) (by
  unfold Jvm.ClassFile.Decoder.instr
  rw [q_bind (q_u1 h)]
  rfl) 1 rfl
set_option maxRecDepth 100000 in
theorem op_10 {c : ByteArray} {pc : Nat} (h : c.data.toList[pc]? = some 10) : decode c pc = .ok (.lconst 1, 1) := q_dec (q := pc + 1) (by
  unfold Jvm.ClassFile.Decoder.instr
  rw [q_bind (q_u1 h)]
  rfl) 1 rfl
set_option maxRecDepth 100000 in
theorem op_16 {c : ByteArray} {pc : Nat} {x : UInt8} (h : c.data.toList[pc]? = some 16) (h1 : c.data.toList[pc + 1]? = some x) : decode c pc = .ok (.bipush (Jvm.ClassFile.Reader.signed 8 x.toNat), 2) := q_dec (q := pc + 1 + 1) (by
  unfold Jvm.ClassFile.Decoder.instr
  rw [q_bind (q_u1 h)]
  show ((Jvm.ClassFile.Reader.s1 : Jvm.ClassFile.Decoder _) >>= fun a => pure (.bipush a : Instr)) c (pc + 1) = _
  rw [q_bind (q_s1 h1)]
  rfl) 2 rfl
set_option maxRecDepth 100000 in
theorem op_17 {c : ByteArray} {pc : Nat} {x y : UInt8} {o : Int} (h : c.data.toList[pc]? = some 17) (h1 : c.data.toList[pc + 1]? = some x) (h2 : c.data.toList[pc + 1 + 1]? = some y) (he : Jvm.ClassFile.Reader.signed 16 (x.toNat * 256 + y.toNat) = o) : decode c pc = .ok (.sipush o, 3) := q_dec (q := pc + 1 + 1 + 1) (by
  subst he
  unfold Jvm.ClassFile.Decoder.instr
  rw [q_bind (q_u1 h)]
  show ((Jvm.ClassFile.Reader.s2 : Jvm.ClassFile.Decoder _) >>= fun a => pure (.sipush a : Instr)) c (pc + 1) = _
  rw [q_bind (q_s2 h1 h2)]
  rfl) 3 rfl
set_option maxRecDepth 100000 in
theorem op_18 {c : ByteArray} {pc : Nat} {x : UInt8} (h : c.data.toList[pc]? = some 18) (h1 : c.data.toList[pc + 1]? = some x) : decode c pc = .ok (.ldc x.toNat, 2) := q_dec (q := pc + 1 + 1) (by
  unfold Jvm.ClassFile.Decoder.instr
  rw [q_bind (q_u1 h)]
  show ((Jvm.ClassFile.Reader.u1 : Jvm.ClassFile.Decoder _) >>= fun a => pure (.ldc a : Instr)) c (pc + 1) = _
  rw [q_bind (q_u1 h1)]
  rfl) 2 rfl
set_option maxRecDepth 100000 in
theorem op_19 {c : ByteArray} {pc : Nat} {x y : UInt8}  (h : c.data.toList[pc]? = some 19) (h1 : c.data.toList[pc + 1]? = some x) (h2 : c.data.toList[pc + 1 + 1]? = some y)  : decode c pc = .ok (.ldc_w (x.toNat * 256 + y.toNat), 3) := q_dec (q := pc + 1 + 1 + 1) (by
  unfold Jvm.ClassFile.Decoder.instr
  rw [q_bind (q_u1 h)]
  show ((Jvm.ClassFile.Reader.u2 : Jvm.ClassFile.Decoder _) >>= fun a => pure (.ldc_w a : Instr)) c (pc + 1) = _
  rw [q_bind (q_u2 h1 h2)]
  rfl) 3 rfl
set_option maxRecDepth 100000 in
theorem op_20 {c : ByteArray} {pc : Nat} {x y : UInt8}  (h : c.data.toList[pc]? = some 20) (h1 : c.data.toList[pc + 1]? = some x) (h2 : c.data.toList[pc + 1 + 1]? = some y)  : decode c pc = .ok (.ldc2_w (x.toNat * 256 + y.toNat), 3) := q_dec (q := pc + 1 + 1 + 1) (by
  unfold Jvm.ClassFile.Decoder.instr
  rw [q_bind (q_u1 h)]
  show ((Jvm.ClassFile.Reader.u2 : Jvm.ClassFile.Decoder _) >>= fun a => pure (.ldc2_w a : Instr)) c (pc + 1) = _
  rw [q_bind (q_u2 h1 h2)]
  rfl) 3 rfl
set_option maxRecDepth 100000 in
theorem op_21 {c : ByteArray} {pc : Nat} {x : UInt8} (h : c.data.toList[pc]? = some 21) (h1 : c.data.toList[pc + 1]? = some x) : decode c pc = .ok (.iload x.toNat, 2) := q_dec (q := pc + 1 + 1) (by
  unfold Jvm.ClassFile.Decoder.instr
  rw [q_bind (q_u1 h)]
  show ((Jvm.ClassFile.Reader.u1 : Jvm.ClassFile.Decoder _) >>= fun a => pure (.iload a : Instr)) c (pc + 1) = _
  rw [q_bind (q_u1 h1)]
  rfl) 2 rfl
set_option maxRecDepth 100000 in
theorem op_22 {c : ByteArray} {pc : Nat} {x : UInt8} (h : c.data.toList[pc]? = some 22) (h1 : c.data.toList[pc + 1]? = some x) : decode c pc = .ok (.lload x.toNat, 2) := q_dec (q := pc + 1 + 1) (by
  unfold Jvm.ClassFile.Decoder.instr
  rw [q_bind (q_u1 h)]
  show ((Jvm.ClassFile.Reader.u1 : Jvm.ClassFile.Decoder _) >>= fun a => pure (.lload a : Instr)) c (pc + 1) = _
  rw [q_bind (q_u1 h1)]
  rfl) 2 rfl
set_option maxRecDepth 100000 in
theorem op_25 {c : ByteArray} {pc : Nat} {x : UInt8} (h : c.data.toList[pc]? = some 25) (h1 : c.data.toList[pc + 1]? = some x) : decode c pc = .ok (.aload x.toNat, 2) := q_dec (q := pc + 1 + 1) (by
  unfold Jvm.ClassFile.Decoder.instr
  rw [q_bind (q_u1 h)]
  show ((Jvm.ClassFile.Reader.u1 : Jvm.ClassFile.Decoder _) >>= fun a => pure (.aload a : Instr)) c (pc + 1) = _
  rw [q_bind (q_u1 h1)]
  rfl) 2 rfl
set_option maxRecDepth 100000 in
theorem op_26 {c : ByteArray} {pc : Nat} (h : c.data.toList[pc]? = some 26) : decode c pc = .ok (.iload_n 0, 1) := q_dec (q := pc + 1) (by
  unfold Jvm.ClassFile.Decoder.instr
  rw [q_bind (q_u1 h)]
  rfl) 1 rfl
set_option maxRecDepth 100000 in
theorem op_27 {c : ByteArray} {pc : Nat} (h : c.data.toList[pc]? = some 27) : decode c pc = .ok (.iload_n 1, 1) := q_dec (q := pc + 1) (by
  unfold Jvm.ClassFile.Decoder.instr
  rw [q_bind (q_u1 h)]
  rfl) 1 rfl
set_option maxRecDepth 100000 in
theorem op_28 {c : ByteArray} {pc : Nat} (h : c.data.toList[pc]? = some 28) : decode c pc = .ok (.iload_n 2, 1) := q_dec (q := pc + 1) (by
  unfold Jvm.ClassFile.Decoder.instr
  rw [q_bind (q_u1 h)]
  rfl) 1 rfl
set_option maxRecDepth 100000 in
theorem op_29 {c : ByteArray} {pc : Nat} (h : c.data.toList[pc]? = some 29) : decode c pc = .ok (.iload_n 3, 1) := q_dec (q := pc + 1) (by
  unfold Jvm.ClassFile.Decoder.instr
  rw [q_bind (q_u1 h)]
  rfl) 1 rfl
set_option maxRecDepth 100000 in
theorem op_30 {c : ByteArray} {pc : Nat} (h : c.data.toList[pc]? = some 30) : decode c pc = .ok (.lload_n 0, 1) := q_dec (q := pc + 1) (by
  unfold Jvm.ClassFile.Decoder.instr
  rw [q_bind (q_u1 h)]
  rfl) 1 rfl
set_option maxRecDepth 100000 in
theorem op_31 {c : ByteArray} {pc : Nat} (h : c.data.toList[pc]? = some 31) : decode c pc = .ok (.lload_n 1, 1) := q_dec (q := pc + 1) (by
  unfold Jvm.ClassFile.Decoder.instr
  rw [q_bind (q_u1 h)]
  rfl) 1 rfl
set_option maxRecDepth 100000 in
theorem op_32 {c : ByteArray} {pc : Nat} (h : c.data.toList[pc]? = some 32) : decode c pc = .ok (.lload_n 2, 1) := q_dec (q := pc + 1) (by
  unfold Jvm.ClassFile.Decoder.instr
  rw [q_bind (q_u1 h)]
  rfl) 1 rfl
set_option maxRecDepth 100000 in
theorem op_33 {c : ByteArray} {pc : Nat} (h : c.data.toList[pc]? = some 33) : decode c pc = .ok (.lload_n 3, 1) := q_dec (q := pc + 1) (by
  unfold Jvm.ClassFile.Decoder.instr
  rw [q_bind (q_u1 h)]
  rfl) 1 rfl
set_option maxRecDepth 100000 in
theorem op_42 {c : ByteArray} {pc : Nat} (h : c.data.toList[pc]? = some 42) : decode c pc = .ok (.aload_n 0, 1) := q_dec (q := pc + 1) (by
  unfold Jvm.ClassFile.Decoder.instr
  rw [q_bind (q_u1 h)]
  rfl) 1 rfl
set_option maxRecDepth 100000 in
theorem op_43 {c : ByteArray} {pc : Nat} (h : c.data.toList[pc]? = some 43) : decode c pc = .ok (.aload_n 1, 1) := q_dec (q := pc + 1) (by
  unfold Jvm.ClassFile.Decoder.instr
  rw [q_bind (q_u1 h)]
  rfl) 1 rfl
set_option maxRecDepth 100000 in
theorem op_44 {c : ByteArray} {pc : Nat} (h : c.data.toList[pc]? = some 44) : decode c pc = .ok (.aload_n 2, 1) := q_dec (q := pc + 1) (by
  unfold Jvm.ClassFile.Decoder.instr
  rw [q_bind (q_u1 h)]
  rfl) 1 rfl
set_option maxRecDepth 100000 in
theorem op_45 {c : ByteArray} {pc : Nat} (h : c.data.toList[pc]? = some 45) : decode c pc = .ok (.aload_n 3, 1) := q_dec (q := pc + 1) (by
  unfold Jvm.ClassFile.Decoder.instr
  rw [q_bind (q_u1 h)]
  rfl) 1 rfl
set_option maxRecDepth 100000 in
theorem op_46 {c : ByteArray} {pc : Nat} (h : c.data.toList[pc]? = some 46) : decode c pc = .ok (.iaload, 1) := q_dec (q := pc + 1) (by
  unfold Jvm.ClassFile.Decoder.instr
  rw [q_bind (q_u1 h)]
  rfl) 1 rfl
set_option maxRecDepth 100000 in
theorem op_47 {c : ByteArray} {pc : Nat} (h : c.data.toList[pc]? = some 47) : decode c pc = .ok (.laload, 1) := q_dec (q := pc + 1) (by
  unfold Jvm.ClassFile.Decoder.instr
  rw [q_bind (q_u1 h)]
  rfl) 1 rfl
set_option maxRecDepth 100000 in
theorem op_50 {c : ByteArray} {pc : Nat} (h : c.data.toList[pc]? = some 50) : decode c pc = .ok (.aaload, 1) := q_dec (q := pc + 1) (by
  unfold Jvm.ClassFile.Decoder.instr
  rw [q_bind (q_u1 h)]
  rfl) 1 rfl
set_option maxRecDepth 100000 in
theorem op_51 {c : ByteArray} {pc : Nat} (h : c.data.toList[pc]? = some 51) : decode c pc = .ok (.baload, 1) := q_dec (q := pc + 1) (by
  unfold Jvm.ClassFile.Decoder.instr
  rw [q_bind (q_u1 h)]
  rfl) 1 rfl
set_option maxRecDepth 100000 in
theorem op_54 {c : ByteArray} {pc : Nat} {x : UInt8} (h : c.data.toList[pc]? = some 54) (h1 : c.data.toList[pc + 1]? = some x) : decode c pc = .ok (.istore x.toNat, 2) := q_dec (q := pc + 1 + 1) (by
  unfold Jvm.ClassFile.Decoder.instr
  rw [q_bind (q_u1 h)]
  show ((Jvm.ClassFile.Reader.u1 : Jvm.ClassFile.Decoder _) >>= fun a => pure (.istore a : Instr)) c (pc + 1) = _
  rw [q_bind (q_u1 h1)]
  rfl) 2 rfl
set_option maxRecDepth 100000 in
theorem op_55 {c : ByteArray} {pc : Nat} {x : UInt8} (h : c.data.toList[pc]? = some 55) (h1 : c.data.toList[pc + 1]? = some x) : decode c pc = .ok (.lstore x.toNat, 2) := q_dec (q := pc + 1 + 1) (by
  unfold Jvm.ClassFile.Decoder.instr
  rw [q_bind (q_u1 h)]
  show ((Jvm.ClassFile.Reader.u1 : Jvm.ClassFile.Decoder _) >>= fun a => pure (.lstore a : Instr)) c (pc + 1) = _
  rw [q_bind (q_u1 h1)]
  rfl) 2 rfl
set_option maxRecDepth 100000 in
theorem op_58 {c : ByteArray} {pc : Nat} {x : UInt8} (h : c.data.toList[pc]? = some 58) (h1 : c.data.toList[pc + 1]? = some x) : decode c pc = .ok (.astore x.toNat, 2) := q_dec (q := pc + 1 + 1) (by
  unfold Jvm.ClassFile.Decoder.instr
  rw [q_bind (q_u1 h)]
  show ((Jvm.ClassFile.Reader.u1 : Jvm.ClassFile.Decoder _) >>= fun a => pure (.astore a : Instr)) c (pc + 1) = _
  rw [q_bind (q_u1 h1)]
  rfl) 2 rfl
set_option maxRecDepth 100000 in
theorem op_59 {c : ByteArray} {pc : Nat} (h : c.data.toList[pc]? = some 59) : decode c pc = .ok (.istore_n 0, 1) := q_dec (q := pc + 1) (by
  unfold Jvm.ClassFile.Decoder.instr
  rw [q_bind (q_u1 h)]
  rfl) 1 rfl
set_option maxRecDepth 100000 in
theorem op_60 {c : ByteArray} {pc : Nat} (h : c.data.toList[pc]? = some 60) : decode c pc = .ok (.istore_n 1, 1) := q_dec (q := pc + 1) (by
  unfold Jvm.ClassFile.Decoder.instr
  rw [q_bind (q_u1 h)]
  rfl) 1 rfl
set_option maxRecDepth 100000 in
theorem op_61 {c : ByteArray} {pc : Nat} (h : c.data.toList[pc]? = some 61) : decode c pc = .ok (.istore_n 2, 1) := q_dec (q := pc + 1) (by
  unfold Jvm.ClassFile.Decoder.instr
  rw [q_bind (q_u1 h)]
  rfl) 1 rfl
set_option maxRecDepth 100000 in
theorem op_62 {c : ByteArray} {pc : Nat} (h : c.data.toList[pc]? = some 62) : decode c pc = .ok (.istore_n 3, 1) := q_dec (q := pc + 1) (by
  unfold Jvm.ClassFile.Decoder.instr
  rw [q_bind (q_u1 h)]
  rfl) 1 rfl
set_option maxRecDepth 100000 in
theorem op_64 {c : ByteArray} {pc : Nat} (h : c.data.toList[pc]? = some 64) : decode c pc = .ok (.lstore_n 1, 1) := q_dec (q := pc + 1) (by
  unfold Jvm.ClassFile.Decoder.instr
  rw [q_bind (q_u1 h)]
  rfl) 1 rfl
set_option maxRecDepth 100000 in
theorem op_65 {c : ByteArray} {pc : Nat} (h : c.data.toList[pc]? = some 65) : decode c pc = .ok (.lstore_n 2, 1) := q_dec (q := pc + 1) (by
  unfold Jvm.ClassFile.Decoder.instr
  rw [q_bind (q_u1 h)]
  rfl) 1 rfl
set_option maxRecDepth 100000 in
theorem op_66 {c : ByteArray} {pc : Nat} (h : c.data.toList[pc]? = some 66) : decode c pc = .ok (.lstore_n 3, 1) := q_dec (q := pc + 1) (by
  unfold Jvm.ClassFile.Decoder.instr
  rw [q_bind (q_u1 h)]
  rfl) 1 rfl
set_option maxRecDepth 100000 in
theorem op_76 {c : ByteArray} {pc : Nat} (h : c.data.toList[pc]? = some 76) : decode c pc = .ok (.astore_n 1, 1) := q_dec (q := pc + 1) (by
  unfold Jvm.ClassFile.Decoder.instr
  rw [q_bind (q_u1 h)]
  rfl) 1 rfl
set_option maxRecDepth 100000 in
theorem op_77 {c : ByteArray} {pc : Nat} (h : c.data.toList[pc]? = some 77) : decode c pc = .ok (.astore_n 2, 1) := q_dec (q := pc + 1) (by
  unfold Jvm.ClassFile.Decoder.instr
  rw [q_bind (q_u1 h)]
  rfl) 1 rfl
set_option maxRecDepth 100000 in
theorem op_78 {c : ByteArray} {pc : Nat} (h : c.data.toList[pc]? = some 78) : decode c pc = .ok (.astore_n 3, 1) := q_dec (q := pc + 1) (by
  unfold Jvm.ClassFile.Decoder.instr
  rw [q_bind (q_u1 h)]
  rfl) 1 rfl
set_option maxRecDepth 100000 in
theorem op_79 {c : ByteArray} {pc : Nat} (h : c.data.toList[pc]? = some 79) : decode c pc = .ok (.iastore, 1) := q_dec (q := pc + 1) (by
  unfold Jvm.ClassFile.Decoder.instr
  rw [q_bind (q_u1 h)]
  rfl) 1 rfl
set_option maxRecDepth 100000 in
theorem op_80 {c : ByteArray} {pc : Nat} (h : c.data.toList[pc]? = some 80) : decode c pc = .ok (.lastore, 1) := q_dec (q := pc + 1) (by
  unfold Jvm.ClassFile.Decoder.instr
  rw [q_bind (q_u1 h)]
  rfl) 1 rfl
set_option maxRecDepth 100000 in
theorem op_83 {c : ByteArray} {pc : Nat} (h : c.data.toList[pc]? = some 83) : decode c pc = .ok (.aastore, 1) := q_dec (q := pc + 1) (by
  unfold Jvm.ClassFile.Decoder.instr
  rw [q_bind (q_u1 h)]
  rfl) 1 rfl
set_option maxRecDepth 100000 in
theorem op_84 {c : ByteArray} {pc : Nat} (h : c.data.toList[pc]? = some 84) : decode c pc = .ok (.bastore, 1) := q_dec (q := pc + 1) (by
  unfold Jvm.ClassFile.Decoder.instr
  rw [q_bind (q_u1 h)]
  rfl) 1 rfl
set_option maxRecDepth 100000 in
theorem op_87 {c : ByteArray} {pc : Nat} (h : c.data.toList[pc]? = some 87) : decode c pc = .ok (.pop, 1) := q_dec (q := pc + 1) (by
  unfold Jvm.ClassFile.Decoder.instr
  rw [q_bind (q_u1 h)]
  rfl) 1 rfl
set_option maxRecDepth 100000 in
theorem op_88 {c : ByteArray} {pc : Nat} (h : c.data.toList[pc]? = some 88) : decode c pc = .ok (.pop2, 1) := q_dec (q := pc + 1) (by
  unfold Jvm.ClassFile.Decoder.instr
  rw [q_bind (q_u1 h)]
  rfl) 1 rfl
set_option maxRecDepth 100000 in
theorem op_89 {c : ByteArray} {pc : Nat} (h : c.data.toList[pc]? = some 89) : decode c pc = .ok (.dup, 1) := q_dec (q := pc + 1) (by
  unfold Jvm.ClassFile.Decoder.instr
  rw [q_bind (q_u1 h)]
  rfl) 1 rfl
set_option maxRecDepth 100000 in
theorem op_92 {c : ByteArray} {pc : Nat} (h : c.data.toList[pc]? = some 92) : decode c pc = .ok (.dup2, 1) := q_dec (q := pc + 1) (by
  unfold Jvm.ClassFile.Decoder.instr
  rw [q_bind (q_u1 h)]
  rfl) 1 rfl
set_option maxRecDepth 100000 in
theorem op_96 {c : ByteArray} {pc : Nat} (h : c.data.toList[pc]? = some 96) : decode c pc = .ok (.iadd, 1) := q_dec (q := pc + 1) (by
  unfold Jvm.ClassFile.Decoder.instr
  rw [q_bind (q_u1 h)]
  rfl) 1 rfl
set_option maxRecDepth 100000 in
theorem op_97 {c : ByteArray} {pc : Nat} (h : c.data.toList[pc]? = some 97) : decode c pc = .ok (.ladd, 1) := q_dec (q := pc + 1) (by
  unfold Jvm.ClassFile.Decoder.instr
  rw [q_bind (q_u1 h)]
  rfl) 1 rfl
set_option maxRecDepth 100000 in
theorem op_100 {c : ByteArray} {pc : Nat} (h : c.data.toList[pc]? = some 100) : decode c pc = .ok (.isub, 1) := q_dec (q := pc + 1) (by
  unfold Jvm.ClassFile.Decoder.instr
  rw [q_bind (q_u1 h)]
  rfl) 1 rfl
set_option maxRecDepth 100000 in
theorem op_101 {c : ByteArray} {pc : Nat} (h : c.data.toList[pc]? = some 101) : decode c pc = .ok (.lsub, 1) := q_dec (q := pc + 1) (by
  unfold Jvm.ClassFile.Decoder.instr
  rw [q_bind (q_u1 h)]
  rfl) 1 rfl
set_option maxRecDepth 100000 in
theorem op_104 {c : ByteArray} {pc : Nat} (h : c.data.toList[pc]? = some 104) : decode c pc = .ok (.imul, 1) := q_dec (q := pc + 1) (by
  unfold Jvm.ClassFile.Decoder.instr
  rw [q_bind (q_u1 h)]
  rfl) 1 rfl
set_option maxRecDepth 100000 in
theorem op_105 {c : ByteArray} {pc : Nat} (h : c.data.toList[pc]? = some 105) : decode c pc = .ok (.lmul, 1) := q_dec (q := pc + 1) (by
  unfold Jvm.ClassFile.Decoder.instr
  rw [q_bind (q_u1 h)]
  rfl) 1 rfl
set_option maxRecDepth 100000 in
theorem op_108 {c : ByteArray} {pc : Nat} (h : c.data.toList[pc]? = some 108) : decode c pc = .ok (.idiv, 1) := q_dec (q := pc + 1) (by
  unfold Jvm.ClassFile.Decoder.instr
  rw [q_bind (q_u1 h)]
  rfl) 1 rfl
set_option maxRecDepth 100000 in
theorem op_109 {c : ByteArray} {pc : Nat} (h : c.data.toList[pc]? = some 109) : decode c pc = .ok (.ldiv, 1) := q_dec (q := pc + 1) (by
  unfold Jvm.ClassFile.Decoder.instr
  rw [q_bind (q_u1 h)]
  rfl) 1 rfl
set_option maxRecDepth 100000 in
theorem op_112 {c : ByteArray} {pc : Nat} (h : c.data.toList[pc]? = some 112) : decode c pc = .ok (.irem, 1) := q_dec (q := pc + 1) (by
  unfold Jvm.ClassFile.Decoder.instr
  rw [q_bind (q_u1 h)]
  rfl) 1 rfl
set_option maxRecDepth 100000 in
theorem op_113 {c : ByteArray} {pc : Nat} (h : c.data.toList[pc]? = some 113) : decode c pc = .ok (.lrem, 1) := q_dec (q := pc + 1) (by
  unfold Jvm.ClassFile.Decoder.instr
  rw [q_bind (q_u1 h)]
  rfl) 1 rfl
set_option maxRecDepth 100000 in
theorem op_116 {c : ByteArray} {pc : Nat} (h : c.data.toList[pc]? = some 116) : decode c pc = .ok (.ineg, 1) := q_dec (q := pc + 1) (by
  unfold Jvm.ClassFile.Decoder.instr
  rw [q_bind (q_u1 h)]
  rfl) 1 rfl
set_option maxRecDepth 100000 in
theorem op_117 {c : ByteArray} {pc : Nat} (h : c.data.toList[pc]? = some 117) : decode c pc = .ok (.lneg, 1) := q_dec (q := pc + 1) (by
  unfold Jvm.ClassFile.Decoder.instr
  rw [q_bind (q_u1 h)]
  rfl) 1 rfl
set_option maxRecDepth 100000 in
theorem op_120 {c : ByteArray} {pc : Nat} (h : c.data.toList[pc]? = some 120) : decode c pc = .ok (.ishl, 1) := q_dec (q := pc + 1) (by
  unfold Jvm.ClassFile.Decoder.instr
  rw [q_bind (q_u1 h)]
  rfl) 1 rfl
set_option maxRecDepth 100000 in
theorem op_121 {c : ByteArray} {pc : Nat} (h : c.data.toList[pc]? = some 121) : decode c pc = .ok (.lshl, 1) := q_dec (q := pc + 1) (by
  unfold Jvm.ClassFile.Decoder.instr
  rw [q_bind (q_u1 h)]
  rfl) 1 rfl
set_option maxRecDepth 100000 in
theorem op_122 {c : ByteArray} {pc : Nat} (h : c.data.toList[pc]? = some 122) : decode c pc = .ok (.ishr, 1) := q_dec (q := pc + 1) (by
  unfold Jvm.ClassFile.Decoder.instr
  rw [q_bind (q_u1 h)]
  rfl) 1 rfl
set_option maxRecDepth 100000 in
theorem op_123 {c : ByteArray} {pc : Nat} (h : c.data.toList[pc]? = some 123) : decode c pc = .ok (.lshr, 1) := q_dec (q := pc + 1) (by
  unfold Jvm.ClassFile.Decoder.instr
  rw [q_bind (q_u1 h)]
  rfl) 1 rfl
set_option maxRecDepth 100000 in
theorem op_124 {c : ByteArray} {pc : Nat} (h : c.data.toList[pc]? = some 124) : decode c pc = .ok (.iushr, 1) := q_dec (q := pc + 1) (by
  unfold Jvm.ClassFile.Decoder.instr
  rw [q_bind (q_u1 h)]
  rfl) 1 rfl
set_option maxRecDepth 100000 in
theorem op_126 {c : ByteArray} {pc : Nat} (h : c.data.toList[pc]? = some 126) : decode c pc = .ok (.iand, 1) := q_dec (q := pc + 1) (by
  unfold Jvm.ClassFile.Decoder.instr
  rw [q_bind (q_u1 h)]
  rfl) 1 rfl
set_option maxRecDepth 100000 in
theorem op_127 {c : ByteArray} {pc : Nat} (h : c.data.toList[pc]? = some 127) : decode c pc = .ok (.land, 1) := q_dec (q := pc + 1) (by
  unfold Jvm.ClassFile.Decoder.instr
  rw [q_bind (q_u1 h)]
  rfl) 1 rfl
set_option maxRecDepth 100000 in
theorem op_128 {c : ByteArray} {pc : Nat} (h : c.data.toList[pc]? = some 128) : decode c pc = .ok (.ior, 1) := q_dec (q := pc + 1) (by
  unfold Jvm.ClassFile.Decoder.instr
  rw [q_bind (q_u1 h)]
  rfl) 1 rfl
set_option maxRecDepth 100000 in
theorem op_129 {c : ByteArray} {pc : Nat} (h : c.data.toList[pc]? = some 129) : decode c pc = .ok (.lor, 1) := q_dec (q := pc + 1) (by
  unfold Jvm.ClassFile.Decoder.instr
  rw [q_bind (q_u1 h)]
  rfl) 1 rfl
set_option maxRecDepth 100000 in
theorem op_130 {c : ByteArray} {pc : Nat} (h : c.data.toList[pc]? = some 130) : decode c pc = .ok (.ixor, 1) := q_dec (q := pc + 1) (by
  unfold Jvm.ClassFile.Decoder.instr
  rw [q_bind (q_u1 h)]
  rfl) 1 rfl
set_option maxRecDepth 100000 in
theorem op_132 {c : ByteArray} {pc : Nat} {x y : UInt8} (h : c.data.toList[pc]? = some 132) (h1 : c.data.toList[pc + 1]? = some x) (h2 : c.data.toList[pc + 1 + 1]? = some y) : decode c pc = .ok (.iinc x.toNat (Jvm.ClassFile.Reader.signed 8 y.toNat), 3) := q_dec (q := pc + 1 + 1 + 1) (by
  unfold Jvm.ClassFile.Decoder.instr
  rw [q_bind (q_u1 h)]
  show ((Jvm.ClassFile.Reader.u1 : Jvm.ClassFile.Decoder _) >>= fun a => (Jvm.ClassFile.Reader.s1 : Jvm.ClassFile.Decoder _) >>= fun b => pure (.iinc a b : Instr)) c (pc + 1) = _
  rw [q_bind (q_u1 h1), q_bind (q_s1 h2)]
  rfl) 3 rfl
set_option maxRecDepth 100000 in
theorem op_133 {c : ByteArray} {pc : Nat} (h : c.data.toList[pc]? = some 133) : decode c pc = .ok (.i2l, 1) := q_dec (q := pc + 1) (by
  unfold Jvm.ClassFile.Decoder.instr
  rw [q_bind (q_u1 h)]
  rfl) 1 rfl
set_option maxRecDepth 100000 in
theorem op_136 {c : ByteArray} {pc : Nat} (h : c.data.toList[pc]? = some 136) : decode c pc = .ok (.l2i, 1) := q_dec (q := pc + 1) (by
  unfold Jvm.ClassFile.Decoder.instr
  rw [q_bind (q_u1 h)]
  rfl) 1 rfl
set_option maxRecDepth 100000 in
theorem op_145 {c : ByteArray} {pc : Nat} (h : c.data.toList[pc]? = some 145) : decode c pc = .ok (.i2b, 1) := q_dec (q := pc + 1) (by
  unfold Jvm.ClassFile.Decoder.instr
  rw [q_bind (q_u1 h)]
  rfl) 1 rfl
set_option maxRecDepth 100000 in
theorem op_146 {c : ByteArray} {pc : Nat} (h : c.data.toList[pc]? = some 146) : decode c pc = .ok (.i2c, 1) := q_dec (q := pc + 1) (by
  unfold Jvm.ClassFile.Decoder.instr
  rw [q_bind (q_u1 h)]
  rfl) 1 rfl
set_option maxRecDepth 100000 in
theorem op_147 {c : ByteArray} {pc : Nat} (h : c.data.toList[pc]? = some 147) : decode c pc = .ok (.i2s, 1) := q_dec (q := pc + 1) (by
  unfold Jvm.ClassFile.Decoder.instr
  rw [q_bind (q_u1 h)]
  rfl) 1 rfl
set_option maxRecDepth 100000 in
theorem op_148 {c : ByteArray} {pc : Nat} (h : c.data.toList[pc]? = some 148) : decode c pc = .ok (.lcmp, 1) := q_dec (q := pc + 1) (by
  unfold Jvm.ClassFile.Decoder.instr
  rw [q_bind (q_u1 h)]
  rfl) 1 rfl
set_option maxRecDepth 100000 in
theorem op_153 {c : ByteArray} {pc : Nat} {x y : UInt8} {o : Int} (h : c.data.toList[pc]? = some 153) (h1 : c.data.toList[pc + 1]? = some x) (h2 : c.data.toList[pc + 1 + 1]? = some y) (he : Jvm.ClassFile.Reader.signed 16 (x.toNat * 256 + y.toNat) = o) : decode c pc = .ok (.ifCond .eq o, 3) := q_dec (q := pc + 1 + 1 + 1) (by
  subst he
  unfold Jvm.ClassFile.Decoder.instr
  rw [q_bind (q_u1 h)]
  show ((Jvm.ClassFile.Reader.s2 : Jvm.ClassFile.Decoder _) >>= fun a => pure (.ifCond .eq a : Instr)) c (pc + 1) = _
  rw [q_bind (q_s2 h1 h2)]
  rfl) 3 rfl
set_option maxRecDepth 100000 in
theorem op_154 {c : ByteArray} {pc : Nat} {x y : UInt8} {o : Int} (h : c.data.toList[pc]? = some 154) (h1 : c.data.toList[pc + 1]? = some x) (h2 : c.data.toList[pc + 1 + 1]? = some y) (he : Jvm.ClassFile.Reader.signed 16 (x.toNat * 256 + y.toNat) = o) : decode c pc = .ok (.ifCond .ne o, 3) := q_dec (q := pc + 1 + 1 + 1) (by
  subst he
  unfold Jvm.ClassFile.Decoder.instr
  rw [q_bind (q_u1 h)]
  show ((Jvm.ClassFile.Reader.s2 : Jvm.ClassFile.Decoder _) >>= fun a => pure (.ifCond .ne a : Instr)) c (pc + 1) = _
  rw [q_bind (q_s2 h1 h2)]
  rfl) 3 rfl
set_option maxRecDepth 100000 in
theorem op_155 {c : ByteArray} {pc : Nat} {x y : UInt8} {o : Int} (h : c.data.toList[pc]? = some 155) (h1 : c.data.toList[pc + 1]? = some x) (h2 : c.data.toList[pc + 1 + 1]? = some y) (he : Jvm.ClassFile.Reader.signed 16 (x.toNat * 256 + y.toNat) = o) : decode c pc = .ok (.ifCond .lt o, 3) := q_dec (q := pc + 1 + 1 + 1) (by
  subst he
  unfold Jvm.ClassFile.Decoder.instr
  rw [q_bind (q_u1 h)]
  show ((Jvm.ClassFile.Reader.s2 : Jvm.ClassFile.Decoder _) >>= fun a => pure (.ifCond .lt a : Instr)) c (pc + 1) = _
  rw [q_bind (q_s2 h1 h2)]
  rfl) 3 rfl
set_option maxRecDepth 100000 in
theorem op_156 {c : ByteArray} {pc : Nat} {x y : UInt8} {o : Int} (h : c.data.toList[pc]? = some 156) (h1 : c.data.toList[pc + 1]? = some x) (h2 : c.data.toList[pc + 1 + 1]? = some y) (he : Jvm.ClassFile.Reader.signed 16 (x.toNat * 256 + y.toNat) = o) : decode c pc = .ok (.ifCond .ge o, 3) := q_dec (q := pc + 1 + 1 + 1) (by
  subst he
  unfold Jvm.ClassFile.Decoder.instr
  rw [q_bind (q_u1 h)]
  show ((Jvm.ClassFile.Reader.s2 : Jvm.ClassFile.Decoder _) >>= fun a => pure (.ifCond .ge a : Instr)) c (pc + 1) = _
  rw [q_bind (q_s2 h1 h2)]
  rfl) 3 rfl
set_option maxRecDepth 100000 in
theorem op_157 {c : ByteArray} {pc : Nat} {x y : UInt8} {o : Int} (h : c.data.toList[pc]? = some 157) (h1 : c.data.toList[pc + 1]? = some x) (h2 : c.data.toList[pc + 1 + 1]? = some y) (he : Jvm.ClassFile.Reader.signed 16 (x.toNat * 256 + y.toNat) = o) : decode c pc = .ok (.ifCond .gt o, 3) := q_dec (q := pc + 1 + 1 + 1) (by
  subst he
  unfold Jvm.ClassFile.Decoder.instr
  rw [q_bind (q_u1 h)]
  show ((Jvm.ClassFile.Reader.s2 : Jvm.ClassFile.Decoder _) >>= fun a => pure (.ifCond .gt a : Instr)) c (pc + 1) = _
  rw [q_bind (q_s2 h1 h2)]
  rfl) 3 rfl
set_option maxRecDepth 100000 in
theorem op_158 {c : ByteArray} {pc : Nat} {x y : UInt8} {o : Int} (h : c.data.toList[pc]? = some 158) (h1 : c.data.toList[pc + 1]? = some x) (h2 : c.data.toList[pc + 1 + 1]? = some y) (he : Jvm.ClassFile.Reader.signed 16 (x.toNat * 256 + y.toNat) = o) : decode c pc = .ok (.ifCond .le o, 3) := q_dec (q := pc + 1 + 1 + 1) (by
  subst he
  unfold Jvm.ClassFile.Decoder.instr
  rw [q_bind (q_u1 h)]
  show ((Jvm.ClassFile.Reader.s2 : Jvm.ClassFile.Decoder _) >>= fun a => pure (.ifCond .le a : Instr)) c (pc + 1) = _
  rw [q_bind (q_s2 h1 h2)]
  rfl) 3 rfl
set_option maxRecDepth 100000 in
theorem op_159 {c : ByteArray} {pc : Nat} {x y : UInt8} {o : Int} (h : c.data.toList[pc]? = some 159) (h1 : c.data.toList[pc + 1]? = some x) (h2 : c.data.toList[pc + 1 + 1]? = some y) (he : Jvm.ClassFile.Reader.signed 16 (x.toNat * 256 + y.toNat) = o) : decode c pc = .ok (.if_icmp .eq o, 3) := q_dec (q := pc + 1 + 1 + 1) (by
  subst he
  unfold Jvm.ClassFile.Decoder.instr
  rw [q_bind (q_u1 h)]
  show ((Jvm.ClassFile.Reader.s2 : Jvm.ClassFile.Decoder _) >>= fun a => pure (.if_icmp .eq a : Instr)) c (pc + 1) = _
  rw [q_bind (q_s2 h1 h2)]
  rfl) 3 rfl
set_option maxRecDepth 100000 in
theorem op_160 {c : ByteArray} {pc : Nat} {x y : UInt8} {o : Int} (h : c.data.toList[pc]? = some 160) (h1 : c.data.toList[pc + 1]? = some x) (h2 : c.data.toList[pc + 1 + 1]? = some y) (he : Jvm.ClassFile.Reader.signed 16 (x.toNat * 256 + y.toNat) = o) : decode c pc = .ok (.if_icmp .ne o, 3) := q_dec (q := pc + 1 + 1 + 1) (by
  subst he
  unfold Jvm.ClassFile.Decoder.instr
  rw [q_bind (q_u1 h)]
  show ((Jvm.ClassFile.Reader.s2 : Jvm.ClassFile.Decoder _) >>= fun a => pure (.if_icmp .ne a : Instr)) c (pc + 1) = _
  rw [q_bind (q_s2 h1 h2)]
  rfl) 3 rfl
set_option maxRecDepth 100000 in
theorem op_161 {c : ByteArray} {pc : Nat} {x y : UInt8} {o : Int} (h : c.data.toList[pc]? = some 161) (h1 : c.data.toList[pc + 1]? = some x) (h2 : c.data.toList[pc + 1 + 1]? = some y) (he : Jvm.ClassFile.Reader.signed 16 (x.toNat * 256 + y.toNat) = o) : decode c pc = .ok (.if_icmp .lt o, 3) := q_dec (q := pc + 1 + 1 + 1) (by
  subst he
  unfold Jvm.ClassFile.Decoder.instr
  rw [q_bind (q_u1 h)]
  show ((Jvm.ClassFile.Reader.s2 : Jvm.ClassFile.Decoder _) >>= fun a => pure (.if_icmp .lt a : Instr)) c (pc + 1) = _
  rw [q_bind (q_s2 h1 h2)]
  rfl) 3 rfl
set_option maxRecDepth 100000 in
theorem op_162 {c : ByteArray} {pc : Nat} {x y : UInt8} {o : Int} (h : c.data.toList[pc]? = some 162) (h1 : c.data.toList[pc + 1]? = some x) (h2 : c.data.toList[pc + 1 + 1]? = some y) (he : Jvm.ClassFile.Reader.signed 16 (x.toNat * 256 + y.toNat) = o) : decode c pc = .ok (.if_icmp .ge o, 3) := q_dec (q := pc + 1 + 1 + 1) (by
  subst he
  unfold Jvm.ClassFile.Decoder.instr
  rw [q_bind (q_u1 h)]
  show ((Jvm.ClassFile.Reader.s2 : Jvm.ClassFile.Decoder _) >>= fun a => pure (.if_icmp .ge a : Instr)) c (pc + 1) = _
  rw [q_bind (q_s2 h1 h2)]
  rfl) 3 rfl
set_option maxRecDepth 100000 in
theorem op_163 {c : ByteArray} {pc : Nat} {x y : UInt8} {o : Int} (h : c.data.toList[pc]? = some 163) (h1 : c.data.toList[pc + 1]? = some x) (h2 : c.data.toList[pc + 1 + 1]? = some y) (he : Jvm.ClassFile.Reader.signed 16 (x.toNat * 256 + y.toNat) = o) : decode c pc = .ok (.if_icmp .gt o, 3) := q_dec (q := pc + 1 + 1 + 1) (by
  subst he
  unfold Jvm.ClassFile.Decoder.instr
  rw [q_bind (q_u1 h)]
  show ((Jvm.ClassFile.Reader.s2 : Jvm.ClassFile.Decoder _) >>= fun a => pure (.if_icmp .gt a : Instr)) c (pc + 1) = _
  rw [q_bind (q_s2 h1 h2)]
  rfl) 3 rfl
set_option maxRecDepth 100000 in
theorem op_164 {c : ByteArray} {pc : Nat} {x y : UInt8} {o : Int} (h : c.data.toList[pc]? = some 164) (h1 : c.data.toList[pc + 1]? = some x) (h2 : c.data.toList[pc + 1 + 1]? = some y) (he : Jvm.ClassFile.Reader.signed 16 (x.toNat * 256 + y.toNat) = o) : decode c pc = .ok (.if_icmp .le o, 3) := q_dec (q := pc + 1 + 1 + 1) (by
  subst he
  unfold Jvm.ClassFile.Decoder.instr
  rw [q_bind (q_u1 h)]
  show ((Jvm.ClassFile.Reader.s2 : Jvm.ClassFile.Decoder _) >>= fun a => pure (.if_icmp .le a : Instr)) c (pc + 1) = _
  rw [q_bind (q_s2 h1 h2)]
  rfl) 3 rfl
set_option maxRecDepth 100000 in
theorem op_167 {c : ByteArray} {pc : Nat} {x y : UInt8} {o : Int} (h : c.data.toList[pc]? = some 167) (h1 : c.data.toList[pc + 1]? = some x) (h2 : c.data.toList[pc + 1 + 1]? = some y) (he : Jvm.ClassFile.Reader.signed 16 (x.toNat * 256 + y.toNat) = o) : decode c pc = .ok (.goto o, 3) := q_dec (q := pc + 1 + 1 + 1) (by
  subst he
  unfold Jvm.ClassFile.Decoder.instr
  rw [q_bind (q_u1 h)]
  show ((Jvm.ClassFile.Reader.s2 : Jvm.ClassFile.Decoder _) >>= fun a => pure (.goto a : Instr)) c (pc + 1) = _
  rw [q_bind (q_s2 h1 h2)]
  rfl) 3 rfl
set_option maxRecDepth 100000 in
theorem op_172 {c : ByteArray} {pc : Nat} (h : c.data.toList[pc]? = some 172) : decode c pc = .ok (.ireturn, 1) := q_dec (q := pc + 1) (by
  unfold Jvm.ClassFile.Decoder.instr
  rw [q_bind (q_u1 h)]
  rfl) 1 rfl
set_option maxRecDepth 100000 in
theorem op_173 {c : ByteArray} {pc : Nat} (h : c.data.toList[pc]? = some 173) : decode c pc = .ok (.lreturn, 1) := q_dec (q := pc + 1) (by
  unfold Jvm.ClassFile.Decoder.instr
  rw [q_bind (q_u1 h)]
  rfl) 1 rfl
set_option maxRecDepth 100000 in
theorem op_177 {c : ByteArray} {pc : Nat} (h : c.data.toList[pc]? = some 177) : decode c pc = .ok (.return_, 1) := q_dec (q := pc + 1) (by
  unfold Jvm.ClassFile.Decoder.instr
  rw [q_bind (q_u1 h)]
  rfl) 1 rfl
set_option maxRecDepth 100000 in
theorem op_178 {c : ByteArray} {pc : Nat} {x y : UInt8}  (h : c.data.toList[pc]? = some 178) (h1 : c.data.toList[pc + 1]? = some x) (h2 : c.data.toList[pc + 1 + 1]? = some y)  : decode c pc = .ok (.getstatic (x.toNat * 256 + y.toNat), 3) := q_dec (q := pc + 1 + 1 + 1) (by
  unfold Jvm.ClassFile.Decoder.instr
  rw [q_bind (q_u1 h)]
  show ((Jvm.ClassFile.Reader.u2 : Jvm.ClassFile.Decoder _) >>= fun a => pure (.getstatic a : Instr)) c (pc + 1) = _
  rw [q_bind (q_u2 h1 h2)]
  rfl) 3 rfl
set_option maxRecDepth 100000 in
theorem op_180 {c : ByteArray} {pc : Nat} {x y : UInt8}  (h : c.data.toList[pc]? = some 180) (h1 : c.data.toList[pc + 1]? = some x) (h2 : c.data.toList[pc + 1 + 1]? = some y)  : decode c pc = .ok (.getfield (x.toNat * 256 + y.toNat), 3) := q_dec (q := pc + 1 + 1 + 1) (by
  unfold Jvm.ClassFile.Decoder.instr
  rw [q_bind (q_u1 h)]
  show ((Jvm.ClassFile.Reader.u2 : Jvm.ClassFile.Decoder _) >>= fun a => pure (.getfield a : Instr)) c (pc + 1) = _
  rw [q_bind (q_u2 h1 h2)]
  rfl) 3 rfl
set_option maxRecDepth 100000 in
theorem op_181 {c : ByteArray} {pc : Nat} {x y : UInt8}  (h : c.data.toList[pc]? = some 181) (h1 : c.data.toList[pc + 1]? = some x) (h2 : c.data.toList[pc + 1 + 1]? = some y)  : decode c pc = .ok (.putfield (x.toNat * 256 + y.toNat), 3) := q_dec (q := pc + 1 + 1 + 1) (by
  unfold Jvm.ClassFile.Decoder.instr
  rw [q_bind (q_u1 h)]
  show ((Jvm.ClassFile.Reader.u2 : Jvm.ClassFile.Decoder _) >>= fun a => pure (.putfield a : Instr)) c (pc + 1) = _
  rw [q_bind (q_u2 h1 h2)]
  rfl) 3 rfl
set_option maxRecDepth 100000 in
theorem op_182 {c : ByteArray} {pc : Nat} {x y : UInt8}  (h : c.data.toList[pc]? = some 182) (h1 : c.data.toList[pc + 1]? = some x) (h2 : c.data.toList[pc + 1 + 1]? = some y)  : decode c pc = .ok (.invokevirtual (x.toNat * 256 + y.toNat), 3) := q_dec (q := pc + 1 + 1 + 1) (by
  unfold Jvm.ClassFile.Decoder.instr
  rw [q_bind (q_u1 h)]
  show ((Jvm.ClassFile.Reader.u2 : Jvm.ClassFile.Decoder _) >>= fun a => pure (.invokevirtual a : Instr)) c (pc + 1) = _
  rw [q_bind (q_u2 h1 h2)]
  rfl) 3 rfl
set_option maxRecDepth 100000 in
theorem op_183 {c : ByteArray} {pc : Nat} {x y : UInt8}  (h : c.data.toList[pc]? = some 183) (h1 : c.data.toList[pc + 1]? = some x) (h2 : c.data.toList[pc + 1 + 1]? = some y)  : decode c pc = .ok (.invokespecial (x.toNat * 256 + y.toNat), 3) := q_dec (q := pc + 1 + 1 + 1) (by
  unfold Jvm.ClassFile.Decoder.instr
  rw [q_bind (q_u1 h)]
  show ((Jvm.ClassFile.Reader.u2 : Jvm.ClassFile.Decoder _) >>= fun a => pure (.invokespecial a : Instr)) c (pc + 1) = _
  rw [q_bind (q_u2 h1 h2)]
  rfl) 3 rfl
set_option maxRecDepth 100000 in
theorem op_184 {c : ByteArray} {pc : Nat} {x y : UInt8}  (h : c.data.toList[pc]? = some 184) (h1 : c.data.toList[pc + 1]? = some x) (h2 : c.data.toList[pc + 1 + 1]? = some y)  : decode c pc = .ok (.invokestatic (x.toNat * 256 + y.toNat), 3) := q_dec (q := pc + 1 + 1 + 1) (by
  unfold Jvm.ClassFile.Decoder.instr
  rw [q_bind (q_u1 h)]
  show ((Jvm.ClassFile.Reader.u2 : Jvm.ClassFile.Decoder _) >>= fun a => pure (.invokestatic a : Instr)) c (pc + 1) = _
  rw [q_bind (q_u2 h1 h2)]
  rfl) 3 rfl
set_option maxRecDepth 100000 in
theorem op_187 {c : ByteArray} {pc : Nat} {x y : UInt8}  (h : c.data.toList[pc]? = some 187) (h1 : c.data.toList[pc + 1]? = some x) (h2 : c.data.toList[pc + 1 + 1]? = some y)  : decode c pc = .ok (.new (x.toNat * 256 + y.toNat), 3) := q_dec (q := pc + 1 + 1 + 1) (by
  unfold Jvm.ClassFile.Decoder.instr
  rw [q_bind (q_u1 h)]
  show ((Jvm.ClassFile.Reader.u2 : Jvm.ClassFile.Decoder _) >>= fun a => pure (.new a : Instr)) c (pc + 1) = _
  rw [q_bind (q_u2 h1 h2)]
  rfl) 3 rfl
set_option maxRecDepth 100000 in
theorem op_189 {c : ByteArray} {pc : Nat} {x y : UInt8}  (h : c.data.toList[pc]? = some 189) (h1 : c.data.toList[pc + 1]? = some x) (h2 : c.data.toList[pc + 1 + 1]? = some y)  : decode c pc = .ok (.anewarray (x.toNat * 256 + y.toNat), 3) := q_dec (q := pc + 1 + 1 + 1) (by
  unfold Jvm.ClassFile.Decoder.instr
  rw [q_bind (q_u1 h)]
  show ((Jvm.ClassFile.Reader.u2 : Jvm.ClassFile.Decoder _) >>= fun a => pure (.anewarray a : Instr)) c (pc + 1) = _
  rw [q_bind (q_u2 h1 h2)]
  rfl) 3 rfl
set_option maxRecDepth 100000 in
theorem op_190 {c : ByteArray} {pc : Nat} (h : c.data.toList[pc]? = some 190) : decode c pc = .ok (.arraylength, 1) := q_dec (q := pc + 1) (by
  unfold Jvm.ClassFile.Decoder.instr
  rw [q_bind (q_u1 h)]
  rfl) 1 rfl
set_option maxRecDepth 100000 in
theorem op_191 {c : ByteArray} {pc : Nat} (h : c.data.toList[pc]? = some 191) : decode c pc = .ok (.athrow, 1) := q_dec (q := pc + 1) (by
  unfold Jvm.ClassFile.Decoder.instr
  rw [q_bind (q_u1 h)]
  rfl) 1 rfl
set_option maxRecDepth 100000 in
theorem op_198 {c : ByteArray} {pc : Nat} {x y : UInt8} {o : Int} (h : c.data.toList[pc]? = some 198) (h1 : c.data.toList[pc + 1]? = some x) (h2 : c.data.toList[pc + 1 + 1]? = some y) (he : Jvm.ClassFile.Reader.signed 16 (x.toNat * 256 + y.toNat) = o) : decode c pc = .ok (.ifnull o, 3) := q_dec (q := pc + 1 + 1 + 1) (by
  subst he
  unfold Jvm.ClassFile.Decoder.instr
  rw [q_bind (q_u1 h)]
  show ((Jvm.ClassFile.Reader.s2 : Jvm.ClassFile.Decoder _) >>= fun a => pure (.ifnull a : Instr)) c (pc + 1) = _
  rw [q_bind (q_s2 h1 h2)]
  rfl) 3 rfl
set_option maxRecDepth 100000 in
theorem op_199 {c : ByteArray} {pc : Nat} {x y : UInt8} {o : Int} (h : c.data.toList[pc]? = some 199) (h1 : c.data.toList[pc + 1]? = some x) (h2 : c.data.toList[pc + 1 + 1]? = some y) (he : Jvm.ClassFile.Reader.signed 16 (x.toNat * 256 + y.toNat) = o) : decode c pc = .ok (.ifnonnull o, 3) := q_dec (q := pc + 1 + 1 + 1) (by
  subst he
  unfold Jvm.ClassFile.Decoder.instr
  rw [q_bind (q_u1 h)]
  show ((Jvm.ClassFile.Reader.s2 : Jvm.ClassFile.Decoder _) >>= fun a => pure (.ifnonnull a : Instr)) c (pc + 1) = _
  rw [q_bind (q_s2 h1 h2)]
  rfl) 3 rfl
