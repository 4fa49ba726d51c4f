theorem fd_bind {α β : Type} (x : Decoder α) (f : α → Decoder β) (c : ByteArray) (p : Nat) : Reader.runAt (x >>= f) c p = (Reader.runAt x c p).bind (fun r => Reader.runAt (f r.1) c r.2) := rfl
theorem fd_map {α β : Type} (x : Decoder α) (f : α → β) (c : ByteArray) (p : Nat) : Reader.runAt (f <$> x) c p = (Reader.runAt x c p).bind (fun r => .ok (f r.1, r.2)) := rfl
theorem fd_u1 {c : ByteArray} {p : Nat} {b : UInt8} (h : c.data.toList[p]? = some b) : Reader.runAt (Reader.u1 : Decoder Nat) c p = .ok (b.toNat, p + 1) := by
  rw [Array.getElem?_toList] at h
  obtain ⟨hs, hb⟩ := Array.getElem?_eq_some_iff.mp h
  have hs2 : p < c.size := hs
  unfold Reader.u1
  show (if h : p < c.size then (do set (p + 1); pure c[p].toNat : Decoder Nat) else throw (HasTruncated.truncated p)) c p = _
  rw [dif_pos hs2]
  exact congrArg (fun z : UInt8 => Except.ok (z.toNat, p + 1)) hb
theorem fd_u2 {c : ByteArray} {p : Nat} {b1 b2 : UInt8} (h1 : c.data.toList[p]? = some b1) (h2 : c.data.toList[p + 1]? = some b2) : Reader.runAt (Reader.u2 : Decoder Nat) c p = .ok (b1.toNat * 256 + b2.toNat, p + 1 + 1) := by
  unfold Reader.u2
  rw [fd_bind, fd_u1 h1]
  show Reader.runAt (Reader.u1 >>= _) c (p + 1) = _
  rw [fd_bind, fd_u1 h2]
  rfl
theorem fd_s1 {c : ByteArray} {p : Nat} {b : UInt8} (h : c.data.toList[p]? = some b) : Reader.runAt (Reader.s1 : Decoder Int) c p = .ok (Reader.signed 8 b.toNat, p + 1) := by
  unfold Reader.s1
  rw [fd_map, fd_u1 h]
  rfl
theorem fd_s2 {c : ByteArray} {p : Nat} {b1 b2 : UInt8} (h1 : c.data.toList[p]? = some b1) (h2 : c.data.toList[p + 1]? = some b2) : Reader.runAt (Reader.s2 : Decoder Int) c p = .ok (Reader.signed 16 (b1.toNat * 256 + b2.toNat), p + 1 + 1) := by
  unfold Reader.s2
  rw [fd_map, fd_u2 h1 h2]
  rfl
/-- a row of the table: an opcode, and what it is with the bytes from there on -/
abbrev FE := Nat × (List UInt8 → Option (Instr × Nat))
def fOk (e : FE) : Prop := ∀ (c : ByteArray) (pc : Nat) (b : UInt8) (l : List UInt8) (r : Instr × Nat), (∀ j, (b :: l)[j]? = c.data.toList[pc + j]?) → b.toNat = e.1 → e.2 (b :: l) = some r → decode c pc = .ok r
def fN (k : Nat) (i : Instr) : FE := (k, fun _ => some (i, 1))
def fU1 (k : Nat) (f : Nat → Instr) : FE := (k, fun l => match l with
  | _ :: a :: _ => some (f a.toNat, 2)
  | _ => none)
def fS1 (k : Nat) (f : Int → Instr) : FE := (k, fun l => match l with
  | _ :: a :: _ => some (f (Reader.signed 8 a.toNat), 2)
  | _ => none)
def fU2 (k : Nat) (f : Nat → Instr) : FE := (k, fun l => match l with
  | _ :: a :: b :: _ => some (f (a.toNat * 256 + b.toNat), 3)
  | _ => none)
def fS2 (k : Nat) (f : Int → Instr) : FE := (k, fun l => match l with
  | _ :: a :: b :: _ => some (f (Reader.signed 16 (a.toNat * 256 + b.toNat)), 3)
  | _ => none)
theorem fN_ok {k : Nat} {i : Instr} (h : ∀ (c : ByteArray) (pc : Nat) (b : UInt8), c.data.toList[pc]? = some b → b.toNat = k → decode c pc = .ok (i, 1)) : fOk (fN k i) := by
  intro c pc b l r hl hb hr
  have e : (i, 1) = r := Option.some.inj hr
  rw [← e]
  exact h c pc b (hl 0).symm hb
theorem fU1_ok {k : Nat} {f : Nat → Instr} (h : ∀ (c : ByteArray) (pc : Nat) (b a : UInt8), c.data.toList[pc]? = some b → c.data.toList[pc + 1]? = some a → b.toNat = k → decode c pc = .ok (f a.toNat, 2)) : fOk (fU1 k f) := by
  intro c pc b l r hl hb hr
  match l, hl, hr with
  | a :: l, hl, hr =>
    have e : (f a.toNat, 2) = r := Option.some.inj hr
    rw [← e]
    exact h c pc b a (hl 0).symm (hl 1).symm hb
theorem fS1_ok {k : Nat} {f : Int → Instr} (h : ∀ (c : ByteArray) (pc : Nat) (b a : UInt8), c.data.toList[pc]? = some b → c.data.toList[pc + 1]? = some a → b.toNat = k → decode c pc = .ok (f (Reader.signed 8 a.toNat), 2)) : fOk (fS1 k f) := by
  intro c pc b l r hl hb hr
  match l, hl, hr with
  | a :: l, hl, hr =>
    have e : (f (Reader.signed 8 a.toNat), 2) = r := Option.some.inj hr
    rw [← e]
    exact h c pc b a (hl 0).symm (hl 1).symm hb
theorem fU2_ok {k : Nat} {f : Nat → Instr} (h : ∀ (c : ByteArray) (pc : Nat) (b a a2 : UInt8), c.data.toList[pc]? = some b → c.data.toList[pc + 1]? = some a → c.data.toList[pc + 1 + 1]? = some a2 → b.toNat = k → decode c pc = .ok (f (a.toNat * 256 + a2.toNat), 3)) : fOk (fU2 k f) := by
  intro c pc b l r hl hb hr
  match l, hl, hr with
  | a :: a2 :: l, hl, hr =>
    have e : (f (a.toNat * 256 + a2.toNat), 3) = r := Option.some.inj hr
    rw [← e]
    exact h c pc b a a2 (hl 0).symm (hl 1).symm (hl 2).symm hb
theorem fS2_ok {k : Nat} {f : Int → Instr} (h : ∀ (c : ByteArray) (pc : Nat) (b a a2 : UInt8), c.data.toList[pc]? = some b → c.data.toList[pc + 1]? = some a → c.data.toList[pc + 1 + 1]? = some a2 → b.toNat = k → decode c pc = .ok (f (Reader.signed 16 (a.toNat * 256 + a2.toNat)), 3)) : fOk (fS2 k f) := by
  intro c pc b l r hl hb hr
  match l, hl, hr with
  | a :: a2 :: l, hl, hr =>
    have e : (f (Reader.signed 16 (a.toNat * 256 + a2.toNat)), 3) = r := Option.some.inj hr
    rw [← e]
    exact h c pc b a a2 (hl 0).symm (hl 1).symm (hl 2).symm hb
theorem fe_0 : fOk (fN 42 (.aload_n 0)) := fN_ok (by
  intro c pc b h hb
  unfold decode Decoder.instr
  rw [fd_bind, fd_u1 h, hb]
  show Except.ok (Instr.aload_n 0, pc + 1 - pc) = _
  rw [Nat.add_sub_cancel_left])
theorem fe_1 : fOk (fU2 180 .getfield) := fU2_ok (by
  intro c pc b a a2 h h1 h2 hb
  unfold decode Decoder.instr
  rw [fd_bind, fd_u1 h, hb]
  show ((Reader.runAt (Reader.u2 >>= fun x => pure (Instr.getfield x)) c (pc + 1)).bind _) = _
  rw [fd_bind, fd_u2 h1 h2]
  show Except.ok (Instr.getfield (a.toNat * 256 + a2.toNat), pc + 1 + 1 + 1 - pc) = _
  rw [show pc + 1 + 1 + 1 - pc = 3 by omega])
theorem fe_2 : fOk (fN 27 (.iload_n 1)) := fN_ok (by
  intro c pc b h hb
  unfold decode Decoder.instr
  rw [fd_bind, fd_u1 h, hb]
  show Except.ok (Instr.iload_n 1, pc + 1 - pc) = _
  rw [Nat.add_sub_cancel_left])
theorem fe_3 : fOk (fN 46 (.iaload)) := fN_ok (by
  intro c pc b h hb
  unfold decode Decoder.instr
  rw [fd_bind, fd_u1 h, hb]
  show Except.ok (Instr.iaload, pc + 1 - pc) = _
  rw [Nat.add_sub_cancel_left])
theorem fe_4 : fOk (fS1 16 .bipush) := fS1_ok (by
  intro c pc b a h h1 hb
  unfold decode Decoder.instr
  rw [fd_bind, fd_u1 h, hb]
  show ((Reader.runAt (Reader.s1 >>= fun x => pure (Instr.bipush x)) c (pc + 1)).bind _) = _
  rw [fd_bind, fd_s1 h1]
  show Except.ok (Instr.bipush (Reader.signed 8 a.toNat), pc + 1 + 1 - pc) = _
  rw [show pc + 1 + 1 - pc = 2 by omega])
theorem fe_5 : fOk (fU2 182 .invokevirtual) := fU2_ok (by
  intro c pc b a a2 h h1 h2 hb
  unfold decode Decoder.instr
  rw [fd_bind, fd_u1 h, hb]
  show ((Reader.runAt (Reader.u2 >>= fun x => pure (Instr.invokevirtual x)) c (pc + 1)).bind _) = _
  rw [fd_bind, fd_u2 h1 h2]
  show Except.ok (Instr.invokevirtual (a.toNat * 256 + a2.toNat), pc + 1 + 1 + 1 - pc) = _
  rw [show pc + 1 + 1 + 1 - pc = 3 by omega])
theorem fe_6 : fOk (fN 172 (.ireturn)) := fN_ok (by
  intro c pc b h hb
  unfold decode Decoder.instr
  rw [fd_bind, fd_u1 h, hb]
  show Except.ok (Instr.ireturn, pc + 1 - pc) = _
  rw [Nat.add_sub_cancel_left])
theorem fe_7 : fOk (fN 29 (.iload_n 3)) := fN_ok (by
  intro c pc b h hb
  unfold decode Decoder.instr
  rw [fd_bind, fd_u1 h, hb]
  show Except.ok (Instr.iload_n 3, pc + 1 - pc) = _
  rw [Nat.add_sub_cancel_left])
theorem fe_8 : fOk (fU1 21 .iload) := fU1_ok (by
  intro c pc b a h h1 hb
  unfold decode Decoder.instr
  rw [fd_bind, fd_u1 h, hb]
  show ((Reader.runAt (Reader.u1 >>= fun x => pure (Instr.iload x)) c (pc + 1)).bind _) = _
  rw [fd_bind, fd_u1 h1]
  show Except.ok (Instr.iload a.toNat, pc + 1 + 1 - pc) = _
  rw [show pc + 1 + 1 - pc = 2 by omega])
theorem fe_9 : fOk (fN 28 (.iload_n 2)) := fN_ok (by
  intro c pc b h hb
  unfold decode Decoder.instr
  rw [fd_bind, fd_u1 h, hb]
  show Except.ok (Instr.iload_n 2, pc + 1 - pc) = _
  rw [Nat.add_sub_cancel_left])
theorem fe_10 : fOk (fN 4 (.iconst 1)) := fN_ok (by
  intro c pc b h hb
  unfold decode Decoder.instr
  rw [fd_bind, fd_u1 h, hb]
  show Except.ok (Instr.iconst 1, pc + 1 - pc) = _
  rw [Nat.add_sub_cancel_left])
theorem fe_11 : fOk (fS2 167 (.goto)) := fS2_ok (by
  intro c pc b a a2 h h1 h2 hb
  unfold decode Decoder.instr
  rw [fd_bind, fd_u1 h, hb]
  show ((Reader.runAt (Reader.s2 >>= fun x => pure (Instr.goto x)) c (pc + 1)).bind _) = _
  rw [fd_bind, fd_s2 h1 h2]
  show Except.ok (Instr.goto (Reader.signed 16 (a.toNat * 256 + a2.toNat)), pc + 1 + 1 + 1 - pc) = _
  rw [show pc + 1 + 1 + 1 - pc = 3 by omega])
theorem fe_12 : fOk (fN 3 (.iconst 0)) := fN_ok (by
  intro c pc b h hb
  unfold decode Decoder.instr
  rw [fd_bind, fd_u1 h, hb]
  show Except.ok (Instr.iconst 0, pc + 1 - pc) = _
  rw [Nat.add_sub_cancel_left])
theorem fe_13 : fOk (fN 96 (.iadd)) := fN_ok (by
  intro c pc b h hb
  unfold decode Decoder.instr
  rw [fd_bind, fd_u1 h, hb]
  show Except.ok (Instr.iadd, pc + 1 - pc) = _
  rw [Nat.add_sub_cancel_left])
theorem fe_14 : fOk (fU2 181 .putfield) := fU2_ok (by
  intro c pc b a a2 h h1 h2 hb
  unfold decode Decoder.instr
  rw [fd_bind, fd_u1 h, hb]
  show ((Reader.runAt (Reader.u2 >>= fun x => pure (Instr.putfield x)) c (pc + 1)).bind _) = _
  rw [fd_bind, fd_u2 h1 h2]
  show Except.ok (Instr.putfield (a.toNat * 256 + a2.toNat), pc + 1 + 1 + 1 - pc) = _
  rw [show pc + 1 + 1 + 1 - pc = 3 by omega])
theorem fe_15 : fOk (fU2 184 .invokestatic) := fU2_ok (by
  intro c pc b a a2 h h1 h2 hb
  unfold decode Decoder.instr
  rw [fd_bind, fd_u1 h, hb]
  show ((Reader.runAt (Reader.u2 >>= fun x => pure (Instr.invokestatic x)) c (pc + 1)).bind _) = _
  rw [fd_bind, fd_u2 h1 h2]
  show Except.ok (Instr.invokestatic (a.toNat * 256 + a2.toNat), pc + 1 + 1 + 1 - pc) = _
  rw [show pc + 1 + 1 + 1 - pc = 3 by omega])
theorem fe_16 : fOk (fS2 154 (.ifCond .ne)) := fS2_ok (by
  intro c pc b a a2 h h1 h2 hb
  unfold decode Decoder.instr
  rw [fd_bind, fd_u1 h, hb]
  show ((Reader.runAt (Reader.s2 >>= fun x => pure (Instr.ifCond .ne x)) c (pc + 1)).bind _) = _
  rw [fd_bind, fd_s2 h1 h2]
  show Except.ok (Instr.ifCond .ne (Reader.signed 16 (a.toNat * 256 + a2.toNat)), pc + 1 + 1 + 1 - pc) = _
  rw [show pc + 1 + 1 + 1 - pc = 3 by omega])
theorem fe_17 : fOk (fU1 54 .istore) := fU1_ok (by
  intro c pc b a h h1 hb
  unfold decode Decoder.instr
  rw [fd_bind, fd_u1 h, hb]
  show ((Reader.runAt (Reader.u1 >>= fun x => pure (Instr.istore x)) c (pc + 1)).bind _) = _
  rw [fd_bind, fd_u1 h1]
  show Except.ok (Instr.istore a.toNat, pc + 1 + 1 - pc) = _
  rw [show pc + 1 + 1 - pc = 2 by omega])
theorem fe_18 : fOk (fS2 162 (.if_icmp .ge)) := fS2_ok (by
  intro c pc b a a2 h h1 h2 hb
  unfold decode Decoder.instr
  rw [fd_bind, fd_u1 h, hb]
  show ((Reader.runAt (Reader.s2 >>= fun x => pure (Instr.if_icmp .ge x)) c (pc + 1)).bind _) = _
  rw [fd_bind, fd_s2 h1 h2]
  show Except.ok (Instr.if_icmp .ge (Reader.signed 16 (a.toNat * 256 + a2.toNat)), pc + 1 + 1 + 1 - pc) = _
  rw [show pc + 1 + 1 + 1 - pc = 3 by omega])
theorem fe_19 : fOk (fS2 153 (.ifCond .eq)) := fS2_ok (by
  intro c pc b a a2 h h1 h2 hb
  unfold decode Decoder.instr
  rw [fd_bind, fd_u1 h, hb]
  show ((Reader.runAt (Reader.s2 >>= fun x => pure (Instr.ifCond .eq x)) c (pc + 1)).bind _) = _
  rw [fd_bind, fd_s2 h1 h2]
  show Except.ok (Instr.ifCond .eq (Reader.signed 16 (a.toNat * 256 + a2.toNat)), pc + 1 + 1 + 1 - pc) = _
  rw [show pc + 1 + 1 + 1 - pc = 3 by omega])
theorem fe_20 : fOk (fN 79 (.iastore)) := fN_ok (by
  intro c pc b h hb
  unfold decode Decoder.instr
  rw [fd_bind, fd_u1 h, hb]
  show Except.ok (Instr.iastore, pc + 1 - pc) = _
  rw [Nat.add_sub_cancel_left])
theorem fe_21 : fOk (fS2 160 (.if_icmp .ne)) := fS2_ok (by
  intro c pc b a a2 h h1 h2 hb
  unfold decode Decoder.instr
  rw [fd_bind, fd_u1 h, hb]
  show ((Reader.runAt (Reader.s2 >>= fun x => pure (Instr.if_icmp .ne x)) c (pc + 1)).bind _) = _
  rw [fd_bind, fd_s2 h1 h2]
  show Except.ok (Instr.if_icmp .ne (Reader.signed 16 (a.toNat * 256 + a2.toNat)), pc + 1 + 1 + 1 - pc) = _
  rw [show pc + 1 + 1 + 1 - pc = 3 by omega])
theorem fe_22 : fOk (fN 87 (.pop)) := fN_ok (by
  intro c pc b h hb
  unfold decode Decoder.instr
  rw [fd_bind, fd_u1 h, hb]
  show Except.ok (Instr.pop, pc + 1 - pc) = _
  rw [Nat.add_sub_cancel_left])
theorem fe_23 : fOk (fN 47 (.laload)) := fN_ok (by
  intro c pc b h hb
  unfold decode Decoder.instr
  rw [fd_bind, fd_u1 h, hb]
  show Except.ok (Instr.laload, pc + 1 - pc) = _
  rw [Nat.add_sub_cancel_left])
theorem fe_24 : fOk (fN 5 (.iconst 2)) := fN_ok (by
  intro c pc b h hb
  unfold decode Decoder.instr
  rw [fd_bind, fd_u1 h, hb]
  show Except.ok (Instr.iconst 2, pc + 1 - pc) = _
  rw [Nat.add_sub_cancel_left])
theorem fe_25 : fOk (fN 26 (.iload_n 0)) := fN_ok (by
  intro c pc b h hb
  unfold decode Decoder.instr
  rw [fd_bind, fd_u1 h, hb]
  show Except.ok (Instr.iload_n 0, pc + 1 - pc) = _
  rw [Nat.add_sub_cancel_left])
theorem fe_26 : fOk (fN 62 (.istore_n 3)) := fN_ok (by
  intro c pc b h hb
  unfold decode Decoder.instr
  rw [fd_bind, fd_u1 h, hb]
  show Except.ok (Instr.istore_n 3, pc + 1 - pc) = _
  rw [Nat.add_sub_cancel_left])
theorem fe_27 : fOk (fN 61 (.istore_n 2)) := fN_ok (by
  intro c pc b h hb
  unfold decode Decoder.instr
  rw [fd_bind, fd_u1 h, hb]
  show Except.ok (Instr.istore_n 2, pc + 1 - pc) = _
  rw [Nat.add_sub_cancel_left])
theorem fe_28 : fOk (fN 2 (.iconst (-1))) := fN_ok (by
  intro c pc b h hb
  unfold decode Decoder.instr
  rw [fd_bind, fd_u1 h, hb]
  show Except.ok (Instr.iconst (-1), pc + 1 - pc) = _
  rw [Nat.add_sub_cancel_left])
theorem fe_29 : fOk (fN 133 (.i2l)) := fN_ok (by
  intro c pc b h hb
  unfold decode Decoder.instr
  rw [fd_bind, fd_u1 h, hb]
  show Except.ok (Instr.i2l, pc + 1 - pc) = _
  rw [Nat.add_sub_cancel_left])
theorem fe_30 : fOk (fN 43 (.aload_n 1)) := fN_ok (by
  intro c pc b h hb
  unfold decode Decoder.instr
  rw [fd_bind, fd_u1 h, hb]
  show Except.ok (Instr.aload_n 1, pc + 1 - pc) = _
  rw [Nat.add_sub_cancel_left])
theorem fe_31 : fOk (fS2 155 (.ifCond .lt)) := fS2_ok (by
  intro c pc b a a2 h h1 h2 hb
  unfold decode Decoder.instr
  rw [fd_bind, fd_u1 h, hb]
  show ((Reader.runAt (Reader.s2 >>= fun x => pure (Instr.ifCond .lt x)) c (pc + 1)).bind _) = _
  rw [fd_bind, fd_s2 h1 h2]
  show Except.ok (Instr.ifCond .lt (Reader.signed 16 (a.toNat * 256 + a2.toNat)), pc + 1 + 1 + 1 - pc) = _
  rw [show pc + 1 + 1 + 1 - pc = 3 by omega])
theorem fe_32 : fOk (fN 177 (.return_)) := fN_ok (by
  intro c pc b h hb
  unfold decode Decoder.instr
  rw [fd_bind, fd_u1 h, hb]
  show Except.ok (Instr.return_, pc + 1 - pc) = _
  rw [Nat.add_sub_cancel_left])
theorem fe_33 : fOk (fN 128 (.ior)) := fN_ok (by
  intro c pc b h hb
  unfold decode Decoder.instr
  rw [fd_bind, fd_u1 h, hb]
  show Except.ok (Instr.ior, pc + 1 - pc) = _
  rw [Nat.add_sub_cancel_left])
theorem fe_34 : fOk (fN 44 (.aload_n 2)) := fN_ok (by
  intro c pc b h hb
  unfold decode Decoder.instr
  rw [fd_bind, fd_u1 h, hb]
  show Except.ok (Instr.aload_n 2, pc + 1 - pc) = _
  rw [Nat.add_sub_cancel_left])
theorem fe_35 : fOk (fN 126 (.iand)) := fN_ok (by
  intro c pc b h hb
  unfold decode Decoder.instr
  rw [fd_bind, fd_u1 h, hb]
  show Except.ok (Instr.iand, pc + 1 - pc) = _
  rw [Nat.add_sub_cancel_left])
theorem fe_36 : fOk (fU2 20 .ldc2_w) := fU2_ok (by
  intro c pc b a a2 h h1 h2 hb
  unfold decode Decoder.instr
  rw [fd_bind, fd_u1 h, hb]
  show ((Reader.runAt (Reader.u2 >>= fun x => pure (Instr.ldc2_w x)) c (pc + 1)).bind _) = _
  rw [fd_bind, fd_u2 h1 h2]
  show Except.ok (Instr.ldc2_w (a.toNat * 256 + a2.toNat), pc + 1 + 1 + 1 - pc) = _
  rw [show pc + 1 + 1 + 1 - pc = 3 by omega])
theorem fe_37 : fOk (fN 148 (.lcmp)) := fN_ok (by
  intro c pc b h hb
  unfold decode Decoder.instr
  rw [fd_bind, fd_u1 h, hb]
  show Except.ok (Instr.lcmp, pc + 1 - pc) = _
  rw [Nat.add_sub_cancel_left])
theorem fe_38 : fOk (fN 9 (.lconst 0)) := fN_ok (by
  intro c pc b h hb
  unfold decode Decoder.instr
  rw [fd_bind, fd_u1 h, hb]
  show Except.ok (Instr.lconst 0, pc + 1 - pc) = _
  rw [Nat.add_sub_cancel_left])
theorem fe_39 : fOk (fN 104 (.imul)) := fN_ok (by
  intro c pc b h hb
  unfold decode Decoder.instr
  rw [fd_bind, fd_u1 h, hb]
  show Except.ok (Instr.imul, pc + 1 - pc) = _
  rw [Nat.add_sub_cancel_left])
theorem fe_40 : fOk (fN 89 (.dup)) := fN_ok (by
  intro c pc b h hb
  unfold decode Decoder.instr
  rw [fd_bind, fd_u1 h, hb]
  show Except.ok (Instr.dup, pc + 1 - pc) = _
  rw [Nat.add_sub_cancel_left])
theorem fe_41 : fOk (fN 60 (.istore_n 1)) := fN_ok (by
  intro c pc b h hb
  unfold decode Decoder.instr
  rw [fd_bind, fd_u1 h, hb]
  show Except.ok (Instr.istore_n 1, pc + 1 - pc) = _
  rw [Nat.add_sub_cancel_left])
theorem fe_42 : fOk (fN 100 (.isub)) := fN_ok (by
  intro c pc b h hb
  unfold decode Decoder.instr
  rw [fd_bind, fd_u1 h, hb]
  show Except.ok (Instr.isub, pc + 1 - pc) = _
  rw [Nat.add_sub_cancel_left])
theorem fe_43 : fOk (fN 120 (.ishl)) := fN_ok (by
  intro c pc b h hb
  unfold decode Decoder.instr
  rw [fd_bind, fd_u1 h, hb]
  show Except.ok (Instr.ishl, pc + 1 - pc) = _
  rw [Nat.add_sub_cancel_left])
theorem fe_44 : fOk (fS2 161 (.if_icmp .lt)) := fS2_ok (by
  intro c pc b a a2 h h1 h2 hb
  unfold decode Decoder.instr
  rw [fd_bind, fd_u1 h, hb]
  show ((Reader.runAt (Reader.s2 >>= fun x => pure (Instr.if_icmp .lt x)) c (pc + 1)).bind _) = _
  rw [fd_bind, fd_s2 h1 h2]
  show Except.ok (Instr.if_icmp .lt (Reader.signed 16 (a.toNat * 256 + a2.toNat)), pc + 1 + 1 + 1 - pc) = _
  rw [show pc + 1 + 1 + 1 - pc = 3 by omega])
theorem fe_45 : fOk (fS2 159 (.if_icmp .eq)) := fS2_ok (by
  intro c pc b a a2 h h1 h2 hb
  unfold decode Decoder.instr
  rw [fd_bind, fd_u1 h, hb]
  show ((Reader.runAt (Reader.s2 >>= fun x => pure (Instr.if_icmp .eq x)) c (pc + 1)).bind _) = _
  rw [fd_bind, fd_s2 h1 h2]
  show Except.ok (Instr.if_icmp .eq (Reader.signed 16 (a.toNat * 256 + a2.toNat)), pc + 1 + 1 + 1 - pc) = _
  rw [show pc + 1 + 1 + 1 - pc = 3 by omega])
theorem fe_46 : fOk (fU1 22 .lload) := fU1_ok (by
  intro c pc b a h h1 hb
  unfold decode Decoder.instr
  rw [fd_bind, fd_u1 h, hb]
  show ((Reader.runAt (Reader.u1 >>= fun x => pure (Instr.lload x)) c (pc + 1)).bind _) = _
  rw [fd_bind, fd_u1 h1]
  show Except.ok (Instr.lload a.toNat, pc + 1 + 1 - pc) = _
  rw [show pc + 1 + 1 - pc = 2 by omega])
theorem fe_47 : fOk (fN 6 (.iconst 3)) := fN_ok (by
  intro c pc b h hb
  unfold decode Decoder.instr
  rw [fd_bind, fd_u1 h, hb]
  show Except.ok (Instr.iconst 3, pc + 1 - pc) = _
  rw [Nat.add_sub_cancel_left])
theorem fe_48 : fOk (fN 10 (.lconst 1)) := fN_ok (by
  intro c pc b h hb
  unfold decode Decoder.instr
  rw [fd_bind, fd_u1 h, hb]
  show Except.ok (Instr.lconst 1, pc + 1 - pc) = _
  rw [Nat.add_sub_cancel_left])
theorem fe_49 : fOk (fN 32 (.lload_n 2)) := fN_ok (by
  intro c pc b h hb
  unfold decode Decoder.instr
  rw [fd_bind, fd_u1 h, hb]
  show Except.ok (Instr.lload_n 2, pc + 1 - pc) = _
  rw [Nat.add_sub_cancel_left])
theorem fe_50 : fOk (fN 92 (.dup2)) := fN_ok (by
  intro c pc b h hb
  unfold decode Decoder.instr
  rw [fd_bind, fd_u1 h, hb]
  show Except.ok (Instr.dup2, pc + 1 - pc) = _
  rw [Nat.add_sub_cancel_left])
theorem fe_51 : fOk (fU2 183 .invokespecial) := fU2_ok (by
  intro c pc b a a2 h h1 h2 hb
  unfold decode Decoder.instr
  rw [fd_bind, fd_u1 h, hb]
  show ((Reader.runAt (Reader.u2 >>= fun x => pure (Instr.invokespecial x)) c (pc + 1)).bind _) = _
  rw [fd_bind, fd_u2 h1 h2]
  show Except.ok (Instr.invokespecial (a.toNat * 256 + a2.toNat), pc + 1 + 1 + 1 - pc) = _
  rw [show pc + 1 + 1 + 1 - pc = 3 by omega])
theorem fe_52 : fOk (fN 80 (.lastore)) := fN_ok (by
  intro c pc b h hb
  unfold decode Decoder.instr
  rw [fd_bind, fd_u1 h, hb]
  show Except.ok (Instr.lastore, pc + 1 - pc) = _
  rw [Nat.add_sub_cancel_left])
theorem fe_53 : fOk (fS2 163 (.if_icmp .gt)) := fS2_ok (by
  intro c pc b a a2 h h1 h2 hb
  unfold decode Decoder.instr
  rw [fd_bind, fd_u1 h, hb]
  show ((Reader.runAt (Reader.s2 >>= fun x => pure (Instr.if_icmp .gt x)) c (pc + 1)).bind _) = _
  rw [fd_bind, fd_s2 h1 h2]
  show Except.ok (Instr.if_icmp .gt (Reader.signed 16 (a.toNat * 256 + a2.toNat)), pc + 1 + 1 + 1 - pc) = _
  rw [show pc + 1 + 1 + 1 - pc = 3 by omega])
theorem fe_54 : fOk (fS2 156 (.ifCond .ge)) := fS2_ok (by
  intro c pc b a a2 h h1 h2 hb
  unfold decode Decoder.instr
  rw [fd_bind, fd_u1 h, hb]
  show ((Reader.runAt (Reader.s2 >>= fun x => pure (Instr.ifCond .ge x)) c (pc + 1)).bind _) = _
  rw [fd_bind, fd_s2 h1 h2]
  show Except.ok (Instr.ifCond .ge (Reader.signed 16 (a.toNat * 256 + a2.toNat)), pc + 1 + 1 + 1 - pc) = _
  rw [show pc + 1 + 1 + 1 - pc = 3 by omega])
theorem fe_55 : fOk (fN 136 (.l2i)) := fN_ok (by
  intro c pc b h hb
  unfold decode Decoder.instr
  rw [fd_bind, fd_u1 h, hb]
  show Except.ok (Instr.l2i, pc + 1 - pc) = _
  rw [Nat.add_sub_cancel_left])
theorem fe_56 : fOk (fS2 17 (.sipush)) := fS2_ok (by
  intro c pc b a a2 h h1 h2 hb
  unfold decode Decoder.instr
  rw [fd_bind, fd_u1 h, hb]
  show ((Reader.runAt (Reader.s2 >>= fun x => pure (Instr.sipush x)) c (pc + 1)).bind _) = _
  rw [fd_bind, fd_s2 h1 h2]
  show Except.ok (Instr.sipush (Reader.signed 16 (a.toNat * 256 + a2.toNat)), pc + 1 + 1 + 1 - pc) = _
  rw [show pc + 1 + 1 + 1 - pc = 3 by omega])
theorem fe_57 : fOk (fN 33 (.lload_n 3)) := fN_ok (by
  intro c pc b h hb
  unfold decode Decoder.instr
  rw [fd_bind, fd_u1 h, hb]
  show Except.ok (Instr.lload_n 3, pc + 1 - pc) = _
  rw [Nat.add_sub_cancel_left])
theorem fe_58 : fOk (fU2 178 .getstatic) := fU2_ok (by
  intro c pc b a a2 h h1 h2 hb
  unfold decode Decoder.instr
  rw [fd_bind, fd_u1 h, hb]
  show ((Reader.runAt (Reader.u2 >>= fun x => pure (Instr.getstatic x)) c (pc + 1)).bind _) = _
  rw [fd_bind, fd_u2 h1 h2]
  show Except.ok (Instr.getstatic (a.toNat * 256 + a2.toNat), pc + 1 + 1 + 1 - pc) = _
  rw [show pc + 1 + 1 + 1 - pc = 3 by omega])
theorem fe_59 : fOk (fS2 158 (.ifCond .le)) := fS2_ok (by
  intro c pc b a a2 h h1 h2 hb
  unfold decode Decoder.instr
  rw [fd_bind, fd_u1 h, hb]
  show ((Reader.runAt (Reader.s2 >>= fun x => pure (Instr.ifCond .le x)) c (pc + 1)).bind _) = _
  rw [fd_bind, fd_s2 h1 h2]
  show Except.ok (Instr.ifCond .le (Reader.signed 16 (a.toNat * 256 + a2.toNat)), pc + 1 + 1 + 1 - pc) = _
  rw [show pc + 1 + 1 + 1 - pc = 3 by omega])
theorem fe_60 : fOk (fN 84 (.bastore)) := fN_ok (by
  intro c pc b h hb
  unfold decode Decoder.instr
  rw [fd_bind, fd_u1 h, hb]
  show Except.ok (Instr.bastore, pc + 1 - pc) = _
  rw [Nat.add_sub_cancel_left])
theorem fe_61 : fOk (fN 130 (.ixor)) := fN_ok (by
  intro c pc b h hb
  unfold decode Decoder.instr
  rw [fd_bind, fd_u1 h, hb]
  show Except.ok (Instr.ixor, pc + 1 - pc) = _
  rw [Nat.add_sub_cancel_left])
theorem fe_62 : fOk (fN 127 (.land)) := fN_ok (by
  intro c pc b h hb
  unfold decode Decoder.instr
  rw [fd_bind, fd_u1 h, hb]
  show Except.ok (Instr.land, pc + 1 - pc) = _
  rw [Nat.add_sub_cancel_left])
theorem fe_63 : fOk (fN 173 (.lreturn)) := fN_ok (by
  intro c pc b h hb
  unfold decode Decoder.instr
  rw [fd_bind, fd_u1 h, hb]
  show Except.ok (Instr.lreturn, pc + 1 - pc) = _
  rw [Nat.add_sub_cancel_left])
theorem fe_64 : fOk (fU1 55 .lstore) := fU1_ok (by
  intro c pc b a h h1 hb
  unfold decode Decoder.instr
  rw [fd_bind, fd_u1 h, hb]
  show ((Reader.runAt (Reader.u1 >>= fun x => pure (Instr.lstore x)) c (pc + 1)).bind _) = _
  rw [fd_bind, fd_u1 h1]
  show Except.ok (Instr.lstore a.toNat, pc + 1 + 1 - pc) = _
  rw [show pc + 1 + 1 - pc = 2 by omega])
theorem fe_65 : fOk (fN 8 (.iconst 5)) := fN_ok (by
  intro c pc b h hb
  unfold decode Decoder.instr
  rw [fd_bind, fd_u1 h, hb]
  show Except.ok (Instr.iconst 5, pc + 1 - pc) = _
  rw [Nat.add_sub_cancel_left])
theorem fe_66 : fOk (fN 97 (.ladd)) := fN_ok (by
  intro c pc b h hb
  unfold decode Decoder.instr
  rw [fd_bind, fd_u1 h, hb]
  show Except.ok (Instr.ladd, pc + 1 - pc) = _
  rw [Nat.add_sub_cancel_left])
theorem fe_67 : fOk (fN 121 (.lshl)) := fN_ok (by
  intro c pc b h hb
  unfold decode Decoder.instr
  rw [fd_bind, fd_u1 h, hb]
  show Except.ok (Instr.lshl, pc + 1 - pc) = _
  rw [Nat.add_sub_cancel_left])
theorem fe_68 : fOk (fU2 187 .new) := fU2_ok (by
  intro c pc b a a2 h h1 h2 hb
  unfold decode Decoder.instr
  rw [fd_bind, fd_u1 h, hb]
  show ((Reader.runAt (Reader.u2 >>= fun x => pure (Instr.new x)) c (pc + 1)).bind _) = _
  rw [fd_bind, fd_u2 h1 h2]
  show Except.ok (Instr.new (a.toNat * 256 + a2.toNat), pc + 1 + 1 + 1 - pc) = _
  rw [show pc + 1 + 1 + 1 - pc = 3 by omega])
theorem fe_69 : fOk (fS2 164 (.if_icmp .le)) := fS2_ok (by
  intro c pc b a a2 h h1 h2 hb
  unfold decode Decoder.instr
  rw [fd_bind, fd_u1 h, hb]
  show ((Reader.runAt (Reader.s2 >>= fun x => pure (Instr.if_icmp .le x)) c (pc + 1)).bind _) = _
  rw [fd_bind, fd_s2 h1 h2]
  show Except.ok (Instr.if_icmp .le (Reader.signed 16 (a.toNat * 256 + a2.toNat)), pc + 1 + 1 + 1 - pc) = _
  rw [show pc + 1 + 1 + 1 - pc = 3 by omega])
theorem fe_70 : fOk (fN 51 (.baload)) := fN_ok (by
  intro c pc b h hb
  unfold decode Decoder.instr
  rw [fd_bind, fd_u1 h, hb]
  show Except.ok (Instr.baload, pc + 1 - pc) = _
  rw [Nat.add_sub_cancel_left])
theorem fe_71 : fOk (fN 116 (.ineg)) := fN_ok (by
  intro c pc b h hb
  unfold decode Decoder.instr
  rw [fd_bind, fd_u1 h, hb]
  show Except.ok (Instr.ineg, pc + 1 - pc) = _
  rw [Nat.add_sub_cancel_left])
theorem fe_72 : fOk (fN 45 (.aload_n 3)) := fN_ok (by
  intro c pc b h hb
  unfold decode Decoder.instr
  rw [fd_bind, fd_u1 h, hb]
  show Except.ok (Instr.aload_n 3, pc + 1 - pc) = _
  rw [Nat.add_sub_cancel_left])
theorem fe_73 : fOk (fN 190 (.arraylength)) := fN_ok (by
  intro c pc b h hb
  unfold decode Decoder.instr
  rw [fd_bind, fd_u1 h, hb]
  show Except.ok (Instr.arraylength, pc + 1 - pc) = _
  rw [Nat.add_sub_cancel_left])
theorem fe_74 : fOk (fN 76 (.astore_n 1)) := fN_ok (by
  intro c pc b h hb
  unfold decode Decoder.instr
  rw [fd_bind, fd_u1 h, hb]
  show Except.ok (Instr.astore_n 1, pc + 1 - pc) = _
  rw [Nat.add_sub_cancel_left])
theorem fe_75 : fOk (fN 77 (.astore_n 2)) := fN_ok (by
  intro c pc b h hb
  unfold decode Decoder.instr
  rw [fd_bind, fd_u1 h, hb]
  show Except.ok (Instr.astore_n 2, pc + 1 - pc) = _
  rw [Nat.add_sub_cancel_left])
theorem fe_76 : fOk (fN 145 (.i2b)) := fN_ok (by
  intro c pc b h hb
  unfold decode Decoder.instr
  rw [fd_bind, fd_u1 h, hb]
  show Except.ok (Instr.i2b, pc + 1 - pc) = _
  rw [Nat.add_sub_cancel_left])
theorem fe_77 : fOk (fN 147 (.i2s)) := fN_ok (by
  intro c pc b h hb
  unfold decode Decoder.instr
  rw [fd_bind, fd_u1 h, hb]
  show Except.ok (Instr.i2s, pc + 1 - pc) = _
  rw [Nat.add_sub_cancel_left])
theorem fe_78 : fOk (fN 7 (.iconst 4)) := fN_ok (by
  intro c pc b h hb
  unfold decode Decoder.instr
  rw [fd_bind, fd_u1 h, hb]
  show Except.ok (Instr.iconst 4, pc + 1 - pc) = _
  rw [Nat.add_sub_cancel_left])
theorem fe_79 : fOk (fN 122 (.ishr)) := fN_ok (by
  intro c pc b h hb
  unfold decode Decoder.instr
  rw [fd_bind, fd_u1 h, hb]
  show Except.ok (Instr.ishr, pc + 1 - pc) = _
  rw [Nat.add_sub_cancel_left])
theorem fe_80 : fOk (fN 59 (.istore_n 0)) := fN_ok (by
  intro c pc b h hb
  unfold decode Decoder.instr
  rw [fd_bind, fd_u1 h, hb]
  show Except.ok (Instr.istore_n 0, pc + 1 - pc) = _
  rw [Nat.add_sub_cancel_left])
theorem fe_81 : fOk (fN 124 (.iushr)) := fN_ok (by
  intro c pc b h hb
  unfold decode Decoder.instr
  rw [fd_bind, fd_u1 h, hb]
  show Except.ok (Instr.iushr, pc + 1 - pc) = _
  rw [Nat.add_sub_cancel_left])
theorem fe_82 : fOk (fN 30 (.lload_n 0)) := fN_ok (by
  intro c pc b h hb
  unfold decode Decoder.instr
  rw [fd_bind, fd_u1 h, hb]
  show Except.ok (Instr.lload_n 0, pc + 1 - pc) = _
  rw [Nat.add_sub_cancel_left])
theorem fe_83 : fOk (fN 31 (.lload_n 1)) := fN_ok (by
  intro c pc b h hb
  unfold decode Decoder.instr
  rw [fd_bind, fd_u1 h, hb]
  show Except.ok (Instr.lload_n 1, pc + 1 - pc) = _
  rw [Nat.add_sub_cancel_left])
theorem fe_84 : fOk (fN 105 (.lmul)) := fN_ok (by
  intro c pc b h hb
  unfold decode Decoder.instr
  rw [fd_bind, fd_u1 h, hb]
  show Except.ok (Instr.lmul, pc + 1 - pc) = _
  rw [Nat.add_sub_cancel_left])
theorem fe_85 : fOk (fN 129 (.lor)) := fN_ok (by
  intro c pc b h hb
  unfold decode Decoder.instr
  rw [fd_bind, fd_u1 h, hb]
  show Except.ok (Instr.lor, pc + 1 - pc) = _
  rw [Nat.add_sub_cancel_left])
theorem fe_86 : fOk (fN 113 (.lrem)) := fN_ok (by
  intro c pc b h hb
  unfold decode Decoder.instr
  rw [fd_bind, fd_u1 h, hb]
  show Except.ok (Instr.lrem, pc + 1 - pc) = _
  rw [Nat.add_sub_cancel_left])
theorem fe_87 : fOk (fN 123 (.lshr)) := fN_ok (by
  intro c pc b h hb
  unfold decode Decoder.instr
  rw [fd_bind, fd_u1 h, hb]
  show Except.ok (Instr.lshr, pc + 1 - pc) = _
  rw [Nat.add_sub_cancel_left])
theorem fe_88 : fOk (fN 64 (.lstore_n 1)) := fN_ok (by
  intro c pc b h hb
  unfold decode Decoder.instr
  rw [fd_bind, fd_u1 h, hb]
  show Except.ok (Instr.lstore_n 1, pc + 1 - pc) = _
  rw [Nat.add_sub_cancel_left])
theorem fe_89 : fOk (fN 65 (.lstore_n 2)) := fN_ok (by
  intro c pc b h hb
  unfold decode Decoder.instr
  rw [fd_bind, fd_u1 h, hb]
  show Except.ok (Instr.lstore_n 2, pc + 1 - pc) = _
  rw [Nat.add_sub_cancel_left])
theorem fe_90 : fOk (fN 66 (.lstore_n 3)) := fN_ok (by
  intro c pc b h hb
  unfold decode Decoder.instr
  rw [fd_bind, fd_u1 h, hb]
  show Except.ok (Instr.lstore_n 3, pc + 1 - pc) = _
  rw [Nat.add_sub_cancel_left])
theorem fe_91 : fOk (fN 101 (.lsub)) := fN_ok (by
  intro c pc b h hb
  unfold decode Decoder.instr
  rw [fd_bind, fd_u1 h, hb]
  show Except.ok (Instr.lsub, pc + 1 - pc) = _
  rw [Nat.add_sub_cancel_left])
theorem fe_92 : fOk (fN 131 (.lxor)) := fN_ok (by
  intro c pc b h hb
  unfold decode Decoder.instr
  rw [fd_bind, fd_u1 h, hb]
  show Except.ok (Instr.lxor, pc + 1 - pc) = _
  rw [Nat.add_sub_cancel_left])
theorem fe_93 : fOk (fN 88 (.pop2)) := fN_ok (by
  intro c pc b h hb
  unfold decode Decoder.instr
  rw [fd_bind, fd_u1 h, hb]
  show Except.ok (Instr.pop2, pc + 1 - pc) = _
  rw [Nat.add_sub_cancel_left])
theorem fe_94 : fOk (fN 53 (.saload)) := fN_ok (by
  intro c pc b h hb
  unfold decode Decoder.instr
  rw [fd_bind, fd_u1 h, hb]
  show Except.ok (Instr.saload, pc + 1 - pc) = _
  rw [Nat.add_sub_cancel_left])
theorem fe_95 : fOk (fN 86 (.sastore)) := fN_ok (by
  intro c pc b h hb
  unfold decode Decoder.instr
  rw [fd_bind, fd_u1 h, hb]
  show Except.ok (Instr.sastore, pc + 1 - pc) = _
  rw [Nat.add_sub_cancel_left])
theorem fe_96 : fOk (fU2 19 .ldc_w) := fU2_ok (by
  intro c pc b a a2 h h1 h2 hb
  unfold decode Decoder.instr
  rw [fd_bind, fd_u1 h, hb]
  show ((Reader.runAt (Reader.u2 >>= fun x => pure (Instr.ldc_w x)) c (pc + 1)).bind _) = _
  rw [fd_bind, fd_u2 h1 h2]
  show Except.ok (Instr.ldc_w (a.toNat * 256 + a2.toNat), pc + 1 + 1 + 1 - pc) = _
  rw [show pc + 1 + 1 + 1 - pc = 3 by omega])
theorem fe_97 : fOk (fS2 157 (.ifCond .gt)) := fS2_ok (by
  intro c pc b a a2 h h1 h2 hb
  unfold decode Decoder.instr
  rw [fd_bind, fd_u1 h, hb]
  show ((Reader.runAt (Reader.s2 >>= fun x => pure (Instr.ifCond .gt x)) c (pc + 1)).bind _) = _
  rw [fd_bind, fd_s2 h1 h2]
  show Except.ok (Instr.ifCond .gt (Reader.signed 16 (a.toNat * 256 + a2.toNat)), pc + 1 + 1 + 1 - pc) = _
  rw [show pc + 1 + 1 + 1 - pc = 3 by omega])
def FT : List FE := [fN 42 (.aload_n 0), fU2 180 .getfield, fN 27 (.iload_n 1), fN 46 (.iaload), fS1 16 .bipush, fU2 182 .invokevirtual, fN 172 (.ireturn), fN 29 (.iload_n 3), fU1 21 .iload, fN 28 (.iload_n 2), fN 4 (.iconst 1), fS2 167 (.goto), fN 3 (.iconst 0), fN 96 (.iadd), fU2 181 .putfield, fU2 184 .invokestatic, fS2 154 (.ifCond .ne), fU1 54 .istore, fS2 162 (.if_icmp .ge), fS2 153 (.ifCond .eq), fN 79 (.iastore), fS2 160 (.if_icmp .ne), fN 87 (.pop), fN 47 (.laload), fN 5 (.iconst 2), fN 26 (.iload_n 0), fN 62 (.istore_n 3), fN 61 (.istore_n 2), fN 2 (.iconst (-1)), fN 133 (.i2l), fN 43 (.aload_n 1), fS2 155 (.ifCond .lt), fN 177 (.return_), fN 128 (.ior), fN 44 (.aload_n 2), fN 126 (.iand), fU2 20 .ldc2_w, fN 148 (.lcmp), fN 9 (.lconst 0), fN 104 (.imul), fN 89 (.dup), fN 60 (.istore_n 1), fN 100 (.isub), fN 120 (.ishl), fS2 161 (.if_icmp .lt), fS2 159 (.if_icmp .eq), fU1 22 .lload, fN 6 (.iconst 3), fN 10 (.lconst 1), fN 32 (.lload_n 2), fN 92 (.dup2), fU2 183 .invokespecial, fN 80 (.lastore), fS2 163 (.if_icmp .gt), fS2 156 (.ifCond .ge), fN 136 (.l2i), fS2 17 (.sipush), fN 33 (.lload_n 3), fU2 178 .getstatic, fS2 158 (.ifCond .le), fN 84 (.bastore), fN 130 (.ixor), fN 127 (.land), fN 173 (.lreturn), fU1 55 .lstore, fN 8 (.iconst 5), fN 97 (.ladd), fN 121 (.lshl), fU2 187 .new, fS2 164 (.if_icmp .le), fN 51 (.baload), fN 116 (.ineg), fN 45 (.aload_n 3), fN 190 (.arraylength), fN 76 (.astore_n 1), fN 77 (.astore_n 2), fN 145 (.i2b), fN 147 (.i2s), fN 7 (.iconst 4), fN 122 (.ishr), fN 59 (.istore_n 0), fN 124 (.iushr), fN 30 (.lload_n 0), fN 31 (.lload_n 1), fN 105 (.lmul), fN 129 (.lor), fN 113 (.lrem), fN 123 (.lshr), fN 64 (.lstore_n 1), fN 65 (.lstore_n 2), fN 66 (.lstore_n 3), fN 101 (.lsub), fN 131 (.lxor), fN 88 (.pop2), fN 53 (.saload), fN 86 (.sastore), fU2 19 .ldc_w, fS2 157 (.ifCond .gt)]
theorem FT_ok : ∀ e ∈ FT, fOk e := List.forall_mem_cons.mpr ⟨fe_0, List.forall_mem_cons.mpr ⟨fe_1, List.forall_mem_cons.mpr ⟨fe_2, List.forall_mem_cons.mpr ⟨fe_3, List.forall_mem_cons.mpr ⟨fe_4, List.forall_mem_cons.mpr ⟨fe_5, List.forall_mem_cons.mpr ⟨fe_6, List.forall_mem_cons.mpr ⟨fe_7, List.forall_mem_cons.mpr ⟨fe_8, List.forall_mem_cons.mpr ⟨fe_9, List.forall_mem_cons.mpr ⟨fe_10, List.forall_mem_cons.mpr ⟨fe_11, List.forall_mem_cons.mpr ⟨fe_12, List.forall_mem_cons.mpr ⟨fe_13, List.forall_mem_cons.mpr ⟨fe_14, List.forall_mem_cons.mpr ⟨fe_15, List.forall_mem_cons.mpr ⟨fe_16, List.forall_mem_cons.mpr ⟨fe_17, List.forall_mem_cons.mpr ⟨fe_18, List.forall_mem_cons.mpr ⟨fe_19, List.forall_mem_cons.mpr ⟨fe_20, List.forall_mem_cons.mpr ⟨fe_21, List.forall_mem_cons.mpr ⟨fe_22, List.forall_mem_cons.mpr ⟨fe_23, List.forall_mem_cons.mpr ⟨fe_24, List.forall_mem_cons.mpr ⟨fe_25, List.forall_mem_cons.mpr ⟨fe_26, List.forall_mem_cons.mpr ⟨fe_27, List.forall_mem_cons.mpr ⟨fe_28, List.forall_mem_cons.mpr ⟨fe_29, List.forall_mem_cons.mpr ⟨fe_30, List.forall_mem_cons.mpr ⟨fe_31, List.forall_mem_cons.mpr ⟨fe_32, List.forall_mem_cons.mpr ⟨fe_33, List.forall_mem_cons.mpr ⟨fe_34, List.forall_mem_cons.mpr ⟨fe_35, List.forall_mem_cons.mpr ⟨fe_36, List.forall_mem_cons.mpr ⟨fe_37, List.forall_mem_cons.mpr ⟨fe_38, List.forall_mem_cons.mpr ⟨fe_39, List.forall_mem_cons.mpr ⟨fe_40, List.forall_mem_cons.mpr ⟨fe_41, List.forall_mem_cons.mpr ⟨fe_42, List.forall_mem_cons.mpr ⟨fe_43, List.forall_mem_cons.mpr ⟨fe_44, List.forall_mem_cons.mpr ⟨fe_45, List.forall_mem_cons.mpr ⟨fe_46, List.forall_mem_cons.mpr ⟨fe_47, List.forall_mem_cons.mpr ⟨fe_48, List.forall_mem_cons.mpr ⟨fe_49, List.forall_mem_cons.mpr ⟨fe_50, List.forall_mem_cons.mpr ⟨fe_51, List.forall_mem_cons.mpr ⟨fe_52, List.forall_mem_cons.mpr ⟨fe_53, List.forall_mem_cons.mpr ⟨fe_54, List.forall_mem_cons.mpr ⟨fe_55, List.forall_mem_cons.mpr ⟨fe_56, List.forall_mem_cons.mpr ⟨fe_57, List.forall_mem_cons.mpr ⟨fe_58, List.forall_mem_cons.mpr ⟨fe_59, List.forall_mem_cons.mpr ⟨fe_60, List.forall_mem_cons.mpr ⟨fe_61, List.forall_mem_cons.mpr ⟨fe_62, List.forall_mem_cons.mpr ⟨fe_63, List.forall_mem_cons.mpr ⟨fe_64, List.forall_mem_cons.mpr ⟨fe_65, List.forall_mem_cons.mpr ⟨fe_66, List.forall_mem_cons.mpr ⟨fe_67, List.forall_mem_cons.mpr ⟨fe_68, List.forall_mem_cons.mpr ⟨fe_69, List.forall_mem_cons.mpr ⟨fe_70, List.forall_mem_cons.mpr ⟨fe_71, List.forall_mem_cons.mpr ⟨fe_72, List.forall_mem_cons.mpr ⟨fe_73, List.forall_mem_cons.mpr ⟨fe_74, List.forall_mem_cons.mpr ⟨fe_75, List.forall_mem_cons.mpr ⟨fe_76, List.forall_mem_cons.mpr ⟨fe_77, List.forall_mem_cons.mpr ⟨fe_78, List.forall_mem_cons.mpr ⟨fe_79, List.forall_mem_cons.mpr ⟨fe_80, List.forall_mem_cons.mpr ⟨fe_81, List.forall_mem_cons.mpr ⟨fe_82, List.forall_mem_cons.mpr ⟨fe_83, List.forall_mem_cons.mpr ⟨fe_84, List.forall_mem_cons.mpr ⟨fe_85, List.forall_mem_cons.mpr ⟨fe_86, List.forall_mem_cons.mpr ⟨fe_87, List.forall_mem_cons.mpr ⟨fe_88, List.forall_mem_cons.mpr ⟨fe_89, List.forall_mem_cons.mpr ⟨fe_90, List.forall_mem_cons.mpr ⟨fe_91, List.forall_mem_cons.mpr ⟨fe_92, List.forall_mem_cons.mpr ⟨fe_93, List.forall_mem_cons.mpr ⟨fe_94, List.forall_mem_cons.mpr ⟨fe_95, List.forall_mem_cons.mpr ⟨fe_96, List.forall_mem_cons.mpr ⟨fe_97, (fun _ h => absurd h List.not_mem_nil)⟩⟩⟩⟩⟩⟩⟩⟩⟩⟩⟩⟩⟩⟩⟩⟩⟩⟩⟩⟩⟩⟩⟩⟩⟩⟩⟩⟩⟩⟩⟩⟩⟩⟩⟩⟩⟩⟩⟩⟩⟩⟩⟩⟩⟩⟩⟩⟩⟩⟩⟩⟩⟩⟩⟩⟩⟩⟩⟩⟩⟩⟩⟩⟩⟩⟩⟩⟩⟩⟩⟩⟩⟩⟩⟩⟩⟩⟩⟩⟩⟩⟩⟩⟩⟩⟩⟩⟩⟩⟩⟩⟩⟩⟩⟩⟩⟩⟩
def fdec (l : List UInt8) : Option (Instr × Nat) := match l with
  | [] => none
  | b :: _ => (FT.find? (fun e => Nat.beq e.1 b.toNat)).bind (fun e => e.2 l)
theorem fdec_ok {c : ByteArray} {pc : Nat} {l : List UInt8} {r : Instr × Nat} (hl : ∀ j, l[j]? = c.data.toList[pc + j]?) (h : fdec l = some r) : decode c pc = .ok r := by
  match l, hl, h with
  | b :: l, hl, h =>
    obtain ⟨e, he, h2⟩ := Option.bind_eq_some_iff.mp h
    exact FT_ok e (List.mem_of_find?_eq_some he) c pc b l r hl (Nat.eq_of_beq_eq_true (List.find?_some (p := fun e : FE => Nat.beq e.1 b.toNat) he)).symm h2
def fchk (pc : Nat) (l : List UInt8) (rs : List (Nat × Instr × Nat)) : Bool := match rs with
  | [] => true
  | r :: rs => Nat.beq r.1 pc && decide (fdec l = some r.2) && fchk (pc + r.2.2) (l.drop r.2.2) rs
theorem fchk_ok {c : ByteArray} : ∀ (rs : List (Nat × Instr × Nat)) (pc : Nat) (l : List UInt8), (∀ j, l[j]? = c.data.toList[pc + j]?) → fchk pc l rs = true → ∀ r ∈ rs, decode c r.1 = .ok r.2
  | [], _, _, _, _, _, hr => absurd hr List.not_mem_nil
  | r :: rs, pc, l, hl, h, q, hq => by
    have h : (Nat.beq r.1 pc && decide (fdec l = some r.2) && fchk (pc + r.2.2) (l.drop r.2.2) rs) = true := h
    rw [Bool.and_eq_true, Bool.and_eq_true] at h
    obtain ⟨⟨h1, h2⟩, h3⟩ := h
    have e1 := Nat.eq_of_beq_eq_true h1
    rcases List.mem_cons.mp hq with e | e
    · rw [e, e1]
      exact fdec_ok hl (of_decide_eq_true h2)
    · refine fchk_ok rs _ _ (fun j => ?_) h3 q e
      rw [List.getElem?_drop, hl, Nat.add_assoc]
theorem fchk_d {c : ByteArray} {rs : List (Nat × Instr × Nat)} {pc : Nat} (h : fchk pc (c.data.toList.drop pc) rs = true) : ∀ r ∈ rs, decode c r.1 = .ok r.2 := fchk_ok rs pc _ (fun j => by rw [List.getElem?_drop]) h
theorem fE {c : ByteArray} {rs : List (Nat × Instr × Nat)} {pc : Nat} (h : fchk pc (c.data.toList.drop pc) rs = true) (i : Nat) {a : Nat} {b : Instr} {n : Nat} (hm : rs[i]? = some (a, b, n)) : decode c a = .ok (b, n) := fchk_d h (a, b, n) (List.mem_of_getElem? hm)
def glk (bs : List (List Cond)) (q : Nat × Nat) : Option Cond := (bs[q.1]?).bind (fun b => b[q.2]?)
theorem gi_q {big : List Cond} {bs : List (List Cond)} (hbs : ∀ b ∈ bs, GoodIn big b) (ws : List Cond) (ps : List (Nat × Nat)) (hp : ws = ps.filterMap (glk bs)) : GoodIn big ws := by
  intro w hw
  rw [hp] at hw
  obtain ⟨q, -, hq⟩ := List.mem_filterMap.mp hw
  obtain ⟨b, hb, hi⟩ := Option.bind_eq_some_iff.mp (show (bs[q.1]?).bind (fun b => b[q.2]?) = some w from hq)
  exact hbs b (List.mem_of_getElem? hb) w (List.mem_of_getElem? hi)
theorem goodIn_k {big : List Cond} {c : Cond} {a : List Cond} (hc : GoodIn big [c]) (ha : GoodIn big a) : GoodIn big (c :: a) := fun w h => (List.mem_cons.mp h).elim (fun e => hc w (List.mem_singleton.mpr e)) (ha w)
