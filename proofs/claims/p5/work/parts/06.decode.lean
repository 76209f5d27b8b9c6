/-! an instruction out of its bytes alone, for long methods -/
def bt (c : ByteArray) (k : Nat) (x : UInt8) : Prop := c.data[k]? = some x
theorem u1_run {c : ByteArray} {k : Nat} {x : UInt8} (h : bt c k x) : (Reader.u1 : Decoder Nat).runAt c k = .ok (x.toNat, k + 1) := by
  obtain ⟨h1, h2⟩ := Array.getElem?_eq_some_iff.mp h
  have h3 : k < c.size := h1
  have h4 : c[k] = x := h2
  unfold Reader.u1 Reader.runAt
  show (dite (k < c.size) _ _ : Decoder Nat) c k = _
  rw [dif_pos h3]
  show Except.ok (c[k].toNat, k + 1) = _
  rw [h4]
theorem rn_bind {α β : Type} {r : Decoder α} {f : α → Decoder β} {c : ByteArray} {k j : Nat} {x : α} (h : r.runAt c k = .ok (x, j)) : (r >>= f).runAt c k = (f x).runAt c j := by
  show Except.bind (r.runAt c k) (fun q => (f q.1).runAt c q.2) = _
  rw [h]
  rfl
theorem rn_map {α β : Type} {r : Decoder α} {f : α → β} {c : ByteArray} {k j : Nat} {x : α} (h : r.runAt c k = .ok (x, j)) : (f <$> r).runAt c k = .ok (f x, j) := by
  show Except.bind (r.runAt c k) (fun q => Except.ok (f q.1, q.2)) = _
  rw [h]
  rfl
theorem dc_of {c : ByteArray} {pc j : Nat} {i : Instr} (h : (Decoder.instr pc).runAt c pc = .ok (i, j)) : decode c pc = .ok (i, j - pc) := by
  show Except.bind ((Decoder.instr pc).runAt c pc) (fun q => Except.ok (q.1, q.2 - pc)) = _
  rw [h]
  rfl
theorem dc_dup {c : ByteArray} {pc : Nat} (h : bt c pc 0x59) : decode c pc = .ok (.dup, 1) := by
  have h2 : (Decoder.instr pc).runAt c pc = .ok (Instr.dup, pc + 1) := rn_bind (u1_run h)
  rw [dc_of h2, Nat.add_sub_cancel_left]
theorem dc_bipush {c : ByteArray} {pc : Nat} {x : UInt8} {v : Int} (h : bt c pc 0x10) (h1 : bt c (pc + 1) x) (hv : Reader.signed 8 x.toNat = v) : decode c pc = .ok (.bipush v, 2) := by
  have h3 : (Reader.s1 : Decoder Int).runAt c (pc + 1) = .ok (v, pc + 1 + 1) := by
    rw [← hv]
    exact rn_map (u1_run h1)
  have h2 : (Decoder.instr pc).runAt c pc = .ok (Instr.bipush v, pc + 2) := (rn_bind (u1_run h)).trans (rn_bind h3)
  rw [dc_of h2, Nat.add_sub_cancel_left]
theorem rn_u2 {c : ByteArray} {k : Nat} {x y : UInt8} (h : bt c k x) (h1 : bt c (k + 1) y) : (Reader.u2 : Decoder Nat).runAt c k = .ok (x.toNat * 256 + y.toNat, k + 2) :=
  (rn_bind (u1_run h)).trans (rn_bind (u1_run h1))
theorem dc_aload0 {c : ByteArray} {pc : Nat} (h : bt c pc 0x2a) : decode c pc = .ok (.aload_n 0, 1) := by
  have h2 : (Decoder.instr pc).runAt c pc = .ok (Instr.aload_n 0, pc + 1) := rn_bind (u1_run h)
  rw [dc_of h2, Nat.add_sub_cancel_left]
theorem dc_bastore {c : ByteArray} {pc : Nat} (h : bt c pc 0x54) : decode c pc = .ok (.bastore, 1) := by
  have h2 : (Decoder.instr pc).runAt c pc = .ok (Instr.bastore, pc + 1) := rn_bind (u1_run h)
  rw [dc_of h2, Nat.add_sub_cancel_left]
theorem dc_return {c : ByteArray} {pc : Nat} (h : bt c pc 0xb1) : decode c pc = .ok (.return_, 1) := by
  have h2 : (Decoder.instr pc).runAt c pc = .ok (Instr.return_, pc + 1) := rn_bind (u1_run h)
  rw [dc_of h2, Nat.add_sub_cancel_left]
theorem dc_iconst_m1 {c : ByteArray} {pc : Nat} (h : bt c pc 0x02) : decode c pc = .ok (.iconst (-1), 1) := by
  have h2 : (Decoder.instr pc).runAt c pc = .ok (Instr.iconst (-1), pc + 1) := rn_bind (u1_run h)
  rw [dc_of h2, Nat.add_sub_cancel_left]
theorem dc_iconst_0 {c : ByteArray} {pc : Nat} (h : bt c pc 0x03) : decode c pc = .ok (.iconst 0, 1) := by
  have h2 : (Decoder.instr pc).runAt c pc = .ok (Instr.iconst 0, pc + 1) := rn_bind (u1_run h)
  rw [dc_of h2, Nat.add_sub_cancel_left]
theorem dc_iconst_1 {c : ByteArray} {pc : Nat} (h : bt c pc 0x04) : decode c pc = .ok (.iconst 1, 1) := by
  have h2 : (Decoder.instr pc).runAt c pc = .ok (Instr.iconst 1, pc + 1) := rn_bind (u1_run h)
  rw [dc_of h2, Nat.add_sub_cancel_left]
theorem dc_iconst_2 {c : ByteArray} {pc : Nat} (h : bt c pc 0x05) : decode c pc = .ok (.iconst 2, 1) := by
  have h2 : (Decoder.instr pc).runAt c pc = .ok (Instr.iconst 2, pc + 1) := rn_bind (u1_run h)
  rw [dc_of h2, Nat.add_sub_cancel_left]
theorem dc_iconst_3 {c : ByteArray} {pc : Nat} (h : bt c pc 0x06) : decode c pc = .ok (.iconst 3, 1) := by
  have h2 : (Decoder.instr pc).runAt c pc = .ok (Instr.iconst 3, pc + 1) := rn_bind (u1_run h)
  rw [dc_of h2, Nat.add_sub_cancel_left]
theorem dc_iconst_4 {c : ByteArray} {pc : Nat} (h : bt c pc 0x07) : decode c pc = .ok (.iconst 4, 1) := by
  have h2 : (Decoder.instr pc).runAt c pc = .ok (Instr.iconst 4, pc + 1) := rn_bind (u1_run h)
  rw [dc_of h2, Nat.add_sub_cancel_left]
theorem dc_iconst_5 {c : ByteArray} {pc : Nat} (h : bt c pc 0x08) : decode c pc = .ok (.iconst 5, 1) := by
  have h2 : (Decoder.instr pc).runAt c pc = .ok (Instr.iconst 5, pc + 1) := rn_bind (u1_run h)
  rw [dc_of h2, Nat.add_sub_cancel_left]
theorem dc_ldc {c : ByteArray} {pc : Nat} {x : UInt8} {v : Nat} (h : bt c pc 0x12) (h1 : bt c (pc + 1) x) (hv : x.toNat = v) : decode c pc = .ok (.ldc v, 2) := by
  have h2 : (Decoder.instr pc).runAt c pc = .ok (Instr.ldc v, pc + 2) := by
    rw [← hv]
    exact (rn_bind (u1_run h)).trans (rn_bind (u1_run h1))
  rw [dc_of h2, Nat.add_sub_cancel_left]
theorem dc_sipush {c : ByteArray} {pc : Nat} {x y : UInt8} {v : Int} (h : bt c pc 0x11) (h1 : bt c (pc + 1) x) (h2 : bt c (pc + 2) y) (hv : Reader.signed 16 (x.toNat * 256 + y.toNat) = v) : decode c pc = .ok (.sipush v, 3) := by
  have h3 : (Reader.s2 : Decoder Int).runAt c (pc + 1) = .ok (v, pc + 1 + 2) := by
    rw [← hv]
    exact rn_map (rn_u2 h1 h2)
  have h4 : (Decoder.instr pc).runAt c pc = .ok (Instr.sipush v, pc + 3) := (rn_bind (u1_run h)).trans (rn_bind h3)
  rw [dc_of h4, Nat.add_sub_cancel_left]
theorem dc_putfield {c : ByteArray} {pc : Nat} {x y : UInt8} {v : Nat} (h : bt c pc 0xb5) (h1 : bt c (pc + 1) x) (h2 : bt c (pc + 2) y) (hv : x.toNat * 256 + y.toNat = v) : decode c pc = .ok (.putfield v, 3) := by
  have h4 : (Decoder.instr pc).runAt c pc = .ok (Instr.putfield v, pc + 3) := by
    rw [← hv]
    exact (rn_bind (u1_run h)).trans (rn_bind (rn_u2 h1 h2))
  rw [dc_of h4, Nat.add_sub_cancel_left]
theorem dc_invokestatic {c : ByteArray} {pc : Nat} {x y : UInt8} {v : Nat} (h : bt c pc 0xb8) (h1 : bt c (pc + 1) x) (h2 : bt c (pc + 2) y) (hv : x.toNat * 256 + y.toNat = v) : decode c pc = .ok (.invokestatic v, 3) := by
  have h4 : (Decoder.instr pc).runAt c pc = .ok (Instr.invokestatic v, pc + 3) := by
    rw [← hv]
    exact (rn_bind (u1_run h)).trans (rn_bind (rn_u2 h1 h2))
  rw [dc_of h4, Nat.add_sub_cancel_left]
theorem dc_invokespecial {c : ByteArray} {pc : Nat} {x y : UInt8} {v : Nat} (h : bt c pc 0xb7) (h1 : bt c (pc + 1) x) (h2 : bt c (pc + 2) y) (hv : x.toNat * 256 + y.toNat = v) : decode c pc = .ok (.invokespecial v, 3) := by
  have h4 : (Decoder.instr pc).runAt c pc = .ok (Instr.invokespecial v, pc + 3) := by
    rw [← hv]
    exact (rn_bind (u1_run h)).trans (rn_bind (rn_u2 h1 h2))
  rw [dc_of h4, Nat.add_sub_cancel_left]
theorem dc_newarray {c : ByteArray} {pc : Nat} {x : UInt8} {t : ArrayType} (h : bt c pc 0xbc) (h1 : bt c (pc + 1) x) (ht : ∀ k, (match x.toNat with | 4 => Pure.pure (Instr.newarray .boolean) | 5 => Pure.pure (Instr.newarray .char) | 6 => Pure.pure (Instr.newarray .float) | 7 => Pure.pure (Instr.newarray .double) | 8 => Pure.pure (Instr.newarray .byte) | 9 => Pure.pure (Instr.newarray .short) | 10 => Pure.pure (Instr.newarray .int) | 11 => Pure.pure (Instr.newarray .long) | _ => throw (DecodeError.badOperand pc "newarray: atype") : Decoder Instr).runAt c k = .ok (Instr.newarray t, k)) : decode c pc = .ok (.newarray t, 2) := by
  have h2 : (Decoder.instr pc).runAt c pc = .ok (Instr.newarray t, pc + 2) := (rn_bind (u1_run h)).trans ((rn_bind (u1_run h1)).trans (ht _))
  rw [dc_of h2, Nat.add_sub_cancel_left]
