set_option maxRecDepth 100000
theorem I_msb {k : Int} (h1 : 0 ≤ k) (h2 : k < 2147483648) : (I k).toBitVec.msb = false := by
  rw [BitVec.msb_eq_false_iff_two_mul_lt]
  have : (I k).toBitVec.toInt = k := I_ti (by omega) h2
  have hb : (I k).toBitVec.toNat = k.toNat := by
    rw [BitVec.toInt_eq_toNat_bmod] at this
    have hl := (I k).toBitVec.isLt
    rw [Int.bmod_def] at this
    split at this <;> omega
  rw [hb]; omega
theorem sx64 {k : Int} (h1 : 0 ≤ k) (h2 : k < 2147483648) : (I k).toInt64.toBitVec = (I k).toBitVec.setWidth 64 := by
  show (I k).toBitVec.signExtend 64 = _
  exact BitVec.signExtend_eq_setWidth_of_msb_false (I_msb h1 h2)
theorem sh32 {y : Int64} : (y <<< ((32 : Int32).toInt64 &&& 63)).toBitVec = y.toBitVec <<< 32 := by
  have e : (((32 : Int32).toInt64 &&& 63).toBitVec.smod 64) = 32#64 := by decide
  rw [Int64.toBitVec_shiftLeft, e]
  rfl
theorem so_or {y : Int64} {k : Int} (h1 : 0 ≤ k) (h2 : k < 2147483648) : so ((y <<< ((32 : Int32).toInt64 &&& 63)) ||| (I k).toInt64) = y.toInt32.toInt := by
  unfold so
  congr 1
  apply Int32.toBitVec_inj.mp
  rw [so_bv, Int64.toBitVec_or, sh32, sx64 h1 h2]
  show _ = y.toBitVec.signExtend 32
  rw [BitVec.signExtend_eq_setWidth_of_le _ (by decide)]
  ext i hi
  rw [BitVec.getElem_setWidth, BitVec.getLsbD_sshiftRight, BitVec.getElem_setWidth]
  have a1 : decide (64 ≤ i) = false := decide_eq_false (by omega)
  have a2 : 32 + i < 64 := by omega
  rw [a1, if_pos a2, BitVec.getLsbD_or, BitVec.getLsbD_shiftLeft, BitVec.getLsbD_setWidth]
  have a4 : decide (32 + i < 32) = false := decide_eq_false (by omega)
  have a5 : decide (32 + i < 64) = true := decide_eq_true a2
  have a6 : 32 + i - 32 = i := by omega
  have a7 : (I k).toBitVec.getLsbD (32 + i) = false := BitVec.getLsbD_of_ge _ _ (by omega)
  rw [a4, a5, a6, a7]
  simp
theorem va_or {y : Int64} {k : Int} (h1 : 0 ≤ k) (h2 : k < 2147483648) : va ((y <<< ((32 : Int32).toInt64 &&& 63)) ||| (I k).toInt64) = k := by
  have e : ((y <<< ((32 : Int32).toInt64 &&& 63)) ||| (I k).toInt64).toInt32 = I k := by
    apply Int32.toBitVec_inj.mp
    show ((y <<< ((32 : Int32).toInt64 &&& 63)) ||| (I k).toInt64).toBitVec.signExtend 32 = _
    rw [BitVec.signExtend_eq_setWidth_of_le _ (by decide), Int64.toBitVec_or, sh32, sx64 h1 h2]
    ext i hi
    rw [BitVec.getElem_setWidth, BitVec.getLsbD_or, BitVec.getLsbD_shiftLeft, BitVec.getLsbD_setWidth]
    have a4 : decide (i < 32) = true := decide_eq_true hi
    have a5 : decide (i < 64) = true := decide_eq_true (by omega)
    rw [a4, a5]
    simp
    exact BitVec.getLsbD_eq_getElem hi
  unfold va
  rw [e, I_ti (by omega) h2]
theorem so_up {t : Int64} {k : Int} (h1 : 0 ≤ k) (h2 : k < 2147483648) : so (((t >>> ((32 : Int32).toInt64 &&& 63)) <<< ((32 : Int32).toInt64 &&& 63)) ||| (I k).toInt64) = so t := so_or h1 h2
theorem so_tg {s k : Int} (h1 : 0 ≤ k) (h2 : k < 2147483648) (h3 : RG s) : so (((I s).toInt64 <<< ((32 : Int32).toInt64 &&& 63)) ||| (I k).toInt64) = s := by
  rw [so_or h1 h2, Int32.toInt32_toInt64, I_ti h3.1 h3.2]
theorem moved_e {k : Int} : (38654705664 : Int64) ||| (I k).toInt64 = ((I 9).toInt64 <<< ((32 : Int32).toInt64 &&& 63)) ||| (I k).toInt64 := by
  congr 1
