def mk (s v : Int) : Int64 := ((I s).toInt64 <<< ((32 : Int32).toInt64 &&& 63)) ||| ((I v).toInt64 &&& 4294967295)
theorem so_bv (t : Int64) : ((t >>> ((32 : Int32).toInt64 &&& 63)).toInt32).toBitVec = (t.toBitVec.sshiftRight 32).setWidth 32 := by
  show (t >>> ((32 : Int32).toInt64 &&& 63)).toBitVec.signExtend 32 = _
  rw [Int64.toBitVec_shiftRight]
  have e : (((32 : Int32).toInt64 &&& 63).toBitVec.smod 64) = 32#64 := by decide
  rw [e]
  rw [BitVec.signExtend_eq_setWidth_of_le _ (by decide)]
  rfl
theorem sx (x : BitVec 32) : BitVec.signExtend 32 x = x := by rw [BitVec.signExtend_eq_setWidth_of_le _ (by decide)]; simp
theorem mk_bv (s v : Int) : (mk s v).toBitVec = (((I s).toBitVec.signExtend 64) <<< 32) ||| (((I v).toBitVec.signExtend 64) &&& 4294967295#64) := by
  unfold mk
  have e : (((32 : Int32).toInt64 &&& 63).toBitVec.smod 64) = 32#64 := by decide
  rw [Int64.toBitVec_or, Int64.toBitVec_shiftLeft, e, Int64.toBitVec_and]
  rfl
theorem so_mk {s v : Int} (h1 : -2147483648 ≤ s) (h2 : s < 2147483648) : so (mk s v) = s := by
  have e : ((mk s v) >>> ((32 : Int32).toInt64 &&& 63)).toInt32 = I s := by
    apply Int32.toBitVec_inj.mp
    rw [so_bv, mk_bv]
    ext i hi
    rw [BitVec.getElem_setWidth, BitVec.getLsbD_sshiftRight]
    have a1 : decide (64 ≤ i) = false := decide_eq_false (by omega)
    have a2 : 32 + i < 64 := by omega
    rw [a1, if_pos a2, BitVec.getLsbD_or, BitVec.getLsbD_shiftLeft, BitVec.getLsbD_and, BitVec.getLsbD_signExtend]
    have a3 : (4294967295#64).getLsbD (32 + i) = false := by
      have : ∀ j, j < 32 → (4294967295#64).getLsbD (32 + j) = false := by decide
      exact this i hi
    rw [a3]
    have a4 : decide (32 + i < 32) = false := decide_eq_false (by omega)
    have a5 : decide (32 + i < 64) = true := decide_eq_true a2
    have a6 : 32 + i - 32 = i := by omega
    have a7 : i < 32 := hi
    rw [a4, a5, a6]
    simp [a7, show i < 64 by omega]
  unfold so
  rw [e, I_ti h1 h2]
theorem va_mk {s v : Int} (h1 : -2147483648 ≤ v) (h2 : v < 2147483648) : va (mk s v) = v := by
  have e : (mk s v).toInt32 = I v := by
    apply Int32.toBitVec_inj.mp
    show (mk s v).toBitVec.signExtend 32 = _
    rw [BitVec.signExtend_eq_setWidth_of_le _ (by decide), mk_bv]
    ext i hi
    rw [BitVec.getElem_setWidth, BitVec.getLsbD_or, BitVec.getLsbD_shiftLeft, BitVec.getLsbD_and, BitVec.getLsbD_signExtend]
    have a3 : (4294967295#64).getLsbD i = true := by
      have : ∀ j, j < 32 → (4294967295#64).getLsbD j = true := by decide
      exact this i hi
    rw [a3]
    simp [hi, show i < 64 by omega, BitVec.getElem_signExtend]
  unfold va
  rw [e, I_ti h1 h2]
theorem so_r (t : Int64) : -2147483648 ≤ so t ∧ so t < 2147483648 := ti_rng _
theorem va_r (t : Int64) : -2147483648 ≤ va t ∧ va t < 2147483648 := ti_rng _
theorem sortOf_e {N : Nat} {u : MS} {t : Int64} : fm_M_sortOf N u t = some (u, I (so t)) := by
  show some (u, (t >>> ((32 : Int32).toInt64 &&& 63)).toInt32) = _
  rw [I_of ((t >>> ((32 : Int32).toInt64 &&& 63)).toInt32)]; rfl
theorem valueOf_e {N : Nat} {u : MS} {t : Int64} : fm_M_valueOf N u t = some (u, I (va t)) := by
  show some (u, t.toInt32) = _
  rw [I_of t.toInt32]; rfl
theorem term_e {N : Nat} {u : MS} {s v : Int} : fm_M_term N u (I s) (I v) = some (u, mk s v) := rfl
theorem bnd_so {α β : Type} {u : MS} {r : α} {f : MS → α → Option β} : bnd (some (u, r)) f = f u r := rfl
theorem br_tq {α : Type} {x y : α} : br true x y = x := rfl
theorem br_fq {α : Type} {x y : α} : br false x y = y := rfl
theorem ck_t {α : Type} {x : Option α} : ck true x = x := rfl
theorem lt_e {α β : Type} {x : α} {f : α → Option β} : lt x f = f x := rfl
theorem inHeap_e {N : Nat} {u : MS} {t : Int64} : (isH t → fm_M_inHeap N u t = some (u, I 1)) ∧ (¬ isH t → fm_M_inHeap N u t = some (u, I 0)) := by
  have hr := so_r t
  have key : fm_M_inHeap N u t = br (decide (so t = 3)) (some (u, 1)) (br (decide (so t = 5)) (some (u, 1)) (br (decide (so t = 7)) (some (u, 1)) (some (u, 0)))) := by
    unfold fm_M_inHeap fb_M_inHeap_0
    rw [sortOf_e, bnd_so]
    rw [show (decide (I (so t) = 3)) = decide (so t = 3) from decide_eq_decide.mpr (I_eq (y := 3) hr.1 hr.2 (by decide) (by decide)), show (decide (I (so t) = 5)) = decide (so t = 5) from decide_eq_decide.mpr (I_eq (y := 5) hr.1 hr.2 (by decide) (by decide)), show (decide (I (so t) = 7)) = decide (so t = 7) from decide_eq_decide.mpr (I_eq (y := 7) hr.1 hr.2 (by decide) (by decide))]
    rfl
  constructor
  · intro h
    rw [key]
    rcases h with e | e | e <;> rw [e] <;> rfl
  · intro h
    unfold isH at h
    rw [key, decide_eq_false (fun e => h (Or.inl e)), decide_eq_false (fun e => h (Or.inr (Or.inl e))), decide_eq_false (fun e => h (Or.inr (Or.inr e)))]
    rfl
def hp (u : MS) (p : Nat) : Nat → Int64 := fun i => u.2.2.2 88 (500 * p + i)
theorem cell_e {N : Nat} {u : MS} {p k : Nat} (hp1 : p < 25) (hk : k < 500) : fm_M_cell N u (I p) (I k) = some (u, hp u p k) := by
  show ck (inb (I p * 500 + I k) 12500) (some (u, u.2.2.2 88 (I p * 500 + I k).toNatClampNeg)) = _
  have e : I p * 500 + I k = I (p * 500 + k) := by rw [I_lit (n := 500), I_mul, I_add]
  rw [e, (I_inb (n := 12500) (by omega) (by omega)).mpr ⟨by omega, by omega⟩, I_tn (by omega) (by omega), ck_t]
  unfold hp
  rw [show ((p : Int) * 500 + k).toNat = 500 * p + k from by omega]
theorem partsFrom_e {N : Nat} {u : MS} {t : Int64} (h : isH t) : fm_M_partsFrom N u t = some (u, I (prt t)) := by
  have hr := so_r t
  unfold fm_M_partsFrom fb_M_partsFrom_0
  rw [sortOf_e, bnd_so]
  rw [show (decide (I (so t) = 7)) = decide (so t = 7) from decide_eq_decide.mpr (I_eq (y := 7) hr.1 hr.2 (by decide) (by decide)), show (decide (I (so t) = 5)) = decide (so t = 5) from decide_eq_decide.mpr (I_eq (y := 5) hr.1 hr.2 (by decide) (by decide))]
  unfold prt
  rcases h with e | e | e <;> rw [e] <;> rfl
theorem sizeOf_e {N : Nat} {u : MS} {t : Int64} {p n : Nat} {ow kd : Nat → Nat} {Fv : Int64 → Int64 → Prop} (hp1 : p < 25) (hn : n ≤ 500) (h : isH t) (b : BK (hp u p) n ow kd Fv t) : fm_M_sizeOf N u (I p) t = some (u, I (blk (hp u p) t)) := by
  have hr := so_r t
  obtain ⟨b1, b2, b3, b4, -⟩ := b
  unfold fm_M_sizeOf fb_M_sizeOf_0
  rw [sortOf_e, bnd_so, valueOf_e, bnd_so]
  rw [show (decide (I (so t) = 7)) = decide (so t = 7) from decide_eq_decide.mpr (I_eq (y := 7) hr.1 hr.2 (by decide) (by decide)), show (decide (I (so t) = 5)) = decide (so t = 5) from decide_eq_decide.mpr (I_eq (y := 5) hr.1 hr.2 (by decide) (by decide)), show (decide (I (so t) = 3)) = decide (so t = 3) from decide_eq_decide.mpr (I_eq (y := 3) hr.1 hr.2 (by decide) (by decide))]
  have ev : va t = (vn t : Int) := by unfold vn; omega
  unfold blk at b4 ⊢
  rcases h with e | e | e
  · rw [e] at b4 ⊢
    simp at b4
    show bnd (fm_M_cell N u (I p) (I (va t) + 1)) (fun u3 r3 => some (u3, 2 + r3.toInt32)) = _
    rw [ev, show I (vn t : Int) + 1 = I ((vn t + 1 : Nat) : Int) from by rw [I_lit (n := 1), I_add]; rfl, cell_e hp1 (by omega), bnd_so]
    have := (b3 e).1
    show some (u, 2 + (hp u p (vn t + 1)).toInt32) = some (u, I _)
    rw [I_of (hp u p (vn t + 1)).toInt32, I_lit (n := 2), I_add]
    congr 3
    show (2 : Int) + va (hp u p (vn t + 1)) = ((2 + vn (hp u p (vn t + 1)) : Nat) : Int)
    unfold vn at *
    omega
  · rw [e] at b4 ⊢
    simp at b4
    show bnd (fm_M_cell N u (I p) (I (va t))) (fun u3 r3 => some (u3, 1 + r3.toInt32)) = _
    rw [ev, cell_e hp1 (by omega), bnd_so]
    have := (b2 e).1
    show some (u, 1 + (hp u p (vn t)).toInt32) = some (u, I _)
    rw [I_of (hp u p (vn t)).toInt32, I_lit (n := 1), I_add]
    congr 3
    show (1 : Int) + va (hp u p (vn t)) = ((1 + vn (hp u p (vn t)) : Nat) : Int)
    unfold vn at *
    omega
  · rw [e] at b4 ⊢; rfl
