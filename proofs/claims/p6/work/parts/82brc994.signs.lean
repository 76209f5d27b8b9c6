set_option maxRecDepth 100000
def isDg (c : Int32) : Bool := !decide (c < 48) && !decide (57 < c)
def isSm (c : Int32) : Bool := !decide (c < 97) && !decide (122 < c)
def isGr (c : Int32) : Bool := (!decide (c < 65) && decide (c ≤ 90)) || decide (c = 95)
def isW (c : Int32) : Bool := isDg c || isSm c || isGr c
def b2i (b : Bool) : Int32 := if b = true then 1 else 0
section SGN
variable {N : Nat} {u : CS} {w : MS} {c : Int32}
theorem dgC : fm_To_isDigit N u c = some (u, b2i (isDg c)) := by
  unfold fm_To_isDigit fb_To_isDigit_0 isDg
  cases decide (c < 48) <;> cases decide (57 < c) <;> rfl
theorem dgM : fm_M_isDigit N w c = some (w, b2i (isDg c)) := by
  unfold fm_M_isDigit fb_M_isDigit_0 isDg
  cases decide (c < 48) <;> cases decide (57 < c) <;> rfl
theorem smM : fm_M_isSmall N w c = some (w, b2i (isSm c)) := by
  unfold fm_M_isSmall fb_M_isSmall_0 isSm
  cases decide (c < 97) <;> cases decide (122 < c) <;> rfl
theorem grM : fm_M_isGreat N w c = some (w, b2i (isGr c)) := by
  unfold fm_M_isGreat fb_M_isGreat_0 fb_M_isGreat_12 isGr
  cases decide (c < 65) <;> cases decide (c ≤ 90) <;> cases decide (c = 95) <;> rfl
theorem inM : fm_M_isInner N w c = some (w, b2i (isW c)) := by
  unfold fm_M_isInner fb_M_isInner_0 isW
  rw [smM, q_bn, grM, q_bn, dgM, q_bn]
  cases isSm c <;> cases isGr c <;> cases isDg c <;> rfl
theorem woC : fm_To_isWordly N u c = some (u, b2i (isW c)) := by
  unfold fm_To_isWordly fb_To_isWordly_0 fb_To_isWordly_19 fb_To_isWordly_31 isW isSm isGr
  rw [dgC, q_bx]
  have h1 : decide (c ≤ 122) = !decide (122 < c) := by
    by_cases h : 122 < c
    · rw [decide_eq_true h, decide_eq_false (Int32.not_le.mpr h)]; rfl
    · rw [decide_eq_false h, decide_eq_true (Int32.not_lt.mp h)]; rfl
  rw [h1]
  cases isDg c <;> cases decide (c < 97) <;> cases decide (122 < c) <;> cases decide (c < 65) <;> cases decide (c ≤ 90) <;> cases decide (c = 95) <;> rfl
end SGN
theorem b2i_0 {b : Bool} : decide (b2i b = 0) = !b := by cases b <;> decide
theorem sg_all (P : Int32 → Bool) (h : (List.range 256).all (fun n => P (Int8.ofNat n).toInt32) = true) {x : Int32} (hx : nrB x = x) : P x = true := by
  have e1 : x = (Int8.ofNat x.toInt8.toBitVec.toNat).toInt32 := by
    have e2 : Int8.ofNat x.toInt8.toBitVec.toNat = x.toInt8 := by
      apply Int8.toBitVec_inj.mp
      show BitVec.ofNat 8 _ = _
      simp
    rw [e2]
    exact hx.symm
  rw [e1]
  exact List.all_eq_true.mp h _ (List.mem_range.mpr (BitVec.isLt _))
theorem w_and {x : Int32} (hx : nrB x = x) : isW (x &&& 255) = isW x := eq_of_beq (sg_all (fun x => isW (x &&& 255) == isW x) (by decide +kernel) hx)
theorem d_and {x : Int32} (hx : nrB x = x) : isDg (x &&& 255) = isDg x := eq_of_beq (sg_all (fun x => isDg (x &&& 255) == isDg x) (by decide +kernel) hx)
def sgA (g : Nat → Int32) (k p : Nat) : Int32 := if p < k then g p &&& 255 else -1
theorem atC {u : CS} {N k p : Nat} (h : skB u = true) (hk : FI u 4 1 = Int32.ofNat k) (hk4 : k ≤ 4000) (hp : p < 100000) : fm_To_signAt N u 4 (Int32.ofNat p) = some (u, sgA (AI u 5) k p) := by
  have e1 : decide (Int32.ofNat p < 0) = false := decide_eq_false (fun z => absurd ((q_lt (a := p) (b := 0) (by omega) (by decide)).mp z) (by omega))
  unfold fm_To_signAt fb_To_signAt_0 sgA
  rw [e1, q_b0, gi_4_1 h, q_bo, hk]
  by_cases hc : p < k
  · rw [decide_eq_true ((q_lt (a := p) (b := k) (by omega) (by omega)).mpr hc), q_b1, gr_4_0 h, q_bo, q_bo, ai_5 h, if_pos (q_inb (by omega) (by decide)), q_bo, q_nat (by omega), if_pos hc]
    rfl
  · rw [decide_eq_false (fun z => hc ((q_lt (a := p) (b := k) (by omega) (by omega)).mp z)), q_b0, if_neg hc]
    rfl
theorem atM {w : MS} {N k p : Nat} (hk : w.1 5 = Int32.ofNat k) (hk4 : k ≤ 4000) (hp : p < 100000) : fm_M_byteAt N w (Int32.ofNat p) = some (w, sgA (w.2.2.1 4) k p) := by
  unfold fm_M_byteAt fb_M_byteAt_0 sgA
  rw [hk]
  by_cases hc : p < k
  · rw [decide_eq_false (fun z => absurd ((q_le (a := k) (b := p) (by omega) (by omega)).mp z) (by omega)), q_b0, q_ck (q_inb (by show p < 4000; omega) (by decide)), q_nat (by omega), if_pos hc]
    rfl
  · rw [decide_eq_true ((q_le (a := k) (b := p) (by omega) (by omega)).mpr (by omega)), q_b1, if_neg hc]
    rfl
theorem sgA_eq {f g : Nat → Int32} {k p : Nat} (h : ∀ j, j < k → f j = g j) : sgA f k p = sgA g k p := by
  unfold sgA
  by_cases hc : p < k
  · rw [if_pos hc, if_pos hc, h p hc]
  · rw [if_neg hc, if_neg hc]
