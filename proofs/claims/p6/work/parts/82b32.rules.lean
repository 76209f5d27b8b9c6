set_option maxRecDepth 100000
theorem tagI (t : Int64) : (t >>> ((32 : Int32).toInt64 &&& 63)).toInt32 = I (so t) := I_of _
theorem valI (t : Int64) : t.toInt32 = I (va t) := I_of _
theorem m1I : (-1 : Int32) = I (-1) := rfl
section
variable {α β : Type} {Q : MS → α → Prop} {u v w : MS} {N : Nat}
theorem e_in {x : Int} {n : Nat} {y : Option (MS × α)} (h : 0 ≤ x ∧ x < n) (hn : n ≤ 2147483647) (q : OK Q y) : OK Q (ck (inb (I x) n) y) := ok_ck.mpr ⟨(I_inb (by omega) (by omega)).mpr h, q⟩
theorem tnI {x : Int} {n : Nat} (h : x = ((n : Nat) : Int)) (hn : n < 2147483648) : (I x).toNatClampNeg = n := by
  rw [I_tn (by omega) (by omega), h]; exact Int.toNat_natCast n
theorem e_tag {t : Int64} : hm_Te_tag N u t = some (u, I (so t)) := by unfold hm_Te_tag hb_Te_tag_0; rw [tagI]
theorem e_make {s x : Int} : hm_Te_make N u (I s) (I x) = some (u, mk s x) := rfl
theorem nh_so {t : Int64} (h : so t ≠ 3 ∧ so t ≠ 5 ∧ so t ≠ 7) : ¬ isH t := by unfold isH; omega
end
section
variable {h : Nat → Int64} {n N b : Nat} {ow kd : Nat → Nat} {Fv : Int64 → Int64 → Prop} {P : Int64 → Prop} {u : MS} {t : Int64}
theorem vn_e {t : Int64} (h : 0 ≤ va t) : va t = ((vn t : Nat) : Int) := by unfold vn; omega
theorem BK_ge (z : isH t) : 1 ≤ blk h t := blk_pos z
theorem cellsAt_h (hh : u.2.2.2 b = h) (hn : n ≤ 512) (z : isH t) (k : BKc h n ow kd Fv t) : hm_Te_cellsAt N u b t = some (u, I (blk h t)) := by
  obtain ⟨k1, k2, k3, k4, k5, k6⟩ := k
  have hb := blk_pos (h := h) z
  have hv : va t = ((vn t : Nat) : Int) := by unfold vn; omega
  unfold hm_Te_cellsAt hb_Te_cellsAt_0 hb_Te_cellsAt_49
  rw [tagI, valI, hh]
  show br (decide (I (so t) = 7)) _ _ = _
  have hr := so_r t
  rw [I_lit (n := 7), I_lit (n := 5), I_lit (n := 3), decE hr.1 hr.2 (by decide) (by decide), decE hr.1 hr.2 (by decide) (by decide), decE hr.1 hr.2 (by decide) (by decide)]
  have z7 : (OfNat.ofNat 7 : Int) = 7 := rfl
  have z5 : (OfNat.ofNat 5 : Int) = 5 := rfl
  have z3 : (OfNat.ofNat 3 : Int) = 3 := rfl
  rw [z7, z5, z3]
  rcases z with z | z | z
  · rw [decide_eq_false (by omega), decide_eq_false (by omega), decide_eq_true z, br_fq, br_fq, br_tq]
    have e : blk h t = 2 + vn (h (vn t + 1)) := by unfold blk; rw [if_neg (by omega), if_neg (by omega), if_pos z]
    have k3 := k3 z
    have hw : va (h (vn t + 1)) = ((vn (h (vn t + 1)) : Nat) : Int) := vn_e k3.1
    rw [I_lit (n := 1), I_add, hv, tnI (n := vn t + 1) (by show _ + (1 : Int) = _; omega) (by omega), valI, I_lit (n := 2), I_add]
    rw [(I_inb (by show _ ≤ _ + (1 : Int); omega) (by show _ + (1 : Int) < _; omega)).mpr ⟨by show 0 ≤ _ + (1 : Int); omega, by show _ + (1 : Int) < _; omega⟩, ck_t, hw, e]
    congr 3
    show _ + (2 : Int) = _
    omega
  · rw [decide_eq_false (by omega), decide_eq_true z, br_fq, br_tq]
    have e : blk h t = 1 + vn (h (vn t)) := by unfold blk; rw [if_neg (by omega), if_pos z]
    have k2 := k2 z
    have hw : va (h (vn t)) = ((vn (h (vn t)) : Nat) : Int) := vn_e k2.1
    rw [hv, tnI (n := vn t) rfl (by omega), valI, I_lit (n := 1), I_add, (I_inb (by omega) (by omega)).mpr ⟨by omega, by omega⟩, ck_t, hw, e]
    congr 3
    show _ + (1 : Int) = _
    omega
  · rw [decide_eq_true z, br_tq]
    have e : blk h t = 2 := by unfold blk; rw [if_pos z]
    rw [e]; rfl
theorem cellsAt_n (z : ¬ isH t) : hm_Te_cellsAt N u b t = some (u, 0) := by
  unfold hm_Te_cellsAt hb_Te_cellsAt_0 hb_Te_cellsAt_49
  rw [tagI]
  show br (decide (I (so t) = 7)) _ _ = _
  have hr := so_r t
  rw [I_lit (n := 7), I_lit (n := 5), I_lit (n := 3), decE hr.1 hr.2 (by decide) (by decide), decE hr.1 hr.2 (by decide) (by decide), decE hr.1 hr.2 (by decide) (by decide)]
  unfold isH at z
  rw [decide_eq_false (show ¬ so t = (OfNat.ofNat 7 : Int) from fun y => z (Or.inr (Or.inr y))), decide_eq_false (show ¬ so t = (OfNat.ofNat 5 : Int) from fun y => z (Or.inr (Or.inl y))), decide_eq_false (show ¬ so t = (OfNat.ofNat 3 : Int) from fun y => z (Or.inl y)), br_fq, br_fq, br_fq]
end
