/-! what is saved and taken back, here: the other counters -/
set_option maxRecDepth 100000
section
variable {w v u s : MS} {N a b L k : Nat} {x y : Int32} {sc : SCT}
theorem sv_k74 : ∀ (M : Nat) (s : MS) (i : Int32), PK (fun v (_ : Unit) => v.2.2.1 74 = s.2.2.1 74) (gg_M_save N M s i)
  | 0, _, _ => pk_none
  | M + 1, s, i => by
    show PK _ (fb_M_save_141 N (gg_M_save N M) s i)
    unfold fb_M_save_141
    refine pk_br (fun _ => pk_ltq (pk_some rfl)) (fun _ => pk_ck (fun _ => pk_ck (fun _ => pk_ltq (pk_ck (fun _ => pk_ck (fun _ => pk_ltq ?_))))))
    refine pk_mo (sv_k74 M _ _) (fun v _ h => ?_)
    rw [h, upA_no (by decide), upA_no (by decide)]
theorem tb_ki : ∀ (M : Nat) (s : MS) (i : Int32), PK (fun v (_ : Unit) => v.1 = s.1) (gg_M_takeBack N M s i)
  | 0, _, _ => pk_none
  | M + 1, s, i => by
    show PK _ (fb_M_takeBack_115 N (gg_M_takeBack N M) s i)
    unfold fb_M_takeBack_115
    refine pk_br (fun _ => pk_some rfl) (fun _ => pk_ck (fun _ => pk_ck (fun _ => pk_ltq (pk_ck (fun _ => pk_ck (fun _ => pk_ltq ?_))))))
    exact pk_mo (tb_ki M _ _) (fun v _ h => h)
theorem sv2 (ha : w.1 75 = I (a : Nat)) (ha4 : a < 400) : PK (fun v (_ : Unit) => v.2.2.1 74 (a + 1) = w.1 39 ∧ v.2.2.1 74 (a + 2) = w.1 46 ∧ v.2.2.1 74 (a + 3) = w.1 56 ∧ v.2.2.1 74 (a + 4) = w.1 58 ∧ v.2.2.1 74 (a + 5) = w.1 71) (fm_M_save N w) := by
  show PK _ (fb_M_save_0 N (gg_M_save N N) w)
  unfold fb_M_save_0
  refine sv_st (fun s1 i1 r1 x1 => ?_)
  refine sv_st (fun s2 i2 r2 x2 => ?_)
  refine sv_st (fun s3 i3 r3 x3 => ?_)
  refine sv_st (fun s4 i4 r4 x4 => ?_)
  refine sv_st (fun s5 i5 r5 x5 => ?_)
  refine sv_st (fun s6 i6 r6 x6 => ?_)
  refine sv_st (fun s7 i7 r7 x7 => ?_)
  have ia : ∀ (s : MS), s.1 = w.1 → ∀ (c : Nat) (z : Int32), z = I (c : Nat) → c < 100 → (s.1 75 + z).toNatClampNeg = a + c := fun s hs c z hz hc => by rw [hs, ha]; exact I_pl (by omega) hz
  have j1 := i1
  have j2 := i2.trans j1
  have j3 := i3.trans j2
  have j4 := i4.trans j3
  have j5 := i5.trans j4
  have j6 := i6.trans j5
  have j7 := i7.trans j6
  rw [ha, tnI (n := a) rfl (by omega)] at x1
  rw [ia s1 j1 1 1 rfl (by decide), j1] at x2
  rw [ia s2 j2 2 2 rfl (by decide), j2] at x3
  rw [ia s3 j3 3 3 rfl (by decide), j3] at x4
  rw [ia s4 j4 4 4 rfl (by decide), j4] at x5
  rw [ia s5 j5 5 5 rfl (by decide), j5] at x6
  rw [ia s6 j6 6 6 rfl (by decide), j6] at x7
  have fin : ∀ y : Int32, PK (fun v (_ : Unit) => v.2.2.1 74 (a + 1) = w.1 39 ∧ v.2.2.1 74 (a + 2) = w.1 46 ∧ v.2.2.1 74 (a + 3) = w.1 56 ∧ v.2.2.1 74 (a + 4) = w.1 58 ∧ v.2.2.1 74 (a + 5) = w.1 71) (fb_M_save_127 N (gg_M_save N N) s7 74 (s7.1 75 + 7) y) := fun y => by
    unfold fb_M_save_127
    refine pk_ck (fun _ => pk_ck (fun _ => pk_ltq (pk_ltq ?_)))
    rw [ia s7 j7 7 7 rfl (by decide)]
    refine pk_mo (sv_k74 N _ _) (fun v _ h => ?_)
    have e : v.2.2.1 74 = upd (s7.2.2.1 74) (a + 7) y := h.trans upA_at
    rw [e, x7, x6, x5, x4, x3, x2]
    refine ⟨?_, ?_, ?_, ?_, ?_⟩
    · rw [upd_no (by omega), upd_no (by omega), upd_no (by omega), upd_no (by omega), upd_no (by omega), upd_no (by omega), upd_at]
    · rw [upd_no (by omega), upd_no (by omega), upd_no (by omega), upd_no (by omega), upd_no (by omega), upd_at]
    · rw [upd_no (by omega), upd_no (by omega), upd_no (by omega), upd_no (by omega), upd_at]
    · rw [upd_no (by omega), upd_no (by omega), upd_no (by omega), upd_at]
    · rw [upd_no (by omega), upd_no (by omega), upd_at]
  exact pk_br (fun _ => fin 0) (fun _ => fin 1)
theorem tb2 (h75 : v.1 75 = I ((a + 8 : Nat) : Int)) (ha : a + 8 ≤ 400) : PK (fun x (_ : Unit) => x.1 39 = v.2.2.1 74 (a + 1) ∧ x.1 46 = v.2.2.1 74 (a + 2) ∧ x.1 56 = v.2.2.1 74 (a + 3) ∧ x.1 58 = v.2.2.1 74 (a + 4) ∧ x.1 71 = v.2.2.1 74 (a + 5)) (fm_M_takeBack N v) := by
  show PK _ (fb_M_takeBack_0 N (gg_M_takeBack N N) v)
  unfold fb_M_takeBack_0
  have d1 : v.1 75 - 8 = I (a : Nat) := by rw [h75]; exact (I_mn (a := a + 8) (c := 8) (by omega) rfl).trans (by congr 2)
  rw [d1]
  have ia : ∀ (c : Nat) (z : Int32), z = I (c : Nat) → c < 100 → (I (a : Nat) + z).toNatClampNeg = a + c := fun c z hz hc => I_pl (by omega) hz
  rw [tnI (n := a) rfl (by omega), ia 1 1 rfl (by decide), ia 2 2 rfl (by decide), ia 3 3 rfl (by decide), ia 4 4 rfl (by decide), ia 5 5 rfl (by decide), ia 6 6 rfl (by decide), ia 7 7 rfl (by decide)]
  refine pk_ck (fun _ => pk_ltq (pk_ck (fun _ => pk_ltq (pk_ck (fun _ => pk_ltq (pk_ck (fun _ => pk_ltq (pk_ck (fun _ => pk_ltq (pk_ck (fun _ => pk_ltq (pk_ck (fun _ => pk_ltq (pk_ck (fun _ => ?_)))))))))))))))
  generalize hw10 : upI _ 72 _ = w10
  have n39 : w10.1 39 = v.2.2.1 74 (a + 1) := by
    rw [← hw10, upI_ne (by decide), upI_ne (by decide), upI_ne (by decide), upI_ne (by decide), upI_ne (by decide), upI_at]; rfl
  have n46 : w10.1 46 = v.2.2.1 74 (a + 2) := by
    rw [← hw10, upI_ne (by decide), upI_ne (by decide), upI_ne (by decide), upI_ne (by decide), upI_at]; rfl
  have n56 : w10.1 56 = v.2.2.1 74 (a + 3) := by
    rw [← hw10, upI_ne (by decide), upI_ne (by decide), upI_ne (by decide), upI_at]; rfl
  have n58 : w10.1 58 = v.2.2.1 74 (a + 4) := by
    rw [← hw10, upI_ne (by decide), upI_ne (by decide), upI_at]; rfl
  have n71 : w10.1 71 = v.2.2.1 74 (a + 5) := by
    rw [← hw10, upI_ne (by decide), upI_at]; rfl
  clear hw10
  have fin : ∀ t1 : Int32, PK (fun x (_ : Unit) => x.1 39 = v.2.2.1 74 (a + 1) ∧ x.1 46 = v.2.2.1 74 (a + 2) ∧ x.1 56 = v.2.2.1 74 (a + 3) ∧ x.1 58 = v.2.2.1 74 (a + 4) ∧ x.1 71 = v.2.2.1 74 (a + 5)) (fb_M_takeBack_110 N (gg_M_takeBack N N) w10 t1) := fun t1 => by
    unfold fb_M_takeBack_110
    refine pk_ck (fun _ => pk_ltq ?_)
    refine pk_mo (tb_ki N _ _) (fun x _ h => ?_)
    rw [h]
    exact ⟨(upI_ne (by decide)).trans n39, (upI_ne (by decide)).trans n46, (upI_ne (by decide)).trans n56, (upI_ne (by decide)).trans n58, (upI_ne (by decide)).trans n71⟩
  exact pk_br (fun _ => fin 1) (fun _ => fin 0)
end
