/-! frame() answers alike -/
set_option maxRecDepth 100000
section
variable {N q j r k : Nat} {m w : MS} {v1 v2 v3 : Int32}
theorem AI_eq {a b : MS} {c d : Nat} {i l : Nat} (h : A a c i = A b d l) : a.2.2.1 c i = b.2.2.1 d l := Int32.toInt_inj.mp h
theorem fr_of (h21 : F m (pq q 21) = ((j + 1 : Nat) : Int)) (hj : j < 60) (hr : r ≤ j) (hk : k ≤ 4) : hm_Fr_of N m q (I ((r : Nat) : Int)) (I ((k : Nat) : Int)) = some (m, m.2.2.1 (pq q 30) (5 * r + k)) := by
  unfold hm_Fr_of hb_Fr_of_0 hb_Fr_of_12 hb_Fr_of_26
  have f21 := F_r m (pq q 21)
  rw [lit0, decL (by omega) (by omega) (by omega) (by omega), decide_eq_false (by omega), br_f, I_F (k := pq q 21), decL (by omega) (by omega) f21.1 f21.2, decide_eq_true (by omega), br_t, show (5 : Int32) = I 5 from rfl, I_mul, I_add, (I_inb (x := ((r : Nat) : Int) * 5 + ((k : Nat) : Int)) (n := 300) (by omega) (by omega)).mpr ⟨by omega, by omega⟩, tnI (n := 5 * r + k) (by omega) (by omega)]
  rfl
theorem nm_in (h21 : F m (pq q 21) = ((j + 1 : Nat) : Int)) (hj : j < 60) (hr : r ≤ j) : hm_Fr_namesIn N m q (I ((r : Nat) : Int)) = some (m, (if r = j then m.1 (pq q 24) else m.2.2.1 (pq q 30) (5 * (r + 1) + 2)) - m.2.2.1 (pq q 30) (5 * r + 2)) := by
  unfold hm_Fr_namesIn hb_Fr_namesIn_0 hb_Fr_namesIn_25
  have f21 := F_r m (pq q 21)
  have e2 := fr_of (N := N) (k := 2) h21 hj hr (by omega)
  rw [show (1 : Int32) = I 1 from rfl, I_add, I_F (k := pq q 21), decI f21.1 f21.2 (by omega) (by omega), h21]
  by_cases z : r = j
  · rw [decide_eq_true (by omega), br_t, if_pos z, show (2 : Int32) = I ((2 : Nat) : Int) from rfl, e2, bnd_so]
  · have e3 := fr_of (N := N) (k := 2) h21 hj (show r + 1 ≤ j by omega) (by omega)
    rw [decide_eq_false (by omega), br_f, if_neg z, show ((r : Nat) : Int) + 1 = ((r + 1 : Nat) : Int) by omega, show (2 : Int32) = I ((2 : Nat) : Int) from rfl, e3, bnd_so, e2, bnd_so]
theorem wt_in (h21 : F m (pq q 21) = ((j + 1 : Nat) : Int)) (hj : j < 60) (hr : r ≤ j) : hm_Fr_waitsIn N m q (I ((r : Nat) : Int)) = some (m, (if r = j then m.1 (pq q 26) else m.2.2.1 (pq q 30) (5 * (r + 1) + 3)) - m.2.2.1 (pq q 30) (5 * r + 3)) := by
  unfold hm_Fr_waitsIn hb_Fr_waitsIn_0 hb_Fr_waitsIn_25
  have f21 := F_r m (pq q 21)
  have e2 := fr_of (N := N) (k := 3) h21 hj hr (by omega)
  rw [show (1 : Int32) = I 1 from rfl, I_add, I_F (k := pq q 21), decI f21.1 f21.2 (by omega) (by omega), h21]
  by_cases z : r = j
  · rw [decide_eq_true (by omega), br_t, if_pos z, show (3 : Int32) = I ((3 : Nat) : Int) from rfl, e2, bnd_so]
  · have e3 := fr_of (N := N) (k := 3) h21 hj (show r + 1 ≤ j by omega) (by omega)
    rw [decide_eq_false (by omega), br_f, if_neg z, show ((r : Nat) : Int) + 1 = ((r + 1 : Nat) : Int) by omega, show (3 : Int32) = I ((3 : Nat) : Int) from rfl, e3, bnd_so, e2, bnd_so]
/-- frame() -/
theorem frame_e (h : MCH m w) : PP (fun (_ : MS) r (_ : MS) s => r = s) (hm_H_frame N m v1 v2 v3) (fm_M_frame1 N w v1 v2 v3) := by
  obtain ⟨x1, e1, hx1⟩ : ∃ x1 : Int, v1 = I x1 ∧ (-2147483648 ≤ x1 ∧ x1 < 2147483648) := ⟨v1.toInt, I_of v1, ti_rng v1⟩
  obtain ⟨x2, e2, hx2⟩ : ∃ x2 : Int, v2 = I x2 ∧ (-2147483648 ≤ x2 ∧ x2 < 2147483648) := ⟨v2.toInt, I_of v2, ti_rng v2⟩
  obtain ⟨x3, e3, hx3⟩ : ∃ x3 : Int, v3 = I x3 ∧ (-2147483648 ≤ x3 ∧ x3 < 2147483648) := ⟨v3.toInt, I_of v3, ti_rng v3⟩
  subst e1
  subst e2
  subst e3
  have ed : ∀ {a b : Int32} {x y : MS}, a = b → PP (fun (_ : MS) r (_ : MS) s => r = s) (some (x, a)) (some (y, b)) := fun e => pp_end e
  unfold hm_H_frame hb_H_frame_0 hb_H_frame_40 fm_M_frame1 fb_M_frame1_0 fb_M_frame1_46 fb_M_frame1_118
  refine r_lt ?_
  rcases who_e (N := N) h hx1 with ⟨a1, a2⟩ | ⟨-, T, Fv, P, PR, Fv', AN, TT, CC, ND, CN, PN, SN, UN, FN, q, ⟨rfl, hq, p24⟩, a1, a2, W, per, rest, fq, tb⟩
  · rw [a1, a2, bnd_so, bnd_so, show decide ((none : Option Nat) = none) = true from rfl, br_t, show decide ((0 : Int32) = 0) = true from rfl, br_t]
    exact ed rfl
  · rw [a1, a2, bnd_so, bnd_so, show decide ((some q : Option Nat) = none) = false from rfl, br_f, show decide ((1 : Int32) = 0) = false from rfl, br_f, show ∀ f : Nat → Option (MS × Int32), bo (some q) f = f q from fun _ => rfl]
    have r9 := F_r m (pq q 9)
    have d9 : decide (m.1 (pq q 9) = 3) = decide (F m (pq q 9) = 3) := by
      rw [I_F (k := pq q 9), show (3 : Int32) = I 3 from rfl, decE r9.1 r9.2 (by omega) (by omega)]
    have ro : ∀ k, (upI w 3 0).2.2.1 k = w.2.2.1 k := fun _ => rfl
    have q9 := A_r w 109 q
    have tnq : (I ((q : Nat) : Int)).toNatClampNeg = q := tnI (n := q) rfl (by omega)
    have d109 : decide (w.2.2.1 109 q = 3) = decide (A w 109 q = 3) := by
      rw [I_A (k := 109), show (3 : Int32) = I 3 from rfl, decE q9.1 q9.2 (by omega) (by omega)]
    refine r_ck (fun _ => ?_)
    simp only [ro, tnq]
    rw [d9, d109]
    rcases FQ_one fq hq with ⟨y1, y2, b, U, B, W4, Y, pl, sc, j, nb, Hs, Os, fa, -⟩ | ⟨y1, y2, de⟩
    · rw [decide_eq_false y1, br_f, decide_eq_false y2, br_f]
      obtain ⟨⟨f1, f2, hj⟩, fl, fn, f24⟩ := fa
      have l0 : decide (I x2 < 0) = decide (x2 < 0) := by
        rw [lit0, decL hx2.1 hx2.2 (by omega) (by omega)]
      have r95 := A_r w 95 q
      have r21 := F_r m (pq q 21)
      have l95 : decide (w.2.2.1 95 q ≤ I x2) = decide (((j + 1 : Nat) : Int) ≤ x2) := by
        rw [I_A (k := 95), decI r95.1 r95.2 hx2.1 hx2.2, f2]
      have l21 : decide (I x2 < m.1 (pq q 21)) = decide (x2 < ((j + 1 : Nat) : Int)) := by
        rw [I_F (k := pq q 21), decL hx2.1 hx2.2 r21.1 r21.2, f1]
      rw [l0]
      by_cases z0 : x2 < 0
      · rw [decide_eq_true z0, br_t, br_t]; exact ed rfl
      rw [decide_eq_false z0, br_f, br_f, l21]
      refine r_ck (fun _ => ?_)
      rw [l95]
      by_cases z1 : x2 < ((j + 1 : Nat) : Int)
      rotate_left
      · rw [decide_eq_false z1, br_f, decide_eq_true (show ((j + 1 : Nat) : Int) ≤ x2 by omega), br_t]; exact ed rfl
      rw [decide_eq_true z1, br_t, decide_eq_false (show ¬ ((j + 1 : Nat) : Int) ≤ x2 by omega), br_f]
      obtain ⟨k, rfl⟩ : ∃ k : Nat, x2 = ((k : Nat) : Int) := ⟨x2.toNat, by omega⟩
      have hr : j - k ≤ j := by omega
      have eM : m.1 (pq q 21) - 1 - I ((k : Nat) : Int) = I ((j - k : Nat) : Int) := by
        rw [I_F (k := pq q 21), f1, show (1 : Int32) = I 1 from rfl, I_sub, I_sub]
        congr 1
        omega
      have eW : w.2.2.1 95 q - 1 - I ((k : Nat) : Int) = I ((j - k : Nat) : Int) := by
        rw [I_A (k := 95), f2, show (1 : Int32) = I 1 from rfl, I_sub, I_sub]
        congr 1
        omega
      have ePq : I ((q : Nat) : Int) * 60 + I ((j - k : Nat) : Int) = I ((60 * q + (j - k) : Nat) : Int) := by
        rw [show (60 : Int32) = I 60 from rfl, I_mul, I_add]
        congr 1
        omega
      have eP1 : I ((60 * q + (j - k) : Nat) : Int) + 1 = I ((60 * q + (j - k + 1) : Nat) : Int) := by
        rw [show (1 : Int32) = I 1 from rfl, I_add]
        congr 1
      have tn0 : (I ((60 * q + (j - k) : Nat) : Int)).toNatClampNeg = 60 * q + (j - k) := tnI (n := 60 * q + (j - k)) rfl (by omega)
      have tn1 : (I ((60 * q + (j - k + 1) : Nat) : Int)).toNatClampNeg = 60 * q + (j - k + 1) := tnI (n := 60 * q + (j - k + 1)) rfl (by omega)
      have d30 : decide (I x3 = 0) = decide (x3 = 0) := by rw [lit0, decE hx3.1 hx3.2 (by omega) (by omega)]
      have d31 : decide (I x3 = 1) = decide (x3 = 1) := by rw [show (1 : Int32) = I 1 from rfl, decE hx3.1 hx3.2 (by omega) (by omega)]
      have d32 : decide (I x3 = 2) = decide (x3 = 2) := by rw [show (2 : Int32) = I 2 from rfl, decE hx3.1 hx3.2 (by omega) (by omega)]
      have d33 : decide (I x3 = 3) = decide (x3 = 3) := by rw [show (3 : Int32) = I 3 from rfl, decE hx3.1 hx3.2 (by omega) (by omega)]
      have l30 : decide (I x3 < 0) = decide (x3 < 0) := by rw [lit0, decL hx3.1 hx3.2 (by omega) (by omega)]
      have l33 : decide (I x3 ≤ 3) = decide (x3 ≤ 3) := by rw [show (3 : Int32) = I 3 from rfl, decI hx3.1 hx3.2 (by omega) (by omega)]
      have dk0 : decide (I ((k : Nat) : Int) = 0) = decide (j - k = j) := by
        rw [lit0, decE (by omega) (by omega) (by omega) (by omega)]
        exact decide_eq_decide.mpr (by omega)
      rw [eM, d30, d31, d32, d33, l30, l33]
      obtain ⟨g1, g2, ⟨g3, g4⟩, g5, g6, g7⟩ := fl (j - k) hr
      by_cases y3 : x3 < 0
      · rw [decide_eq_true y3, br_t, decide_eq_false (show ¬ x3 = 0 by omega), br_f, decide_eq_false (show ¬ x3 = 1 by omega), br_f, decide_eq_false (show ¬ x3 = 2 by omega), br_f, decide_eq_false (show ¬ x3 = 3 by omega), br_f]
        exact ed rfl
      rw [decide_eq_false y3, br_f]
      by_cases y4 : x3 ≤ 3
      rotate_left
      · rw [decide_eq_false y4, br_f, decide_eq_false (show ¬ x3 = 0 by omega), br_f, decide_eq_false (show ¬ x3 = 1 by omega), br_f, decide_eq_false (show ¬ x3 = 2 by omega), br_f, decide_eq_false (show ¬ x3 = 3 by omega), br_f]
        exact ed rfl
      rw [decide_eq_true y4, br_t]
      refine r_ck (fun _ => r_lt ?_)
      simp only [eW, ePq, tn0]
      by_cases c0 : x3 = 0
      · rw [decide_eq_true c0, br_t, br_t, show (0 : Int32) = I ((0 : Nat) : Int) from rfl, fr_of f1 hj hr (by omega), bnd_so]
        exact r_ck (fun _ => ed (AI_eq g1))
      rw [decide_eq_false c0, br_f, br_f]
      by_cases c1 : x3 = 1
      · rw [decide_eq_true c1, br_t, br_t, show hm_Fr_of N m q (I ((j - k : Nat) : Int)) 1 = hm_Fr_of N m q (I ((j - k : Nat) : Int)) (I ((1 : Nat) : Int)) from rfl, fr_of f1 hj hr (by omega), bnd_so]
        refine r_ck (fun _ => ?_)
        have r97 := A_r w 97 (60 * q + (j - k))
        have d97 : decide (w.2.2.1 97 (60 * q + (j - k)) = -1) = decide (A w 97 (60 * q + (j - k)) = -1) := by
          rw [I_A (k := 97), show (-1 : Int32) = I (-1) from rfl, decE r97.1 r97.2 (by omega) (by omega)]
        rw [d97]
        rcases g2 with ⟨c, l⟩ | ⟨kk, t, c, t4, l⟩
        · rw [decide_eq_true c, br_t]
          exact ed (I_A' l)
        · rw [decide_eq_false (by omega), br_f]
          refine r_ck (fun _ => ?_)
          rw [I_A' c]
          by_cases hkk : kk < 2147483648
          · rw [tnI (n := kk) rfl hkk]
            refine r_ck (fun _ => ?_)
            rw [I_A' t4]
            have rt := A_r w 44 kk
            rw [tnI (n := t) rfl (by omega)]
            exact r_ck (fun _ => ed (AI_eq l))
          · have := A_r w 97 (60 * q + (j - k))
            omega
      rw [decide_eq_false c1, br_f, br_f]
      have e94 : m.1 (pq q 24) = w.2.2.1 94 q := Int32.toInt_inj.mp (pl.2.1.1.trans pl.2.1.2.1.symm)
      have e92 : m.1 (pq q 26) = w.2.2.1 92 q := Int32.toInt_inj.mp (pl.2.2.1.1.trans pl.2.2.1.2.1.symm)
      have e99 : ∀ r, r ≤ j → m.2.2.1 (pq q 30) (5 * r + 2) = w.2.2.1 99 (60 * q + r) := fun r hr => AI_eq ((fl r hr).2.2.1.1.trans (fl r hr).2.2.1.2.symm)
      have e100 : ∀ r, r ≤ j → m.2.2.1 (pq q 30) (5 * r + 3) = w.2.2.1 100 (60 * q + r) := fun r hr => AI_eq (fl r hr).2.2.2.1
      rw [dk0]
      unfold fb_M_frame1_141 fb_M_frame1_165 fb_M_frame1_195
      rw [dk0, d32]
      simp only [ro, tnq, tn0, eP1, tn1]
      by_cases c2 : x3 = 2
      · rw [decide_eq_true c2, br_t, nm_in f1 hj hr, bnd_so, br_t, br_t]
        by_cases ck : j - k = j
        · rw [decide_eq_true ck, br_t, br_t, if_pos ck]
          refine r_ck (fun _ => r_ck (fun _ => r_ck (fun _ => ed ?_)))
          rw [e94, e99 (j - k) hr]
        · rw [decide_eq_false ck, br_f, br_f, if_neg ck]
          refine r_ck (fun _ => r_ck (fun _ => r_ck (fun _ => ed ?_)))
          rw [e99 (j - k + 1) (by omega), e99 (j - k) hr]
      · rw [decide_eq_false c2, br_f, decide_eq_true (show x3 = 3 by omega), br_t, wt_in f1 hj hr, bnd_so, br_f, br_f]
        by_cases ck : j - k = j
        · rw [decide_eq_true ck, br_t, br_t, if_pos ck]
          refine r_ck (fun _ => r_ck (fun _ => r_ck (fun _ => ed ?_)))
          rw [e92, e100 (j - k) hr]
        · rw [decide_eq_false ck, br_f, br_f, if_neg ck]
          refine r_ck (fun _ => r_ck (fun _ => r_ck (fun _ => ed ?_)))
          rw [e100 (j - k + 1) (by omega), e100 (j - k) hr]
    · rw [decide_eq_true y1, br_t, decide_eq_true y2, br_t]
      exact ed rfl
end
