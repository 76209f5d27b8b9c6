/-! send(), both sides -/
set_option maxRecDepth 100000
section
variable {T : TYc} {Fv Fv' : Int64 → Int64 → Prop} {P : Int64 → Prop} {AN : Nat} {TT : TY} {CC : CY} {pM pE : Nat → Nat} {ND CN PN SN UN FN N PR : Nat} {m w m2 w2 : MS} {v1 v2 v3 : Int32}
theorem snd_all (hN : 11000000 ≤ N) (n87 : F w 87 ≠ 0) (W : WRD T Fv P PR m) (rest : REST Fv' AN TT ND UN FN PR w) (per : PER Fv' AN TT CC pM pE ND CN PN SN UN FN w) (fq : FQs WTr PR Fv P Fv' (PWs AN) m w) (tb : TBz m w) : PP (RHs Fv P Fv' AN PR m w) (hm_H_send N m v1 v2 v3) (fm_M_send N w v1 v2 v3) := by
  obtain ⟨x1, e1, hx1⟩ : ∃ x1 : Int, v1 = I x1 ∧ (-2147483648 ≤ x1 ∧ x1 < 2147483648) := ⟨v1.toInt, I_of v1, ti_rng v1⟩
  obtain ⟨x2, e2, hx2⟩ : ∃ x2 : Int, v2 = I x2 ∧ (-2147483648 ≤ x2 ∧ x2 < 2147483648) := ⟨v2.toInt, I_of v2, ti_rng v2⟩
  obtain ⟨x3, e3, hx3⟩ : ∃ x3 : Int, v3 = I x3 ∧ (-2147483648 ≤ x3 ∧ x3 < 2147483648) := ⟨v3.toInt, I_of v3, ti_rng v3⟩
  subst e1
  subst e2
  subst e3
  have pr := rest.1.1.2
  have b1 : RHs Fv P Fv' AN PR m w m (Sum.inr 1) (wi w 3 1) () := Or.inr ⟨1, rfl, Or.inl rfl, rfl, rfl⟩
  have b2 : RHs Fv P Fv' AN PR m w m (Sum.inr 2) (wi w 3 2) () := Or.inr ⟨2, rfl, Or.inr rfl, rfl, rfl⟩
  have bad : ∀ (q : Int32) (x : Int), x = 1 ∨ x = 2 → fb_M_send_44 N () w q (I x2) (I x3) (I x) = some (wi w 3 x, ()) := fun q x h => by
    unfold fb_M_send_44
    rw [wi_e, lt_e, wi_s1, show decide (I x = 0) = false from decide_eq_false (fun z => by
      rw [lit0, I_eq (by omega) (by omega) (by omega) (by omega)] at z
      omega), br_f]
  have e14 : F w 14 = ((AN : Nat) : Int) := per.2.2.2.1
  have e22 : F m 22 = ((AN : Nat) : Int) := by
    obtain ⟨fa, na, a⟩ := tb.2.2.2
    rw [← e14]
    exact congrArg Int32.toInt (a.1.1.trans a.2.1.1.symm)
  have r22 := F_r m 22
  have r14 := F_r w 14
  have d1 : decide (I x2 = 1) = decide (x2 = 1) := by
    rw [show (1 : Int32) = I 1 from rfl, decE hx2.1 hx2.2 (by omega) (by omega)]
  have d2 : decide (I x2 = 2) = decide (x2 = 2) := by
    rw [show (2 : Int32) = I 2 from rfl, decE hx2.1 hx2.2 (by omega) (by omega)]
  have d0 : decide (I x2 = 0) = decide (x2 = 0) := by
    rw [show (0 : Int32) = I 0 from rfl, decE hx2.1 hx2.2 (by omega) (by omega)]
  have l0 : decide (I x2 < 0) = decide (x2 < 0) := by
    rw [lit0, decL hx2.1 hx2.2 (by omega) (by omega)]
  have l2 : decide (I x2 ≤ 2) = decide (x2 ≤ 2) := by
    rw [show (2 : Int32) = I 2 from rfl, decI hx2.1 hx2.2 (by omega) (by omega)]
  have l2' : decide (2 ≤ I x2) = decide (2 ≤ x2) := by
    rw [show (2 : Int32) = I 2 from rfl, decI (by omega) (by omega) hx2.1 hx2.2]
  have m0 : decide (I x3 < 0) = decide (x3 < 0) := by
    rw [lit0, decL hx3.1 hx3.2 (by omega) (by omega)]
  have m22 : decide (I x3 < m.1 22) = decide (x3 < ((AN : Nat) : Int)) := by
    rw [I_F (k := 22), decL hx3.1 hx3.2 r22.1 r22.2, e22]
  have m14 : decide (I x3 < w.1 14) = decide (x3 < ((AN : Nat) : Int)) := by
    rw [I_F (k := 14), decL hx3.1 hx3.2 r14.1 r14.2, e14]
  unfold hm_H_send hb_H_send_0 hb_H_send_35 fm_M_send fb_M_send_0 fb_M_send_26
  rw [isP_e (PR := PR) (fun _ => rest.1.1.1) pr hx1, bnd_so, show (1 : Int32) = I 1 from rfl, bad _ 1 (Or.inl rfl)]
  by_cases cq : 0 ≤ x1 ∧ x1 < ((PR : Nat) : Int)
  rotate_left
  · rw [find_0 W.1.1.1.1 pr hx1 cq, bnd_so, if_neg (fun z => cq z.2), show decide ((none : Option Nat) = none) = true from rfl, br_t, show decide ((0 : Int32) = 0) = true from rfl, br_t]
    exact pp_2s b1
  obtain ⟨p, rfl⟩ : ∃ p : Nat, x1 = ((p : Nat) : Int) := ⟨x1.toNat, by omega⟩
  have hp : p < PR := by omega
  rw [find_e W.1 hp, bnd_so, if_pos ⟨n87, cq⟩, show decide ((some p : Option Nat) = none) = false from rfl, br_f, show decide ((I 1 : Int32) = 0) = false from rfl, br_f, show decide (I x2 = I 1) = decide (x2 = 1) from d1, m0, m22, m14]
  have c45 : (x2 = 1 → 0 ≤ x3 ∧ x3 < ((AN : Nat) : Int)) → PP (RHs Fv P Fv' AN PR m w) (hb_H_send_45 N () m (I x2) (I x3) (some p)) (fb_M_send_30 N () w (I ((p : Nat) : Int)) (I x2) (I x3)) := fun hat => by
    unfold hb_H_send_45 hb_H_send_54 fb_M_send_30 fb_M_send_39
    rw [l0, l2, show (2 : Int32) = I 2 from rfl, bad _ 2 (Or.inr rfl)]
    by_cases z0 : x2 < 0
    · rw [decide_eq_true z0, br_t, br_t]
      exact pp_2s b2
    rw [decide_eq_false z0, br_f, br_f]
    by_cases z2 : x2 ≤ 2
    rotate_left
    · rw [decide_eq_false z2, br_f, br_f]
      exact pp_2s b2
    rw [decide_eq_true z2, br_t, br_t]
    unfold fb_M_send_44
    rw [show upI w 3 0 = wi w 3 0 from rfl, lt_e, show decide ((wi w 3 0).1 3 = 0) = true from rfl, br_t, show decide (I x2 = I 2) = decide (x2 = 2) from d2, l2', d0]
    by_cases y2 : x2 = 2
    · rw [decide_eq_true y2, br_t, decide_eq_true (show 2 ≤ x2 by omega), br_t]
      exact sd_pair hN hp rest per fq tb hx3 (pk_ok (postPair_ok (N := N) W.1 W.2.1 hp hx3 (by omega)))
    · rw [decide_eq_false y2, br_f, decide_eq_false (show ¬ 2 ≤ x2 by omega), br_f]
      by_cases y0 : x2 = 0
      · rw [decide_eq_true y0, br_t, br_t]
        exact sd_lit (s := 0) hN hp rest per fq tb (Or.inl rfl) hx3 (W.2.1.2.2.2.2.1 x3 hx3).1
      · rw [decide_eq_false y0, br_f, br_f]
        have ha := hat (by omega)
        exact sd_lit (s := 1) hN hp rest per fq tb (Or.inr ⟨rfl, ha⟩) hx3 (W.2.1.2.2.2.2.2.1 x3 ha.1 (by rw [e22]; exact ha.2))
  by_cases c1 : x2 = 1
  · rw [decide_eq_true c1, br_t, br_t]
    by_cases y0 : x3 < 0
    · rw [decide_eq_true y0, br_t, br_t]
      exact pp_2s b1
    rw [decide_eq_false y0, br_f, br_f]
    by_cases y1 : x3 < ((AN : Nat) : Int)
    · rw [decide_eq_true y1, br_t, br_t]
      exact c45 (fun _ => ⟨by omega, y1⟩)
    · rw [decide_eq_false y1, br_f, br_f]
      exact pp_2s b1
  · rw [decide_eq_false c1, br_f, br_f]
    exact c45 (fun z => absurd z c1)
end
