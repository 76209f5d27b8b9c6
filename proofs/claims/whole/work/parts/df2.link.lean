/-! link() and printed() answer alike -/
set_option maxRecDepth 100000
section
variable {Fv Fv' : Int64 → Int64 → Prop} {P P' : Int64 → Prop} {N PR q : Nat} {m w m2 w2 : MS} {v1 v2 : Int32}
/-- one that is there: it lives, on both sides, or has ENDED and all of it is told -/
theorem FQ_one (fq : FQs WTr PR Fv P Fv' P' m w) (hq : q < PR) : (F m (pq q 9) ≠ 3 ∧ A w 109 q ≠ 3 ∧ ALr WTr m w q) ∨ (F m (pq q 9) = 3 ∧ A w 109 q = 3 ∧ DEs m w q) := by
  obtain ⟨i, W, ⟨-, h955⟩, -⟩ := fq
  rcases W.2.2.1 q hq with h | ⟨h1, h2, h3 | ⟨k, k1, k2, -⟩ | h3⟩
  · exact Or.inl h
  · cases h3
  · omega
  · exact Or.inr ⟨h1, h2, h3⟩
/-- which process is meant -/
theorem who_e {x : Int} (h : MCH m w) (hx : -2147483648 ≤ x ∧ x < 2147483648) : (hm_Wl_find N m (I x) = some (m, none) ∧ fm_M_isProcess N (upI w 3 0) (I x) = some (upI w 3 0, 0)) ∨ (F w 87 ≠ 0 ∧ ∃ (T : TYc) (Fv : Int64 → Int64 → Prop) (P : Int64 → Prop) (PR : Nat) (Fv' : Int64 → Int64 → Prop) (AN : Nat) (TT : TY) (CC : CY) (ND CN PN SN UN FN q : Nat), (x = ((q : Nat) : Int) ∧ q < PR ∧ PR ≤ 24) ∧ hm_Wl_find N m (I x) = some (m, some q) ∧ fm_M_isProcess N (upI w 3 0) (I x) = some (upI w 3 0, 1) ∧ (WRD T Fv P PR m ∧ PER Fv' AN TT CC id id ND CN PN SN UN FN w ∧ REST Fv' AN TT ND UN FN PR w ∧ FQs WTr PR Fv P Fv' (PWs AN) m w ∧ TBz m w)) := by
  have e87 : F (upI w 3 0) 87 = F w 87 := congrArg Int32.toInt (upI_ne (by decide))
  rcases h.2 with ⟨q87, nb⟩ | ⟨q87, -, -, -, T, Fv, P, PR, Fv', AN, TT, CC, ND, CN, PN, SN, UN, FN, W, per, rest, fq, tb⟩
  · refine Or.inl ⟨find_0 (PR := 0) (by unfold F; rw [nb.1]; rfl) (by omega) hx (by omega), ?_⟩
    rw [isP_e (PR := 0) (fun z => absurd (e87 ▸ q87) z) (by omega) hx, if_neg (fun z => z.1 (e87 ▸ q87))]
  · have pr := rest.1.1.2
    have e118 : F (upI w 3 0) 118 = ((PR : Nat) : Int) := (congrArg Int32.toInt (upI_ne (by decide))).trans rest.1.1.1
    have q87' : F (upI w 3 0) 87 ≠ 0 := by rw [e87]; exact q87
    by_cases cq : 0 ≤ x ∧ x < ((PR : Nat) : Int)
    · obtain ⟨q, rfl⟩ : ∃ q : Nat, x = ((q : Nat) : Int) := ⟨x.toNat, by omega⟩
      refine Or.inr ⟨q87, T, Fv, P, PR, Fv', AN, TT, CC, ND, CN, PN, SN, UN, FN, q, ⟨rfl, by omega, pr⟩, find_e W.1 (by omega), ?_, W, per, rest, fq, tb⟩
      rw [isP_e (PR := PR) (fun _ => e118) pr hx, if_pos ⟨q87', cq⟩]
    · refine Or.inl ⟨find_0 W.1.1.1.1 pr hx cq, ?_⟩
      rw [isP_e (PR := PR) (fun _ => e118) pr hx, if_neg (fun z => cq z.2)]
/-- link() -/
theorem link_e (h : MCH m w) : PP (fun (_ : MS) r (_ : MS) s => r = s) (hm_H_link N m v1 v2) (fm_M_link N w v1 v2) := by
  obtain ⟨x1, e1, hx1⟩ : ∃ x1 : Int, v1 = I x1 ∧ (-2147483648 ≤ x1 ∧ x1 < 2147483648) := ⟨v1.toInt, I_of v1, ti_rng v1⟩
  obtain ⟨x2, e2, hx2⟩ : ∃ x2 : Int, v2 = I x2 ∧ (-2147483648 ≤ x2 ∧ x2 < 2147483648) := ⟨v2.toInt, I_of v2, ti_rng v2⟩
  subst e1
  subst e2
  have ed : ∀ {a b : Int32} {x y : MS}, a = b → PP (fun (_ : MS) r (_ : MS) s => r = s) (some (x, a)) (some (y, b)) := fun e => pp_end e
  unfold hm_H_link hb_H_link_0 hb_H_link_33 fm_M_link fb_M_link_0 fb_M_link_27 fb_M_link_42
  refine r_lt ?_
  rcases who_e (N := N) h hx1 with ⟨a1, a2⟩ | ⟨-, T, Fv, P, PR, Fv', AN, TT, CC, ND, CN, PN, SN, UN, FN, q, ⟨rfl, hq, p24⟩, a1, a2, W, per, rest, fq, tb⟩
  · rw [a1, a2, bnd_so, bnd_so, show decide ((none : Option Nat) = none) = true from rfl, br_t, show decide ((0 : Int32) = 0) = true from rfl, br_t]
    exact ed rfl
  · rw [a1, a2, bnd_so, bnd_so, show decide ((some q : Option Nat) = none) = false from rfl, br_f, show decide ((1 : Int32) = 0) = false from rfl, br_f, show ∀ f : Nat → Option (MS × Int32), bo (some q) f = f q from fun _ => rfl]
    have l0 : decide (I x2 < 0) = decide (x2 < 0) := by
      rw [lit0, decL hx2.1 hx2.2 (by omega) (by omega)]
    have r9 := F_r m (pq q 9)
    have d9 : decide (m.1 (pq q 9) = 3) = decide (F m (pq q 9) = 3) := by
      rw [I_F (k := pq q 9), show (3 : Int32) = I 3 from rfl, decE r9.1 r9.2 (by omega) (by omega)]
    have ro : ∀ k, (upI w 3 0).2.2.1 k = w.2.2.1 k := fun _ => rfl
    have r17 := A_r w 117 q
    have r15 := F_r m (pq q 15)
    have tnq : (I ((q : Nat) : Int)).toNatClampNeg = q := tnI (n := q) rfl (by omega)
    rw [l0, d9, tnq, ro 117, I_A (k := 117), decL hx2.1 hx2.2 r17.1 r17.2]
    rcases FQ_one fq hq with ⟨y1, y2, b, U, B, W4, Y, pl, sc, -⟩ | ⟨y1, y2, de⟩
    · rw [decide_eq_false y1, br_f]
      have e15 : F m (pq q 15) = A w 117 q := congrArg Int32.toInt sc.2.2.2.1
      rw [I_F (k := pq q 15), decL hx2.1 hx2.2 r15.1 r15.2, e15]
      by_cases z0 : x2 < 0
      · rw [decide_eq_true z0, br_t, br_t]; exact ed rfl
      · rw [decide_eq_false z0, br_f, br_f]
        refine r_ck (fun _ => ?_)
        by_cases z1 : x2 < A w 117 q
        · rw [decide_eq_true z1, br_t, br_t]
          have hb : F m (pq q 15) ≤ 24 := (W.1.2 q hq).1.1.2
          obtain ⟨k, rfl⟩ : ∃ k : Nat, x2 = ((k : Nat) : Int) := ⟨x2.toNat, by omega⟩
          refine l_ck (fun _ => r_ck (fun _ => ed ?_))
          rw [show (24 : Int32) = I 24 from rfl, I_mul, I_add, tnI (n := k) rfl (by omega), tnI (n := 24 * q + k) (by omega) (by omega)]
          exact sc.2.2.2.2.2 k (by omega)
        · rw [decide_eq_false z1, br_f, br_f]; exact ed rfl
    · rw [decide_eq_true y1, br_t]
      have e117 : A w 117 q = 0 := de.2.2.2.2.2.2.2
      rw [e117]
      by_cases z0 : x2 < 0
      · rw [decide_eq_true z0, br_t]; exact ed rfl
      · rw [decide_eq_false z0, br_f]
        exact r_ck (fun _ => ed rfl)
/-- printed() -/
theorem printed_e (h : MCH m w) : PP (fun (_ : MS) r (_ : MS) s => r = s) (hm_H_printed N m v1 v2) (fm_M_printed N w v1 v2) := by
  obtain ⟨x1, e1, hx1⟩ : ∃ x1 : Int, v1 = I x1 ∧ (-2147483648 ≤ x1 ∧ x1 < 2147483648) := ⟨v1.toInt, I_of v1, ti_rng v1⟩
  obtain ⟨x2, e2, hx2⟩ : ∃ x2 : Int, v2 = I x2 ∧ (-2147483648 ≤ x2 ∧ x2 < 2147483648) := ⟨v2.toInt, I_of v2, ti_rng v2⟩
  subst e1
  subst e2
  have ed : ∀ {a b : Int32} {x y : MS}, a = b → PP (fun (_ : MS) r (_ : MS) s => r = s) (some (x, a)) (some (y, b)) := fun e => pp_end e
  have l1 : decide (I x1 < 0) = decide (x1 < 0) := by rw [lit0, decL hx1.1 hx1.2 (by omega) (by omega)]
  have l2 : decide (I x2 < 0) = decide (x2 < 0) := by rw [lit0, decL hx2.1 hx2.2 (by omega) (by omega)]
  unfold hm_H_printed hb_H_printed_0 hb_H_printed_32 fm_M_printed fb_M_printed_0 fb_M_printed_38 fb_M_printed_53
  refine r_lt ?_
  have wi3 : ∀ k, k ≠ 3 → (upI w 3 0).1 k = w.1 k := fun k hk => upI_ne hk
  rw [l1, l2, wi3 87 (by decide), wi3 128 (by decide)]
  have f953 := F_r m 953
  have f128 := F_r w 128
  rcases h.2 with ⟨q87, nb⟩ | ⟨q87, -, -, -, T, Fv, P, PR, Fv', AN, TT, CC, ND, CN, PN, SN, UN, FN, W, per, rest, fq, tb⟩
  · rw [decide_eq_true (show w.1 87 = 0 by rw [I_F' q87]; rfl), br_t, nb.2.2.2.2.2, lit0, decI (by omega) (by omega) hx1.1 hx1.2]
    by_cases z : x1 < 0
    · rw [decide_eq_true z, br_t]; exact ed rfl
    · rw [decide_eq_false z, br_f, decide_eq_true (by omega), br_t]; exact ed rfl
  · rw [decide_eq_false (show ¬ w.1 87 = 0 from fun e => q87 (by unfold F; rw [e]; rfl)), br_f]
    have pn := tb.2.1
    have g53 := W.1.1.2.2.2.2.2
    have e128 : F w 128 = F m 953 := congrArg Int32.toInt pn.1.symm
    rw [I_F (k := 953), decI f953.1 f953.2 hx1.1 hx1.2, I_F (k := 128), decI f128.1 f128.2 hx1.1 hx1.2, e128]
    by_cases z1 : x1 < 0
    · rw [decide_eq_true z1, br_t, br_t]; exact ed rfl
    · rw [decide_eq_false z1, br_f, br_f]
      by_cases z2 : F m 953 ≤ x1
      · rw [decide_eq_true z2, br_t, br_t]; exact ed rfl
      · rw [decide_eq_false z2, br_f, br_f]
        by_cases z3 : x2 < 0
        · rw [decide_eq_true z3, br_t, br_t]; exact ed rfl
        · rw [decide_eq_false z3, br_f, br_f]
          obtain ⟨l, rfl⟩ : ∃ l : Nat, x1 = ((l : Nat) : Int) := ⟨x1.toNat, by omega⟩
          obtain ⟨k, rfl⟩ : ∃ k : Nat, x2 = ((k : Nat) : Int) := ⟨x2.toNat, by omega⟩
          have hl : ((l : Nat) : Int) < F m 953 := by omega
          obtain ⟨p1, p2⟩ := pn.2 l hl
          have a53 := g53.2 l hl
          have r53 := A_r m 53 l
          refine l_ck (fun _ => r_ck (fun _ => ?_))
          rw [tnI (n := l) rfl (by omega), show (upI w 3 0).2.2.1 127 l = m.2.2.1 53 l from p1.symm]
          by_cases z4 : I ((k : Nat) : Int) < m.2.2.1 53 l
          · rw [decide_eq_true z4, br_t, br_t]
            have z5 : ((k : Nat) : Int) < A m 53 l := by
              rw [I_A (k := 53), I_lt hx2.1 hx2.2 r53.1 r53.2] at z4
              exact z4
            refine l_ck (fun _ => r_ck (fun _ => ed ?_))
            rw [show (100 : Int32) = I 100 from rfl, I_mul, I_mul, I_add, I_add, tnI (n := 100 * l + k) (by omega) (by omega), tnI (n := 100 * l + k) (by omega) (by omega)]
            exact p2 k z5
          · rw [decide_eq_false z4, br_f, br_f]; exact ed rfl
end
