set_option maxRecDepth 100000
section
variable {m v u m1 m2 m3 : MS} {K nm W : Nat → Nat} {sc sc1 sc2 sc3 t : SCT} {s x y N i f tok cm cm2 p p2 q q2 q3 n1 n2 n3 ν μ lo li X X1 X2 k : Nat} {gd Zf Rf R1 R2 Z1 Z2 : Bool} {g : Nat → Int32} {B1 B2 BC : MS → Prop} {a b c e f : Int32} {l : List Nat}
theorem CPO_fr (h : CPO K nm p p2 sc sc2 X W Rf Zf BC cm m v) : FRC m v := by
  rcases h with ⟨_, _, h⟩ | ⟨_, h⟩
  · exact h
  · exact h.2.2.2.2.2.2.2.2
theorem KPX_di {n3 l3 : Nat} {m4 : MS} (h : KPO n2 m2 m3) (kc : Kcc m2 m3) (h2 : KPX l3 n3 μ m3 m4) (hn : n2 ≤ n3) (hμ : n2 < μ) (hl : l3 ≤ li) : KPX li n2 ν m2 m4 := KPX_d h kc h2 hn hμ hl
theorem exn_grp (hn : nod m2 ν = (I ((5 : Nat) : Int), a, I (μ : Nat), c, e)) (hlo : lo < ν) (hν : ν ≤ n2) (hl : n2 ≤ 8015) (hq : p ≤ q ∧ q ≤ q2 ∧ q2 ≤ p2) (g1 : ∀ j, p ≤ j → j < q → K j ≠ 3) (g2 : ∀ j, q2 ≤ j → j < p2 → K j ≠ 3) (h : EXN N K nm gd m1 li n1 μ q q2 sc sc2 X W Rf Zf BC) (hli : lo ≤ li) (h1 : KPO n1 m1 m2) (hk : Kcc m1 m2) (hn1 : n1 < ν) : EXN N K nm gd m2 lo n2 ν p p2 sc sc2 X W Rf Zf BC := by
  intro d m3 cm last kx cp
  cases d with
  | zero => exact pk_none
  | succ d =>
    have e0 := KPX_nod kx hlo hν
    rw [hn] at e0
    have e1 : m3.2.2.1 16 ν = I ((5 : Nat) : Int) := (Prod.mk.inj e0).1
    have e3 : m3.2.2.1 18 ν = I (μ : Nat) := (Prod.mk.inj (Prod.mk.inj (Prod.mk.inj e0).2).2).1
    show PK _ (hm_Cm_expression N (hrc_Cm_fun N d) m3 (I (ν : Nat)) last)
    unfold hm_Cm_expression hb_Cm_expression_0 hb_Cm_expression_359
    rw [tnI (n := ν) rfl (by omega), e1, e3]
    refine pk_ck (fun _ => pk_ck (fun _ => ?_))
    rw [show decide (I ((5 : Nat) : Int) = 1) = false from rfl, br_fq, show decide (I ((5 : Nat) : Int) = 2) = false from rfl, br_fq, show decide (I ((5 : Nat) : Int) = 3) = false from rfl, br_fq, show decide (I ((5 : Nat) : Int) = 4) = false from rfl, br_fq, show decide (I ((5 : Nat) : Int) = 5) = true from rfl, br_tq]
    refine pk_ck (fun _ => ?_)
    exact pk_bnd (pk_mo (h d m3 cm last (KPX_di h1 hk kx (by omega) hn1 hli) (CPR_in cp (by omega))) (fun v _ q => pk_some (CPO_ext hq g1 g2 q)))
def CMK (k : Nat) : Prop := k = 8 ∨ k = 9 ∨ k = 10 ∨ k = 11 ∨ k = 12 ∨ k = 13 ∨ k = 17 ∨ k = 18 ∨ k = 19 ∨ k = 20 ∨ k = 21
theorem cE_cmp {S : SF_Cm_fun} {Q : MS → Unit → Prop} {last : Int32} (hk : CMK k) (e1 : m3.2.2.1 16 ν = I (k : Nat)) (hν : ν ≤ 8015) (h : PK Q (S.2.2.2.2.1 m3 (I (ν : Nat)) last)) : PK Q (hm_Cm_expression N S m3 (I (ν : Nat)) last) := by
  unfold hm_Cm_expression hb_Cm_expression_0 hb_Cm_expression_359
  rw [tnI (n := ν) rfl (by omega), e1]
  refine pk_ck (fun _ => pk_ck (fun _ => ?_))
  have h2 : PK Q (bnd (S.2.2.2.2.1 m3 (I (ν : Nat)) last) (fun u81 r81 => some (u81, ()))) := pk_bnd (pk_mo h (fun v r q => pk_some q))
  rcases hk with rfl | rfl | rfl | rfl | rfl | rfl | rfl | rfl | rfl | rfl | rfl
  · rw [show decide (I ((8 : Nat) : Int) = 1) = false from rfl, br_fq, show decide (I ((8 : Nat) : Int) = 2) = false from rfl, br_fq, show decide (I ((8 : Nat) : Int) = 3) = false from rfl, br_fq, show decide (I ((8 : Nat) : Int) = 4) = false from rfl, br_fq, show decide (I ((8 : Nat) : Int) = 5) = false from rfl, br_fq, show decide (I ((8 : Nat) : Int) = 6) = false from rfl, br_fq, show decide (I ((8 : Nat) : Int) = 7) = false from rfl, br_fq, show decide (I ((8 : Nat) : Int) = 8) = true from rfl, br_tq]; exact h2
  · rw [show decide (I ((9 : Nat) : Int) = 1) = false from rfl, br_fq, show decide (I ((9 : Nat) : Int) = 2) = false from rfl, br_fq, show decide (I ((9 : Nat) : Int) = 3) = false from rfl, br_fq, show decide (I ((9 : Nat) : Int) = 4) = false from rfl, br_fq, show decide (I ((9 : Nat) : Int) = 5) = false from rfl, br_fq, show decide (I ((9 : Nat) : Int) = 6) = false from rfl, br_fq, show decide (I ((9 : Nat) : Int) = 7) = false from rfl, br_fq, show decide (I ((9 : Nat) : Int) = 8) = false from rfl, br_fq, show decide (I ((9 : Nat) : Int) = 9) = true from rfl, br_tq]; exact h2
  · rw [show decide (I ((10 : Nat) : Int) = 1) = false from rfl, br_fq, show decide (I ((10 : Nat) : Int) = 2) = false from rfl, br_fq, show decide (I ((10 : Nat) : Int) = 3) = false from rfl, br_fq, show decide (I ((10 : Nat) : Int) = 4) = false from rfl, br_fq, show decide (I ((10 : Nat) : Int) = 5) = false from rfl, br_fq, show decide (I ((10 : Nat) : Int) = 6) = false from rfl, br_fq, show decide (I ((10 : Nat) : Int) = 7) = false from rfl, br_fq, show decide (I ((10 : Nat) : Int) = 8) = false from rfl, br_fq, show decide (I ((10 : Nat) : Int) = 9) = false from rfl, br_fq, show decide (I ((10 : Nat) : Int) = 10) = true from rfl, br_tq]; exact h2
  · rw [show decide (I ((11 : Nat) : Int) = 1) = false from rfl, br_fq, show decide (I ((11 : Nat) : Int) = 2) = false from rfl, br_fq, show decide (I ((11 : Nat) : Int) = 3) = false from rfl, br_fq, show decide (I ((11 : Nat) : Int) = 4) = false from rfl, br_fq, show decide (I ((11 : Nat) : Int) = 5) = false from rfl, br_fq, show decide (I ((11 : Nat) : Int) = 6) = false from rfl, br_fq, show decide (I ((11 : Nat) : Int) = 7) = false from rfl, br_fq, show decide (I ((11 : Nat) : Int) = 8) = false from rfl, br_fq, show decide (I ((11 : Nat) : Int) = 9) = false from rfl, br_fq, show decide (I ((11 : Nat) : Int) = 10) = false from rfl, br_fq, show decide (I ((11 : Nat) : Int) = 11) = true from rfl, br_tq]; exact h2
  · rw [show decide (I ((12 : Nat) : Int) = 1) = false from rfl, br_fq, show decide (I ((12 : Nat) : Int) = 2) = false from rfl, br_fq, show decide (I ((12 : Nat) : Int) = 3) = false from rfl, br_fq, show decide (I ((12 : Nat) : Int) = 4) = false from rfl, br_fq, show decide (I ((12 : Nat) : Int) = 5) = false from rfl, br_fq, show decide (I ((12 : Nat) : Int) = 6) = false from rfl, br_fq, show decide (I ((12 : Nat) : Int) = 7) = false from rfl, br_fq, show decide (I ((12 : Nat) : Int) = 8) = false from rfl, br_fq, show decide (I ((12 : Nat) : Int) = 9) = false from rfl, br_fq, show decide (I ((12 : Nat) : Int) = 10) = false from rfl, br_fq, show decide (I ((12 : Nat) : Int) = 11) = false from rfl, br_fq, show decide (I ((12 : Nat) : Int) = 12) = true from rfl, br_tq]; exact h2
  · rw [show decide (I ((13 : Nat) : Int) = 1) = false from rfl, br_fq, show decide (I ((13 : Nat) : Int) = 2) = false from rfl, br_fq, show decide (I ((13 : Nat) : Int) = 3) = false from rfl, br_fq, show decide (I ((13 : Nat) : Int) = 4) = false from rfl, br_fq, show decide (I ((13 : Nat) : Int) = 5) = false from rfl, br_fq, show decide (I ((13 : Nat) : Int) = 6) = false from rfl, br_fq, show decide (I ((13 : Nat) : Int) = 7) = false from rfl, br_fq, show decide (I ((13 : Nat) : Int) = 8) = false from rfl, br_fq, show decide (I ((13 : Nat) : Int) = 9) = false from rfl, br_fq, show decide (I ((13 : Nat) : Int) = 10) = false from rfl, br_fq, show decide (I ((13 : Nat) : Int) = 11) = false from rfl, br_fq, show decide (I ((13 : Nat) : Int) = 12) = false from rfl, br_fq, show decide (I ((13 : Nat) : Int) = 13) = true from rfl, br_tq]; exact h2
  · rw [show decide (I ((17 : Nat) : Int) = 1) = false from rfl, br_fq, show decide (I ((17 : Nat) : Int) = 2) = false from rfl, br_fq, show decide (I ((17 : Nat) : Int) = 3) = false from rfl, br_fq, show decide (I ((17 : Nat) : Int) = 4) = false from rfl, br_fq, show decide (I ((17 : Nat) : Int) = 5) = false from rfl, br_fq, show decide (I ((17 : Nat) : Int) = 6) = false from rfl, br_fq, show decide (I ((17 : Nat) : Int) = 7) = false from rfl, br_fq, show decide (I ((17 : Nat) : Int) = 8) = false from rfl, br_fq, show decide (I ((17 : Nat) : Int) = 9) = false from rfl, br_fq, show decide (I ((17 : Nat) : Int) = 10) = false from rfl, br_fq, show decide (I ((17 : Nat) : Int) = 11) = false from rfl, br_fq, show decide (I ((17 : Nat) : Int) = 12) = false from rfl, br_fq, show decide (I ((17 : Nat) : Int) = 13) = false from rfl, br_fq, show decide (I ((17 : Nat) : Int) = 14) = false from rfl, br_fq, show decide (I ((17 : Nat) : Int) = 15) = false from rfl, br_fq, show decide (I ((17 : Nat) : Int) = 16) = false from rfl, br_fq, show decide (I ((17 : Nat) : Int) = 17) = true from rfl, br_tq]; exact h2
  · rw [show decide (I ((18 : Nat) : Int) = 1) = false from rfl, br_fq, show decide (I ((18 : Nat) : Int) = 2) = false from rfl, br_fq, show decide (I ((18 : Nat) : Int) = 3) = false from rfl, br_fq, show decide (I ((18 : Nat) : Int) = 4) = false from rfl, br_fq, show decide (I ((18 : Nat) : Int) = 5) = false from rfl, br_fq, show decide (I ((18 : Nat) : Int) = 6) = false from rfl, br_fq, show decide (I ((18 : Nat) : Int) = 7) = false from rfl, br_fq, show decide (I ((18 : Nat) : Int) = 8) = false from rfl, br_fq, show decide (I ((18 : Nat) : Int) = 9) = false from rfl, br_fq, show decide (I ((18 : Nat) : Int) = 10) = false from rfl, br_fq, show decide (I ((18 : Nat) : Int) = 11) = false from rfl, br_fq, show decide (I ((18 : Nat) : Int) = 12) = false from rfl, br_fq, show decide (I ((18 : Nat) : Int) = 13) = false from rfl, br_fq, show decide (I ((18 : Nat) : Int) = 14) = false from rfl, br_fq, show decide (I ((18 : Nat) : Int) = 15) = false from rfl, br_fq, show decide (I ((18 : Nat) : Int) = 16) = false from rfl, br_fq, show decide (I ((18 : Nat) : Int) = 17) = false from rfl, br_fq, show decide (I ((18 : Nat) : Int) = 18) = true from rfl, br_tq]; exact h2
  · rw [show decide (I ((19 : Nat) : Int) = 1) = false from rfl, br_fq, show decide (I ((19 : Nat) : Int) = 2) = false from rfl, br_fq, show decide (I ((19 : Nat) : Int) = 3) = false from rfl, br_fq, show decide (I ((19 : Nat) : Int) = 4) = false from rfl, br_fq, show decide (I ((19 : Nat) : Int) = 5) = false from rfl, br_fq, show decide (I ((19 : Nat) : Int) = 6) = false from rfl, br_fq, show decide (I ((19 : Nat) : Int) = 7) = false from rfl, br_fq, show decide (I ((19 : Nat) : Int) = 8) = false from rfl, br_fq, show decide (I ((19 : Nat) : Int) = 9) = false from rfl, br_fq, show decide (I ((19 : Nat) : Int) = 10) = false from rfl, br_fq, show decide (I ((19 : Nat) : Int) = 11) = false from rfl, br_fq, show decide (I ((19 : Nat) : Int) = 12) = false from rfl, br_fq, show decide (I ((19 : Nat) : Int) = 13) = false from rfl, br_fq, show decide (I ((19 : Nat) : Int) = 14) = false from rfl, br_fq, show decide (I ((19 : Nat) : Int) = 15) = false from rfl, br_fq, show decide (I ((19 : Nat) : Int) = 16) = false from rfl, br_fq, show decide (I ((19 : Nat) : Int) = 17) = false from rfl, br_fq, show decide (I ((19 : Nat) : Int) = 18) = false from rfl, br_fq, show decide (I ((19 : Nat) : Int) = 19) = true from rfl, br_tq]; exact h2
  · rw [show decide (I ((20 : Nat) : Int) = 1) = false from rfl, br_fq, show decide (I ((20 : Nat) : Int) = 2) = false from rfl, br_fq, show decide (I ((20 : Nat) : Int) = 3) = false from rfl, br_fq, show decide (I ((20 : Nat) : Int) = 4) = false from rfl, br_fq, show decide (I ((20 : Nat) : Int) = 5) = false from rfl, br_fq, show decide (I ((20 : Nat) : Int) = 6) = false from rfl, br_fq, show decide (I ((20 : Nat) : Int) = 7) = false from rfl, br_fq, show decide (I ((20 : Nat) : Int) = 8) = false from rfl, br_fq, show decide (I ((20 : Nat) : Int) = 9) = false from rfl, br_fq, show decide (I ((20 : Nat) : Int) = 10) = false from rfl, br_fq, show decide (I ((20 : Nat) : Int) = 11) = false from rfl, br_fq, show decide (I ((20 : Nat) : Int) = 12) = false from rfl, br_fq, show decide (I ((20 : Nat) : Int) = 13) = false from rfl, br_fq, show decide (I ((20 : Nat) : Int) = 14) = false from rfl, br_fq, show decide (I ((20 : Nat) : Int) = 15) = false from rfl, br_fq, show decide (I ((20 : Nat) : Int) = 16) = false from rfl, br_fq, show decide (I ((20 : Nat) : Int) = 17) = false from rfl, br_fq, show decide (I ((20 : Nat) : Int) = 18) = false from rfl, br_fq, show decide (I ((20 : Nat) : Int) = 19) = false from rfl, br_fq, show decide (I ((20 : Nat) : Int) = 20) = true from rfl, br_tq]; exact h2
  · rw [show decide (I ((21 : Nat) : Int) = 1) = false from rfl, br_fq, show decide (I ((21 : Nat) : Int) = 2) = false from rfl, br_fq, show decide (I ((21 : Nat) : Int) = 3) = false from rfl, br_fq, show decide (I ((21 : Nat) : Int) = 4) = false from rfl, br_fq, show decide (I ((21 : Nat) : Int) = 5) = false from rfl, br_fq, show decide (I ((21 : Nat) : Int) = 6) = false from rfl, br_fq, show decide (I ((21 : Nat) : Int) = 7) = false from rfl, br_fq, show decide (I ((21 : Nat) : Int) = 8) = false from rfl, br_fq, show decide (I ((21 : Nat) : Int) = 9) = false from rfl, br_fq, show decide (I ((21 : Nat) : Int) = 10) = false from rfl, br_fq, show decide (I ((21 : Nat) : Int) = 11) = false from rfl, br_fq, show decide (I ((21 : Nat) : Int) = 12) = false from rfl, br_fq, show decide (I ((21 : Nat) : Int) = 13) = false from rfl, br_fq, show decide (I ((21 : Nat) : Int) = 14) = false from rfl, br_fq, show decide (I ((21 : Nat) : Int) = 15) = false from rfl, br_fq, show decide (I ((21 : Nat) : Int) = 16) = false from rfl, br_fq, show decide (I ((21 : Nat) : Int) = 17) = false from rfl, br_fq, show decide (I ((21 : Nat) : Int) = 18) = false from rfl, br_fq, show decide (I ((21 : Nat) : Int) = 19) = false from rfl, br_fq, show decide (I ((21 : Nat) : Int) = 20) = false from rfl, br_fq, show decide (I ((21 : Nat) : Int) = 21) = true from rfl, br_tq]; exact h2
theorem exn_neg (hk2 : k = 17 ∨ k = 18) (hn : nod m2 ν = (I (k : Nat), a, I (μ : Nat), c, e)) (hlo : lo < ν) (hν : ν ≤ n2) (hl : n2 ≤ 8015) (hq : p ≤ q ∧ q ≤ q2 ∧ q2 ≤ p2) (g1 : ∀ j, p ≤ j → j < q → K j ≠ 3) (g2 : ∀ j, q2 ≤ j → j < p2 → K j ≠ 3) (h : EXN N K nm gd m1 li n1 μ q q2 sc sc2 X W Rf Zf BC) (hli : lo ≤ li) (h1 : KPO n1 m1 m2) (hk : Kcc m1 m2) (hn1 : n1 < ν) : EXN N K nm gd m2 lo n2 ν p p2 sc sc2 X W Rf Zf BC := by
  intro d m3 cm last kx cp
  cases d with
  | zero => exact pk_none
  | succ d =>
    have e0 := KPX_nod kx hlo hν
    rw [hn] at e0
    have e1 : m3.2.2.1 16 ν = I (k : Nat) := (Prod.mk.inj e0).1
    have e3 : m3.2.2.1 18 ν = I (μ : Nat) := (Prod.mk.inj (Prod.mk.inj (Prod.mk.inj e0).2).2).1
    show PK _ (hm_Cm_expression N (hrc_Cm_fun N d) m3 (I (ν : Nat)) last)
    refine cE_cmp (k := k) (by unfold CMK; omega) e1 (by omega) ?_
    cases d with
    | zero => exact pk_none
    | succ d =>
      show PK _ (hm_Cm_compound N (hrc_Cm_fun N d) m3 (I (ν : Nat)) last)
      unfold hm_Cm_compound hb_Cm_compound_0 hb_Cm_compound_33
      rw [tnI (n := ν) rfl (by omega), e1, e3]
      have main : PK (fun m4 (_ : Unit) => CPO K nm p p2 sc sc2 X W Rf Zf BC cm m3 m4) (ck (inb (I (ν : Nat)) 8016) (bnd ((hrc_Cm_fun N d).2.2.2.2.2.2.2.2.2.2.1 m3 (I (μ : Nat)) 0) (fun u8 r8 => ck (inb (I (ν : Nat)) 8016) (br (decide ((u8.2.2.1 16 ν) = 18)) (hb_Cm_compound_72 N (hrc_Cm_fun N d) () u8 (12)) (hb_Cm_compound_72 N (hrc_Cm_fun N d) () u8 (11)))))) := by
        refine pk_ck (fun _ => pk_bnd (pk_mo (h d m3 cm 0 (KPX_di h1 hk kx (by omega) hn1 hli) (CPR_in cp (by omega))) (fun v _ q => pk_ck (fun _ => ?_))))
        have q := CPO_ext hq g1 g2 q
        unfold hb_Cm_compound_72
        refine pk_br (fun _ => ?_) (fun _ => ?_)
        · exact pk_bnd (fun w1 r1 x1 => pk_some (CPO_u q (yu_hm_Co_put (u0 := v) Ku_rf w1 r1 x1)))
        · exact pk_bnd (fun w1 r1 x1 => pk_some (CPO_u q (yu_hm_Co_put (u0 := v) Ku_rf w1 r1 x1)))
      refine pk_ck (fun _ => ?_)
      rcases hk2 with rfl | rfl
      · rw [show decide (I ((17 : Nat) : Int) = 17) = true from rfl, br_tq]
        exact main
      · rw [show decide (I ((18 : Nat) : Int) = 17) = false from rfl, br_fq, show decide (I ((18 : Nat) : Int) = 18) = true from rfl, br_tq]
        exact pk_ck (fun _ => main)
theorem erw_S (h : ERW N K nm gd m1 lo n1 W l p p2 sc sc2 X Rf Zf BC) (hl : n1 ≤ 8015) (kx : (∀ j, lo < j → j ≤ n1 → nod m3 j = nod m1 j ∧ m3.2.2.1 21 j = m1.2.2.1 21 j) ∧ Kcc m1 m3) (d : Nat) (cp : CPR nm gd p p2 sc cm m3) : PK (fun m4 (_ : Unit) => CPO K nm p p2 sc sc2 X W Rf Zf BC cm m3 m4) ((hrc_Cm_fun N d).2.2.2.2.2.2.2.2.2.1 m3 (I ((l.headD 0 : Nat) : Int))) := by
  cases d with
  | zero => exact pk_none
  | succ d => exact erw_row hl h d N m3 cm kx.1 kx.2 cp
theorem exn_tup (hn : nod m2 ν = (I ((6 : Nat) : Int), a, I ((l.headD 0 : Nat) : Int), c, e)) (hlo : lo < ν) (hν : ν ≤ n2) (hl : n2 ≤ 8015) (hq : p ≤ q ∧ q ≤ q2 ∧ q2 ≤ p2) (g1 : ∀ j, p ≤ j → j < q → K j ≠ 3) (g2 : ∀ j, q2 ≤ j → j < p2 → K j ≠ 3) (h : ERW N K nm gd m1 lo n1 W l q q2 sc sc2 X Rf Zf BC) (h1 : KPO n1 m1 m2) (hk : Kcc m1 m2) (hn1 : n1 < ν) : EXN N K nm gd m2 lo n2 ν p p2 sc sc2 X W Rf Zf BC := by
  intro d m3 cm last kx cp
  cases d with
  | zero => exact pk_none
  | succ d =>
    have e0 := KPX_nod kx hlo hν
    rw [hn] at e0
    have e1 : m3.2.2.1 16 ν = I ((6 : Nat) : Int) := (Prod.mk.inj e0).1
    have e3 : m3.2.2.1 18 ν = I ((l.headD 0 : Nat) : Int) := (Prod.mk.inj (Prod.mk.inj (Prod.mk.inj e0).2).2).1
    show PK _ (hm_Cm_expression N (hrc_Cm_fun N d) m3 (I (ν : Nat)) last)
    unfold hm_Cm_expression hb_Cm_expression_0 hb_Cm_expression_359
    rw [tnI (n := ν) rfl (by omega), e1, e3]
    refine pk_ck (fun _ => pk_ck (fun _ => ?_))
    rw [show decide (I ((6 : Nat) : Int) = 1) = false from rfl, br_fq, show decide (I ((6 : Nat) : Int) = 2) = false from rfl, br_fq, show decide (I ((6 : Nat) : Int) = 3) = false from rfl, br_fq, show decide (I ((6 : Nat) : Int) = 4) = false from rfl, br_fq, show decide (I ((6 : Nat) : Int) = 5) = false from rfl, br_fq, show decide (I ((6 : Nat) : Int) = 6) = true from rfl, br_tq]
    refine pk_ck (fun _ => pk_bnd (pk_mo (erw_S h (by omega) (chi_k h1 hk hn1 hν kx) d (CPR_in cp (by omega))) (fun v _ q => ?_)))
    refine pk_bnd (fun w1 r1 x1 => pk_ck (fun _ => pk_bnd (fun w2 r2 x2 => pk_some ?_)))
    exact CPO_u (CPO_u (CPO_ext hq g1 g2 q) (yu_hm_Co_put (u0 := v) Ku_rf w1 r1 x1)) (yu_hm_Co_put (u0 := w1) Ku_rf w2 r2 x2)
theorem l57 {S : SF_Cm_fun} {ν : Int32} : PK (fun w (_ : Unit) => Kuc v w) (hb_Cm_list_57 N S () v ν) := fun w r x => by
  have : KuE v (hb_Cm_list_57 N S () v ν) := by
    have h0 : Kuc v v := Ku_rf
    unfold hb_Cm_list_57 hb_Cm_list_93
    repeat' (first | with_reducible assumption | with_reducible refine Ku_br ?_ ?_ | with_reducible refine Ku_bnd ?_ (fun _ _ _ => ?_) | with_reducible refine Ku_ck ?_ | with_reducible refine Ku_some ?_ | with_reducible exact yu_hm_Co_arrive (by assumption) | with_reducible exact yu_hm_Co_hook (by assumption) | with_reducible exact yu_hm_Co_put (by assumption) | with_reducible exact yu_hm_Cm_term (by assumption) | with_reducible exact yu_hm_Cm_string (by assumption) | with_reducible exact yu_hm_Co_set (by assumption) | with_reducible exact yu_hm_Co_at (by assumption))
  exact this w r x
theorem exn_lst {c0 X3 : Nat} {R3 Z3 : Bool} {B3 : MS → Prop} (hn : nod m2 ν = (I ((7 : Nat) : Int), a, I ((l.headD 0 : Nat) : Int), c, I (c0 : Nat))) (hlo : lo < ν) (hν : ν ≤ n2) (hl : n2 ≤ 8015) (hq : p ≤ q ∧ q ≤ q2 ∧ q2 ≤ q3 ∧ q3 ≤ p2) (g1 : ∀ j, p ≤ j → j < q → K j ≠ 3) (g2 : ∀ j, q3 ≤ j → j < p2 → K j ≠ 3) (hX : X ≤ 1400) (ht : tot sc2 ≤ tot sc + (q2 - q) ∧ sc2.length = sc.length) (h : ERW N K nm gd m1 lo n1 W l q q2 sc sc2 X Rf Zf BC) (h1 : KPO n1 m1 m2) (hk : Kcc m1 m2) (hn1 : n1 < ν) (hs3 : STB B3) (tl : (c0 = 0 ∧ q3 = q2 ∧ sc3 = sc2 ∧ X3 = 0 ∧ R3 = false ∧ Z3 = false ∧ ∀ m, ¬ B3 m) ∨ (1 ≤ c0 ∧ c0 ≤ n1 ∧ ∃ (r li ni : Nat) (mi : MS), lo ≤ li ∧ ni ≤ n1 ∧ (q2 ≤ r ∧ r ≤ q3) ∧ (∀ j, q2 ≤ j → j < r → K j ≠ 3) ∧ KPX li ni c0 mi m1 ∧ EXN N K nm gd mi li ni c0 r q3 sc2 sc3 X3 W R3 Z3 B3)) : EXN N K nm gd m2 lo n2 ν p p2 sc sc3 (max X X3) W (Rf || R3) (Zf || Z3) (fun m => BC m ∨ B3 m) := by
  intro d m3 cm last kx cp
  cases d with
  | zero => exact pk_none
  | succ d =>
    have e0 := KPX_nod kx hlo hν
    rw [hn] at e0
    have e1 : m3.2.2.1 16 ν = I ((7 : Nat) : Int) := (Prod.mk.inj e0).1
    have e3 : m3.2.2.1 18 ν = I ((l.headD 0 : Nat) : Int) := (Prod.mk.inj (Prod.mk.inj (Prod.mk.inj e0).2).2).1
    have e5 : m3.2.2.1 20 ν = I (c0 : Nat) := (Prod.mk.inj (Prod.mk.inj (Prod.mk.inj (Prod.mk.inj e0).2).2).2).2
    show PK _ (hm_Cm_expression N (hrc_Cm_fun N d) m3 (I (ν : Nat)) last)
    unfold hm_Cm_expression hb_Cm_expression_0 hb_Cm_expression_359
    rw [tnI (n := ν) rfl (by omega), e1]
    refine pk_ck (fun _ => pk_ck (fun _ => ?_))
    rw [show decide (I ((7 : Nat) : Int) = 1) = false from rfl, br_fq, show decide (I ((7 : Nat) : Int) = 2) = false from rfl, br_fq, show decide (I ((7 : Nat) : Int) = 3) = false from rfl, br_fq, show decide (I ((7 : Nat) : Int) = 4) = false from rfl, br_fq, show decide (I ((7 : Nat) : Int) = 5) = false from rfl, br_fq, show decide (I ((7 : Nat) : Int) = 6) = false from rfl, br_fq, show decide (I ((7 : Nat) : Int) = 7) = true from rfl, br_tq]
    cases d with
    | zero => exact pk_none
    | succ d =>
      refine pk_bnd ?_
      show PK _ (hm_Cm_list N (hrc_Cm_fun N d) m3 (I (ν : Nat)))
      refine pk_mo (Q := fun u (_ : Unit) => CPO K nm p p2 sc sc3 (max X X3) W (Rf || R3) (Zf || Z3) (fun m => BC m ∨ B3 m) cm m3 u) ?_ (fun v _ q => pk_some q)
      unfold hm_Cm_list hb_Cm_list_0
      rw [tnI (n := ν) rfl (by omega), e3]
      have ck3 := chi_k h1 hk hn1 hν kx
      have row := erw_S h (by omega) ck3 d (CPR_in (q := q) (q2 := q2) cp (by omega))
      refine pk_ck (fun _ => ?_)
      refine pk_mo (Q := fun u (_ : Unit) => CPO K nm q q3 sc sc3 (max X X3) W (Rf || R3) (Zf || Z3) (fun m => BC m ∨ B3 m) cm m3 u) ?_ (fun v _ qq => CPO_ext ⟨hq.1, by omega, hq.2.2.2⟩ g1 g2 qq)
      rcases tl with ⟨t1, t2, t3, t4, t5, t6, t7⟩ | ⟨t1, t2, r, li, ni, mi, t3, t4, t5, t6, t7, t8⟩
      · subst t1
        subst t2
        subst t3
        subst t4
        subst t5
        subst t6
        refine pk_bnd (pk_mo row (fun v _ qv => pk_ck (fun _ => ?_)))
        rw [(CPO_fr qv).2 20 (by omega), e5, show decide (I ((0 : Nat) : Int) = 0) = true from rfl, br_tq]
        have qv2 : CPO K nm q q3 sc sc3 (max X 0) W (Rf || false) (Zf || false) (fun m => BC m ∨ B3 m) cm m3 v := by
          rw [Nat.max_eq_left (Nat.zero_le X), Bool.or_false, Bool.or_false]
          exact CPO_bc ⟨fun z => z.elim id (fun z => absurd z (t7 m3)), Or.inl⟩ qv
        refine pk_bnd (fun w1 r1 x1 => pk_bnd (fun w2 r2 x2 => pk_mo l57 (fun w3 _ x3 => ?_)))
        exact CPO_u (CPO_u (CPO_u qv2 (yu_hm_Co_put (u0 := v) Ku_rf w1 r1 x1)) (yu_hm_Cm_term (u0 := w1) Ku_rf w2 r2 x2)) x3
      · refine cpo_bnd row ⟨by omega, by omega⟩ hs3 ht.2 (fun v r9 hv => ?_) (fun v r9 hv hn => ?_)
        · obtain ⟨hS0, hS1, hS2, hS3, hS4, hS5, hS6, hS7, hS8, hS9, hS10, hS11, hS12⟩ := yz_hrc_Cm_fun (u0 := v) (N := N) d
          unfold hb_Cm_list_57 hb_Cm_list_93
          repeat' (first | with_reducible assumption | with_reducible refine Kz_br ?_ ?_ | with_reducible refine Kz_bnd ?_ (fun _ _ _ => ?_) | with_reducible refine Kz_ck ?_ | with_reducible refine Kz_ltm ?_ (fun _ _ => ?_) | with_reducible refine Kz_some ?_ | with_reducible exact yz_hm_Cm_notInGuard (by assumption) | with_reducible exact yz_hr_Cm_pattern (by assumption) | with_reducible exact yz_hm_Cm_forget (by assumption) | with_reducible exact yz_hm_Co_arrive (by assumption) | with_reducible exact yz_hm_Cm_funOf (by assumption) | with_reducible exact yz_hm_Co_hook (by assumption) | with_reducible exact yz_hm_Co_put (by assumption) | with_reducible exact yz_hm_Cm_term (by assumption) | with_reducible exact yz_hm_Cm_string (by assumption) | with_reducible exact yz_hm_Co_seek (by assumption) | with_reducible exact yz_hm_Cm_predefinedOf (by assumption) | with_reducible exact yz_hm_Cm_fault (by assumption) | with_reducible exact yz_hm_Cm_joining (by assumption) | with_reducible exact yz_hm_Cm_hold (by assumption) | with_reducible exact yz_hm_Co_set (by assumption) | with_reducible exact yz_hm_Tr_length (by assumption) | with_reducible exact hS0 _ _ (by assumption) | with_reducible exact hS1 _ _ _ (by assumption) | with_reducible exact hS2 _ _ _ _ _ (by assumption) | with_reducible exact hS3 _ _ _ (by assumption) | with_reducible exact hS4 _ _ _ (by assumption) | with_reducible exact hS5 _ _ _ (by assumption) | with_reducible exact hS6 _ _ _ (by assumption) | with_reducible exact hS7 _ _ (by assumption) | with_reducible exact hS8 _ _ (by assumption) | with_reducible exact hS9 _ _ (by assumption) | with_reducible exact hS10 _ _ _ (by assumption) | with_reducible exact hS11 _ _ _ (by assumption) | with_reducible exact hS12 _ _ _ _ (by assumption) | with_reducible exact yz_hg_Cm_apply hS0 hS1 hS2 hS3 hS4 hS5 hS6 hS7 hS8 hS9 hS10 hS11 hS12 _ _ _ _ _ (by assumption) | with_reducible exact yz_hg_Cm_row hS0 hS1 hS2 hS3 hS4 hS5 hS6 hS7 hS8 hS9 hS10 hS11 hS12 _ _ _ (by assumption) | with_reducible exact yz_hg_Cm_signs hS0 hS1 hS2 hS3 hS4 hS5 hS6 hS7 hS8 hS9 hS10 hS11 hS12 _ _ _ _ _ _ _ (by assumption) | with_reducible exact yz_hg_Cm_body hS0 hS1 hS2 hS3 hS4 hS5 hS6 hS7 hS8 hS9 hS10 hS11 hS12 _ _ _ _ (by assumption) | with_reducible exact yz_hg_Cm_parts hS0 hS1 hS2 hS3 hS4 hS5 hS6 hS7 hS8 hS9 hS10 hS11 hS12 _ _ _ _ _ _ _ (by assumption) | with_reducible exact (yz_hg_Cm_tries hS0 hS1 hS2 hS3 hS4 hS5 hS6 hS7 hS8 hS9 hS10 hS11 hS12 _).1 _ _ _ _ _ (by assumption) | with_reducible exact (yz_hg_Cm_tries hS0 hS1 hS2 hS3 hS4 hS5 hS6 hS7 hS8 hS9 hS10 hS11 hS12 _).2 _ _ _ _ (by assumption) | with_reducible refine Kz_ltv (fun _ => ?_) | with_reducible refine Kz_I ?_ (by decide) | with_reducible refine Kz_A ?_ (by decide))
        · have fr := hn.2.2.2.2.2.2.2.2
          rw [fr.2 20 (by omega), e5]
          refine pk_ck (fun _ => ?_)
          rw [decide_eq_false (p := I (c0 : Nat) = 0) (fun z => by have := (I_eq (x := (c0 : Nat)) (y := 0) (by omega) (by omega) (by omega) (by omega)).mp z; omega), br_fq]
          have kv : KPX li ni c0 mi v := by
            have kk : KPX lo n1 c0 m1 m3 := ⟨fun j h0 hj => ⟨(ck3.1 j h0 hj).1, fun _ => (ck3.1 j h0 hj).2⟩, ck3.2⟩
            exact KPX_f (KPX_tr t7 kk t4 t3) fr
          have cpv : CPR nm gd r q3 sc2 (max cm X) v := CPR_in (p := q2) (p2 := q3) (CPR_2 (p := q) (p2 := q3) (q := q2) (CPR_in cp (by omega)) hn ht.2 hX (by have := cp.2.2.2.2.2.2; omega)) (by omega)
          refine pk_ck (fun _ => pk_bnd (pk_mo (t8 d v (max cm X) 0 kv cpv) (fun w _ qw => pk_mo l57 (fun w3 _ x3 => ?_))))
          exact CPO_u (CPO_ext ⟨t5.1, t5.2, Nat.le_refl _⟩ t6 (fun j h1 h2 => absurd h2 (by omega)) qw) x3
end
