set_option maxRecDepth 100000
def ARW (N : Nat) (K nm : Nat → Nat) (gd : Bool) (m2 : MS) (lo n2 : Nat) (W : Nat → Nat) : List (Nat × List Nat) → Nat → Nat → SCT → SCT → Nat → Bool → Bool → (MS → Prop) → Prop
  | [], p, p2, sc, sc2, X, Rf, Zf, BC => p = p2 ∧ sc2 = sc ∧ X = 0 ∧ Rf = false ∧ Zf = false ∧ ∀ m, ¬ BC m
  | (ν, l) :: r, p, p2, sc, sc2, X, Rf, Zf, BC => ∃ q q2 sc1 X1 X2 R1 R2 Z1 Z2 B1 B2, (p ≤ q ∧ q ≤ q2 ∧ q2 ≤ p2) ∧ (∀ j, p ≤ j → j < q → K j ≠ 3) ∧ (∃ mi li ni, ERW N K nm gd mi li ni W l q q2 sc sc1 X1 R1 Z1 B1 ∧ ((∀ j, li < j → j ≤ ni → nod m2 j = nod mi j ∧ m2.2.2.1 21 j = mi.2.2.1 21 j) ∧ Kcc mi m2) ∧ (lo ≤ li ∧ ni ≤ n2)) ∧ (lo < ν ∧ ν ≤ n2) ∧ m2.2.2.1 18 ν = I ((l.headD 0 : Nat) : Int) ∧ m2.2.2.1 21 ν = I (((r.headD (0, [])).1 : Nat) : Int) ∧ (tot sc1 ≤ tot sc + (q2 - q) ∧ sc1.length = sc.length ∧ X1 ≤ 1400) ∧ ARW N K nm gd m2 lo n2 W r q2 p2 sc1 sc2 X2 R2 Z2 B2 ∧ X = max X1 X2 ∧ Rf = (R1 || R2) ∧ Zf = (Z1 || Z2) ∧ (∀ m, BC m ↔ B1 m ∨ B2 m) ∧ STB B2
def cmpR (N : Nat) (S : SF_Cm_fun) (G : Unit) (u : MS) (v1 v2 : Int32) (u31 : MS) : Option (MS × Unit) := ck (inb v1 8016) (br (decide ((u31.2.2.1 16 v1.toNatClampNeg) = 8)) (ck (inb v1 8016) (bnd (S.2.2.2.1 u31 (u31.2.2.1 18 v1.toNatClampNeg) v2) (fun u42 r42 => bnd (hm_Cm_forget N u42 (u.1 706)) (fun u43 r43 => hb_Cm_compound_455 N S G u43)))) (br (decide ((u31.2.2.1 16 v1.toNatClampNeg) = 9)) (ck (inb v1 8016) (bnd (S.2.2.2.2.2.2.2.2.2.2.1 u31 (u31.2.2.1 18 v1.toNatClampNeg) 0) (fun u49 r49 => ck (inb v1 8016) (bnd (S.2.2.1 u49 (u49.2.2.1 19 v1.toNatClampNeg) (-1) 15 v2) (fun u55 r55 => bnd (hm_Co_put N u55 37) (fun u57 r57 => bnd (hm_Co_arrive N u57 r55) (fun u60 r60 => hb_Cm_compound_455 N S G u60))))))) (br (decide ((u31.2.2.1 16 v1.toNatClampNeg) = 10)) (ck (inb v1 8016) (bnd (S.2.2.1 u31 (u31.2.2.1 19 v1.toNatClampNeg) (-1) 0 v2) (fun u67 r67 => bnd (hm_Co_put N u67 38) (fun u69 r69 => bnd (hm_Co_arrive N u69 r67) (fun u72 r72 => hb_Cm_compound_455 N S G u72))))) (br (decide ((u31.2.2.1 16 v1.toNatClampNeg) = 11)) (bnd (S.2.1 u31 v1 v2) (fun u74 r74 => hb_Cm_compound_455 N S G u74)) (br (decide ((u31.2.2.1 16 v1.toNatClampNeg) = 12)) (bnd (S.1 u31 v1) (fun u75 r75 => hb_Cm_compound_455 N S G u75)) (br (decide ((u31.2.2.1 16 v1.toNatClampNeg) = 13)) (bnd (hm_Cm_funOf N u31 v1) (fun u76 r76 => hb_Cm_compound_455 N S G u76)) (br (decide ((u31.2.2.1 16 v1.toNatClampNeg) = 14)) (hb_Cm_compound_455 N S G u31) (br (decide ((u31.2.2.1 16 v1.toNatClampNeg) = 15)) (hb_Cm_compound_455 N S G u31) (br (decide ((u31.2.2.1 16 v1.toNatClampNeg) = 16)) (hb_Cm_compound_455 N S G u31) (br (decide ((u31.2.2.1 16 v1.toNatClampNeg) = 17)) (hb_Cm_compound_455 N S G u31) (br (decide ((u31.2.2.1 16 v1.toNatClampNeg) = 18)) (hb_Cm_compound_455 N S G u31) (br (decide ((u31.2.2.1 16 v1.toNatClampNeg) = 19)) (bnd (hm_Co_put N u31 29) (fun u78 r78 => bnd (hm_Co_hook N u78 0) (fun u81 r81 => ck (inb v1 8016) (bnd (S.2.2.2.2.2.2.2.2.2.2.1 u81 (u81.2.2.1 18 v1.toNatClampNeg) 0) (fun u88 r88 => bnd (hm_Co_put N u88 30) (fun u90 r90 => bnd (hm_Cm_forget N u90 (u.1 706)) (fun u92 r92 => bnd (hm_Co_arrive N u92 r81) (fun u94 r94 => hb_Cm_compound_455 N S G u94)))))))) (br (decide ((u31.2.2.1 16 v1.toNatClampNeg) = 20)) (ck (inb v1 8016) (bnd (S.2.2.2.2.2.2.2.2.2.2.1 u31 (u31.2.2.1 19 v1.toNatClampNeg) 0) (fun u101 r101 => bnd (hm_Co_put N u101 20) (fun u103 r103 => ck (inb v1 8016) (bnd (hr_Cm_pattern N u103 (u103.2.2.1 18 v1.toNatClampNeg)) (fun u110 r110 => bnd (hm_Co_put N u110 8) (fun u112 r112 => hb_Cm_compound_455 N S G u112))))))) (br (decide ((u31.2.2.1 16 v1.toNatClampNeg) = 21)) (ck (inb v1 8016) (bnd (S.2.2.2.2.2.2.2.2.2.2.1 u31 (u31.2.2.1 18 v1.toNatClampNeg) 0) (fun u119 r119 => ck (inb v1 8016) (bnd (S.2.2.2.2.2.2.2.2.2.2.1 u119 (u119.2.2.1 19 v1.toNatClampNeg) 0) (fun u125 r125 => bnd (hm_Co_put N u125 17) (fun u127 r127 => hb_Cm_compound_455 N S G u127)))))) (hb_Cm_compound_455 N S G u31)))))))))))))))
section
variable {m v u m1 m2 m3 : MS} {K nm W : Nat → Nat} {sc sc1 sc2 sc3 t : SCT} {s x y N i f tok cm cm2 p p2 q q2 q3 n1 n2 n3 ν μ lo li X X1 X2 k : Nat} {gd Zf Rf R1 R2 Z1 Z2 : Bool} {g : Nat → Int32} {B1 B2 BC : MS → Prop} {a b c e f : Int32} {l : List Nat}
theorem b2c_2 {h : Bool} : b2c h ≠ 2 := by cases h <;> decide
theorem b2c_1 {h : Bool} : b2c h = 1 ↔ h = true := by cases h <;> decide
theorem BADc_e (hp : hm_Cm_predefinedOf N m a b = some (m, c)) (hs : hm_Co_seek N m a b = some (m, e)) : BADc N m (a, b, b2c gd) ↔ (c = -1 ∧ e = -1) ∨ (gd = true ∧ (c < 17 ∨ ¬ c ≤ 28)) := by
  unfold BADc
  rw [if_neg b2c_2]
  show (hm_Cm_predefinedOf N m a b = some (m, -1) ∧ hm_Co_seek N m a b = some (m, -1)) ∨ (b2c gd = 1 ∧ ∃ id, hm_Cm_predefinedOf N m a b = some (m, id) ∧ (id < 17 ∨ ¬ id ≤ 28)) ↔ _
  rw [hp, hs, b2c_1]
  constructor
  · rintro (⟨h1, h2⟩ | ⟨h1, id, h2, h3⟩)
    · injection h1 with h1
      injection h2 with h2
      exact Or.inl ⟨(Prod.mk.inj h1).2, (Prod.mk.inj h2).2⟩
    · injection h2 with h2
      rw [(Prod.mk.inj h2).2]
      exact Or.inr ⟨h1, h3⟩
  · rintro (⟨h1, h2⟩ | ⟨h1, h3⟩)
    · rw [h1, h2]; exact Or.inl ⟨rfl, rfl⟩
    · exact Or.inr ⟨h1, c, rfl, h3⟩
theorem nig_p (cp : CPR nm gd p p2 sc cm m3) (ht : tok ≤ 4002) : PK (fun v (_ : Unit) => (gd = false ∧ v = m3) ∨ (gd = true ∧ v.1 714 < 1000000000 ∧ FRC m3 v)) (hm_Cm_notInGuard N m3 (I (tok : Nat))) := by
  unfold hm_Cm_notInGuard hb_Cm_notInGuard_0 hb_Cm_notInGuard_14
  rw [cp.2.2.2.2.2.1]
  cases gd with
  | false => exact pk_some (Or.inl ⟨rfl, rfl⟩)
  | true =>
    rw [show (!true) = false from rfl, br_fq]
    exact pk_bnd (pk_mo (fault_p (N := N) (tk := tok) (nb := 7) (by omega) (by omega)) (fun v r q => pk_some (Or.inr ⟨rfl, q.1, ⟨fun k hk => q.2.1 k (by omega), fun k _ => by rw [q.2.2]⟩⟩)))
theorem exn_call (hn : nod m2 ν = (I ((14 : Nat) : Int), I (tok : Nat), a, I ((l.headD 0 : Nat) : Int), b)) (htk : tok ≤ 4000) (hlo : lo < ν) (hν : ν ≤ n2) (hl : n2 ≤ 8015) (hq : p ≤ q ∧ q ≤ q2 ∧ q2 ≤ p2) (g1 : ∀ j, p ≤ j → j < q → K j ≠ 3) (g2 : ∀ j, q2 ≤ j → j < p2 → K j ≠ 3) (h : ERW N K nm gd m1 lo n1 W l q q2 sc sc2 X Rf Zf BC) (h1 : KPO n1 m1 m2) (hk : Kcc m1 m2) (hn1 : n1 < ν) : EXN N K nm gd m2 lo n2 ν p p2 sc sc2 X W Rf Zf (fun m => BC m ∨ BADc N m (a, b, b2c gd)) := by
  intro d m3 cm last kx cp
  cases d with
  | zero => exact pk_none
  | succ d =>
    have e0 := KPX_nod kx hlo hν
    rw [hn] at e0
    have e1 : m3.2.2.1 16 ν = I ((14 : Nat) : Int) := (Prod.mk.inj e0).1
    have e2 : m3.2.2.1 17 ν = I (tok : Nat) := (Prod.mk.inj (Prod.mk.inj e0).2).1
    have e3 : m3.2.2.1 18 ν = a := (Prod.mk.inj (Prod.mk.inj (Prod.mk.inj e0).2).2).1
    have e4 : m3.2.2.1 19 ν = I ((l.headD 0 : Nat) : Int) := (Prod.mk.inj (Prod.mk.inj (Prod.mk.inj (Prod.mk.inj e0).2).2).2).1
    have e5 : m3.2.2.1 20 ν = b := (Prod.mk.inj (Prod.mk.inj (Prod.mk.inj (Prod.mk.inj e0).2).2).2).2
    show PK _ (hm_Cm_expression N (hrc_Cm_fun N d) m3 (I (ν : Nat)) last)
    unfold hm_Cm_expression hb_Cm_expression_0 hb_Cm_expression_359
    rw [tnI (n := ν) rfl (by omega), e1]
    refine pk_ck (fun _ => pk_ck (fun _ => ?_))
    rw [show decide (I ((14 : Nat) : Int) = 1) = false from rfl, br_fq, show decide (I ((14 : Nat) : Int) = 2) = false from rfl, br_fq, show decide (I ((14 : Nat) : Int) = 3) = false from rfl, br_fq, show decide (I ((14 : Nat) : Int) = 4) = false from rfl, br_fq, show decide (I ((14 : Nat) : Int) = 5) = false from rfl, br_fq, show decide (I ((14 : Nat) : Int) = 6) = false from rfl, br_fq, show decide (I ((14 : Nat) : Int) = 7) = false from rfl, br_fq, show decide (I ((14 : Nat) : Int) = 8) = false from rfl, br_fq, show decide (I ((14 : Nat) : Int) = 9) = false from rfl, br_fq, show decide (I ((14 : Nat) : Int) = 10) = false from rfl, br_fq, show decide (I ((14 : Nat) : Int) = 11) = false from rfl, br_fq, show decide (I ((14 : Nat) : Int) = 12) = false from rfl, br_fq, show decide (I ((14 : Nat) : Int) = 13) = false from rfl, br_fq, show decide (I ((14 : Nat) : Int) = 14) = true from rfl, br_tq]
    cases d with
    | zero => exact pk_none
    | succ d =>
      refine pk_bnd ?_
      show PK _ (hm_Cm_call N (hrc_Cm_fun N d) m3 (I (ν : Nat)) last)
      refine pk_mo (Q := fun u (_ : Unit) => CPO K nm p p2 sc sc2 X W Rf Zf (fun m => BC m ∨ BADc N m (a, b, b2c gd)) cm m3 u) ?_ (fun v _ q => pk_some q)
      unfold hm_Cm_call hb_Cm_call_0
      rw [tnI (n := ν) rfl (by omega), e2, e3, e5]
      refine pk_ck (fun _ => pk_ck (fun _ => pk_ck (fun _ => pk_bnd (pk_mo (pre_c (N := N) (a := a) (b := b) FRC_rf) (fun u46 r46 h46 => pk_ck (fun _ => ?_))))))
      rw [h46.1, e3]
      refine pk_bnd (pk_mo (seek_c (N := N) (a := a) (b := b) FRC_rf) (fun u53 r53 h53 => ?_))
      rw [h53.1]
      have bd := BADc_e (gd := gd) h46.2 h53.2
      have z77 : ∀ v : MS, Kzc v v → KzE v (hb_Cm_call_77 N (hrc_Cm_fun N d) () v (I (ν : Nat)) last (I (tok : Nat)) b r46 r53) := fun v hv => by
        obtain ⟨hS0, hS1, hS2, hS3, hS4, hS5, hS6, hS7, hS8, hS9, hS10, hS11, hS12⟩ := yz_hrc_Cm_fun (u0 := v) (N := N) d
        exact yz_hb_Cm_call_77 hv hS0 hS1 hS2 hS3 hS4 hS5 hS6 hS7 hS8 hS9 hS10 hS11 hS12
      have z96 : ∀ v : MS, Kzc v v → KzE v (hb_Cm_call_96 N (hrc_Cm_fun N d) () v (I (ν : Nat)) last (I (tok : Nat)) b r46 r53) := fun v hv => by
        obtain ⟨hS0, hS1, hS2, hS3, hS4, hS5, hS6, hS7, hS8, hS9, hS10, hS11, hS12⟩ := yz_hrc_Cm_fun (u0 := v) (N := N) d
        exact yz_hb_Cm_call_96 hv hS0 hS1 hS2 hS3 hS4 hS5 hS6 hS7 hS8 hS9 hS10 hS11 hS12
      have m96 : ¬ BADc N m3 (a, b, b2c gd) → PK (fun u (_ : Unit) => CPO K nm p p2 sc sc2 X W Rf Zf (fun m => BC m ∨ BADc N m (a, b, b2c gd)) cm m3 u) (hb_Cm_call_96 N (hrc_Cm_fun N d) () m3 (I (ν : Nat)) last (I (tok : Nat)) b r46 r53) := fun nb => by
        unfold hb_Cm_call_96
        rw [tnI (n := ν) rfl (by omega), e4]
        refine pk_ck (fun _ => pk_bnd (pk_mo (erw_S h (by omega) (chi_k h1 hk hn1 hν kx) d (CPR_in cp (by omega))) (fun v _ q => ?_)))
        have q := CPO_bc (B2 := fun m => BC m ∨ BADc N m (a, b, b2c gd)) ⟨fun z => z.elim id (fun z => absurd z nb), Or.inl⟩ (CPO_ext hq g1 g2 q)
        refine pk_mo (Q := fun w (_ : Unit) => Kuc v w) ?_ (fun w _ x => CPO_u q x)
        intro w r x
        have h0 : Kuc v v := Ku_rf
        refine (?_ : KuE v _) w r x
        unfold hb_Cm_call_198 hb_Cm_call_147 hb_Cm_call_152 hb_Cm_call_170
        repeat' (first | with_reducible assumption | with_reducible refine Ku_br ?_ ?_ | with_reducible refine Ku_bnd ?_ (fun _ _ _ => ?_) | with_reducible refine Ku_ck ?_ | with_reducible refine Ku_some ?_ | with_reducible exact yu_hm_Co_arrive (by assumption) | with_reducible exact yu_hm_Co_hook (by assumption) | with_reducible exact yu_hm_Co_put (by assumption) | with_reducible exact yu_hm_Cm_term (by assumption) | with_reducible exact yu_hm_Cm_string (by assumption) | with_reducible exact yu_hm_Co_set (by assumption) | with_reducible exact yu_hm_Co_at (by assumption))
      have m91 : (r46 < 17 ∨ ¬ r46 ≤ 28) → ¬ (r46 = -1 ∧ r53 = -1) → PK (fun u (_ : Unit) => CPO K nm p p2 sc sc2 X W Rf Zf (fun m => BC m ∨ BADc N m (a, b, b2c gd)) cm m3 u) (hb_Cm_call_91 N (hrc_Cm_fun N d) () m3 (I (ν : Nat)) last (I (tok : Nat)) b r46 r53) := fun hr nn => by
        unfold hb_Cm_call_91
        refine pk_bnd (pk_mo (nig_p cp (by omega)) (fun v _ q => ?_))
        rcases q with ⟨q1, q2⟩ | ⟨q1, q2, q3⟩
        · rw [q2]
          refine m96 (fun z => ?_)
          rcases bd.mp z with z | z
          · exact nn z
          · rw [q1] at z; exact absurd z.1 (by decide)
        · exact pk_mo (fun w r x => z96 v ⟨q2, FRC_rf⟩ w r x) (fun w _ z => CPO_z (v := v) ⟨Or.inr (Or.inr (bd.mpr (Or.inr ⟨q1, hr⟩))), q2, q3⟩ z)
      have m77 : ¬ (r46 = -1 ∧ r53 = -1) → PK (fun u (_ : Unit) => CPO K nm p p2 sc sc2 X W Rf Zf (fun m => BC m ∨ BADc N m (a, b, b2c gd)) cm m3 u) (hb_Cm_call_77 N (hrc_Cm_fun N d) () m3 (I (ν : Nat)) last (I (tok : Nat)) b r46 r53) := fun nn => by
        unfold hb_Cm_call_77
        refine pk_br (fun z => m91 (Or.inl (of_decide_eq_true z)) nn) (fun z1 => pk_br (fun z => m96 (fun zb => ?_)) (fun z => m91 (Or.inr (of_decide_eq_false z)) nn))
        have z1 := of_decide_eq_false z1
        have z := of_decide_eq_true z
        rcases bd.mp zb with y | ⟨_, y | y⟩
        · exact nn y
        · exact z1 y
        · exact y z
      refine pk_br (fun z1 => pk_br (fun z2 => ?_) (fun z2 => ?_)) (fun z1 => ?_)
      · refine pk_bnd (pk_mo (fault_p (N := N) (tk := tok) (nb := 6) (by omega) (by omega)) (fun v r q => ?_))
        exact pk_mo (fun w r x => z77 v ⟨q.1, FRC_rf⟩ w r x) (fun w _ z => CPO_z (v := v) ⟨Or.inr (Or.inr (bd.mpr (Or.inl ⟨of_decide_eq_true z1, of_decide_eq_true z2⟩))), q.1, ⟨fun k hk => q.2.1 k (by omega), fun k _ => by rw [q.2.2]⟩⟩ z)
      · exact m77 (fun y => of_decide_eq_false z2 y.2)
      · exact m77 (fun y => of_decide_eq_false z1 y.1)
theorem ARW_len : ∀ {l : List (Nat × List Nat)} {p p2 : Nat} {sc sc2 : SCT} {X : Nat} {Rf Zf : Bool} {BC : MS → Prop}, ARW N K nm gd m2 lo n2 W l p p2 sc sc2 X Rf Zf BC → p ≤ p2 ∧ tot sc2 ≤ tot sc + (p2 - p) ∧ sc2.length = sc.length
  | [], _, _, _, _, _, _, _, _, ⟨h1, h2, _⟩ => by
    subst h1
    subst h2
    exact ⟨Nat.le_refl _, by omega, rfl⟩
  | (ν, l) :: r, p, p2, sc, sc2, X, Rf, Zf, BC, ⟨q, q2, sc1, X1, X2, R1, R2, Z1, Z2, B1, B2, h1, _, _, _, _, _, h2, h3, _⟩ => by
    obtain ⟨a, b, c⟩ := ARW_len h3
    exact ⟨by omega, by omega, by rw [c, h2.2.1]⟩
theorem arw_lp (hl : n2 ≤ 8015) : ∀ {l : List (Nat × List Nat)} {p p2 : Nat} {sc sc2 : SCT} {X : Nat} {Rf Zf : Bool} {BC : MS → Prop}, ARW N K nm gd m2 lo n2 W l p p2 sc sc2 X Rf Zf BC → ∀ (d M : Nat) (m3 : MS) (cm : Nat) (last tk : Int32), ((∀ j, lo < j → j ≤ n2 → nod m3 j = nod m2 j ∧ m3.2.2.1 21 j = m2.2.2.1 21 j) ∧ Kcc m2 m3) → CPR nm gd p p2 sc cm m3 → PK (fun m4 (_ : Unit) => CPO K nm p p2 sc sc2 X W Rf Zf BC cm m3 m4) (hg_Cm_apply N (hrc_Cm_fun N d) M m3 last tk (I (((l.headD (0, [])).1 : Nat) : Int)))
  | _, _, _, _, _, _, _, _, _, _, _, 0, _, _, _, _, _, _ => pk_none
  | [], p, p2, sc, sc2, X, Rf, Zf, BC, ⟨h1, h2, h3, h4, h5, h6⟩, d, M + 1, m3, cm, last, tk, _, cp => by
    subst h1
    subst h2
    subst h3
    subst h4
    subst h5
    show PK _ (hb_Cm_apply_40 N (hrc_Cm_fun N d) (hg_Cm_apply N (hrc_Cm_fun N d) M) m3 last tk 0)
    unfold hb_Cm_apply_40
    rw [show decide ((0 : Int32) = 0) = true from rfl, br_tq]
    refine pk_some (CPO_ok ⟨rfl, h6 m3⟩ ?_)
    rw [Nat.max_eq_left (Nat.zero_le cm), wup_0 (fun j h1 h2 => absurd h2 (by omega))]
    exact CPR_0 cp
  | (ν, l) :: r, p, p2, sc, sc2, X, Rf, Zf, BC, ⟨q, q2, sc1, X1, X2, R1, R2, Z1, Z2, B1, B2, h1, g1, ⟨mi, li, ni, h2, hx, hni⟩, h3, h4, h4b, h5, h6, h7, h8, h9, h10, h11⟩, d, M + 1, m3, cm, last, tk, kk, cp => by
    subst h7
    subst h8
    subst h9
    obtain ⟨a1, a2, a3⟩ := ARW_len h6
    have e0 := kk.1 ν h3.1 h3.2
    have e3 : m3.2.2.1 18 ν = I ((l.headD 0 : Nat) : Int) := by rw [← h4]; exact (Prod.mk.inj (Prod.mk.inj (Prod.mk.inj e0.1).2).2).1
    have e6 : m3.2.2.1 21 ν = I (((r.headD (0, [])).1 : Nat) : Int) := by rw [← h4b]; exact e0.2
    show PK _ (hb_Cm_apply_40 N (hrc_Cm_fun N d) (hg_Cm_apply N (hrc_Cm_fun N d) M) m3 last tk (I (ν : Nat)))
    unfold hb_Cm_apply_40
    rw [decide_eq_false (p := I (ν : Nat) = 0) (fun z => by have := (I_eq (x := (ν : Nat)) (y := 0) (by omega) (by omega) (by omega) (by omega)).mp z; omega), br_fq, tnI (n := ν) rfl (by omega), e3]
    have hx3 : (∀ j, li < j → j ≤ ni → nod m3 j = nod mi j ∧ m3.2.2.1 21 j = mi.2.2.1 21 j) ∧ Kcc mi m3 := ⟨fun j u1 u2 => ⟨(kk.1 j (by omega) (by omega)).1.trans (hx.1 j u1 u2).1, (kk.1 j (by omega) (by omega)).2.trans (hx.1 j u1 u2).2⟩, Kc_tr hx.2 kk.2⟩
    have row := erw_S h2 (by omega) hx3 d (CPR_in (q := q) (q2 := q2) cp (by omega))
    refine pk_ck (fun _ => ?_)
    refine pk_mo (Q := fun u (_ : Unit) => CPO K nm q p2 sc sc2 (max X1 X2) W (R1 || R2) (Z1 || Z2) (fun m => B1 m ∨ B2 m) cm m3 u) ?_ (fun v _ qq => CPO_bc (h10 m3) (CPO_ext ⟨h1.1, by omega, Nat.le_refl _⟩ g1 (fun j y1 y2 => absurd y2 (by omega)) qq))
    refine cpo_bnd row ⟨h1.2.1, h1.2.2⟩ h11 h5.2.1 (fun v r9 hv => ?_) (fun v r9 hv hn => ?_)
    · obtain ⟨hS0, hS1, hS2, hS3, hS4, hS5, hS6, hS7, hS8, hS9, hS10, hS11, hS12⟩ := yz_hrc_Cm_fun (u0 := v) (N := N) d
      unfold hb_Cm_apply_85 hb_Cm_apply_87
      repeat' (first | with_reducible assumption | with_reducible refine Kz_br ?_ ?_ | with_reducible refine Kz_bnd ?_ (fun _ _ _ => ?_) | with_reducible refine Kz_ck ?_ | with_reducible refine Kz_ltm ?_ (fun _ _ => ?_) | with_reducible refine Kz_some ?_ | with_reducible exact yz_hm_Cm_notInGuard (by assumption) | with_reducible exact yz_hr_Cm_pattern (by assumption) | with_reducible exact yz_hm_Cm_forget (by assumption) | with_reducible exact yz_hm_Co_arrive (by assumption) | with_reducible exact yz_hm_Cm_funOf (by assumption) | with_reducible exact yz_hm_Co_hook (by assumption) | with_reducible exact yz_hm_Co_put (by assumption) | with_reducible exact yz_hm_Cm_term (by assumption) | with_reducible exact yz_hm_Cm_string (by assumption) | with_reducible exact yz_hm_Co_seek (by assumption) | with_reducible exact yz_hm_Cm_predefinedOf (by assumption) | with_reducible exact yz_hm_Cm_fault (by assumption) | with_reducible exact yz_hm_Cm_joining (by assumption) | with_reducible exact yz_hm_Cm_hold (by assumption) | with_reducible exact yz_hm_Co_set (by assumption) | with_reducible exact yz_hm_Tr_length (by assumption) | with_reducible exact hS0 _ _ (by assumption) | with_reducible exact hS1 _ _ _ (by assumption) | with_reducible exact hS2 _ _ _ _ _ (by assumption) | with_reducible exact hS3 _ _ _ (by assumption) | with_reducible exact hS4 _ _ _ (by assumption) | with_reducible exact hS5 _ _ _ (by assumption) | with_reducible exact hS6 _ _ _ (by assumption) | with_reducible exact hS7 _ _ (by assumption) | with_reducible exact hS8 _ _ (by assumption) | with_reducible exact hS9 _ _ (by assumption) | with_reducible exact hS10 _ _ _ (by assumption) | with_reducible exact hS11 _ _ _ (by assumption) | with_reducible exact hS12 _ _ _ _ (by assumption) | with_reducible exact yz_hg_Cm_apply hS0 hS1 hS2 hS3 hS4 hS5 hS6 hS7 hS8 hS9 hS10 hS11 hS12 _ _ _ _ _ (by assumption) | with_reducible exact yz_hg_Cm_row hS0 hS1 hS2 hS3 hS4 hS5 hS6 hS7 hS8 hS9 hS10 hS11 hS12 _ _ _ (by assumption) | with_reducible exact yz_hg_Cm_signs hS0 hS1 hS2 hS3 hS4 hS5 hS6 hS7 hS8 hS9 hS10 hS11 hS12 _ _ _ _ _ _ _ (by assumption) | with_reducible exact yz_hg_Cm_body hS0 hS1 hS2 hS3 hS4 hS5 hS6 hS7 hS8 hS9 hS10 hS11 hS12 _ _ _ _ (by assumption) | with_reducible exact yz_hg_Cm_parts hS0 hS1 hS2 hS3 hS4 hS5 hS6 hS7 hS8 hS9 hS10 hS11 hS12 _ _ _ _ _ _ _ (by assumption) | with_reducible exact (yz_hg_Cm_tries hS0 hS1 hS2 hS3 hS4 hS5 hS6 hS7 hS8 hS9 hS10 hS11 hS12 _).1 _ _ _ _ _ (by assumption) | with_reducible exact (yz_hg_Cm_tries hS0 hS1 hS2 hS3 hS4 hS5 hS6 hS7 hS8 hS9 hS10 hS11 hS12 _).2 _ _ _ _ (by assumption) | with_reducible refine Kz_ltv (fun _ => ?_) | with_reducible refine Kz_I ?_ (by decide) | with_reducible refine Kz_A ?_ (by decide))
    · have fr := hn.2.2.2.2.2.2.2.2
      have nxt : ∀ t1, PK (fun u (_ : Unit) => CPO K nm q2 p2 sc1 sc2 X2 W R2 Z2 B2 (max cm X1) v u) (hb_Cm_apply_87 N (hrc_Cm_fun N d) (hg_Cm_apply N (hrc_Cm_fun N d) M) v last tk (I (ν : Nat)) t1) := fun t1 => by
        unfold hb_Cm_apply_87
        refine pk_bnd (fun w1 r1 x1 => pk_ck (fun _ => pk_bnd (fun w2 r2 x2 => pk_ck (fun _ => pk_bnd (fun w3 r3 x3 => pk_ck (fun _ => ?_))))))
        have f1 := yu_hm_Co_put (u0 := v) Ku_rf w1 r1 x1
        have f2 := yu_hm_Co_put (u0 := v) f1 w2 r2 x2
        have f3 := yu_hm_Co_put (u0 := v) f2 w3 r3 x3
        have fr3 := FRC_tr fr (FRC_u f3)
        rw [tnI (n := ν) rfl (by omega), fr3.2 21 (by omega), e6]
        have cp2 : CPR nm gd q2 p2 sc1 (max cm X1) w3 := CPR_u (CPR_2 (p := q) (p2 := p2) (q := q2) (CPR_in cp (by omega)) hn h5.2.1 h5.2.2 (by have := cp.2.2.2.2.2.2; omega)) f3
        have kk3 : (∀ j, lo < j → j ≤ n2 → nod w3 j = nod m2 j ∧ w3.2.2.1 21 j = m2.2.2.1 21 j) ∧ Kcc m2 w3 := by
          have k0 : KPX lo n2 0 m2 m3 := ⟨fun j h0 hj => ⟨(kk.1 j h0 hj).1, fun _ => (kk.1 j h0 hj).2⟩, kk.2⟩
          have k1 := KPX_f k0 fr3
          exact ⟨fun j h0 hj => ⟨(k1.1 j h0 hj).1, (k1.1 j h0 hj).2 (by omega)⟩, k1.2⟩
        exact pk_mo (arw_lp hl h6 d M w3 (max cm X1) last tk kk3 cp2) (fun u _ z => CPO_v f3 h11 z)
      unfold hb_Cm_apply_85
      exact pk_br (fun _ => nxt 27) (fun _ => pk_ck (fun _ => pk_br (fun _ => nxt 28) (fun _ => nxt 27)))
theorem exn_app {la : List (Nat × List Nat)} (hn : nod m2 ν = (I ((15 : Nat) : Int), I (tok : Nat), I (μ : Nat), I (((la.headD (0, [])).1 : Nat) : Int), e)) (htk : tok ≤ 4000) (hlo : lo < ν) (hν : ν ≤ n2) (hl : n2 ≤ 8015) (hq : p ≤ q ∧ q ≤ q2 ∧ q2 ≤ q3 ∧ q3 ≤ p2) (g1 : ∀ j, p ≤ j → j < q → K j ≠ 3) (g2 : ∀ j, q3 ≤ j → j < p2 → K j ≠ 3) (h : EXN N K nm gd m1 li n1 μ q q2 sc sc1 X1 W R1 Z1 B1) (hli : lo ≤ li) (kx1 : KPX li n1 μ m1 m2) (hn1 : n1 < ν) (hA : ARW N K nm gd m2 ν n2 W la q2 q3 sc1 sc2 X2 R2 Z2 B2) (s2 : STB B2) (ht : tot sc1 ≤ tot sc + (q2 - q) ∧ sc1.length = sc.length ∧ X1 ≤ 1400) : EXN N K nm gd m2 lo n2 ν p p2 sc sc2 (max X1 X2) W (gd || (R1 || R2)) (Z1 || Z2) (fun m => B1 m ∨ B2 m) := by
  intro d m3 cm last kx cp
  cases d with
  | zero => exact pk_none
  | succ d =>
    have e0 := KPX_nod kx hlo hν
    rw [hn] at e0
    have e1 : m3.2.2.1 16 ν = I ((15 : Nat) : Int) := (Prod.mk.inj e0).1
    have e2 : m3.2.2.1 17 ν = I (tok : Nat) := (Prod.mk.inj (Prod.mk.inj e0).2).1
    have e3 : m3.2.2.1 18 ν = I (μ : Nat) := (Prod.mk.inj (Prod.mk.inj (Prod.mk.inj e0).2).2).1
    have e4 : m3.2.2.1 19 ν = I (((la.headD (0, [])).1 : Nat) : Int) := (Prod.mk.inj (Prod.mk.inj (Prod.mk.inj (Prod.mk.inj e0).2).2).2).1
    show PK _ (hm_Cm_expression N (hrc_Cm_fun N d) m3 (I (ν : Nat)) last)
    unfold hm_Cm_expression hb_Cm_expression_0 hb_Cm_expression_359
    rw [tnI (n := ν) rfl (by omega), e1]
    refine pk_ck (fun _ => pk_ck (fun _ => ?_))
    rw [show decide (I ((15 : Nat) : Int) = 1) = false from rfl, br_fq, show decide (I ((15 : Nat) : Int) = 2) = false from rfl, br_fq, show decide (I ((15 : Nat) : Int) = 3) = false from rfl, br_fq, show decide (I ((15 : Nat) : Int) = 4) = false from rfl, br_fq, show decide (I ((15 : Nat) : Int) = 5) = false from rfl, br_fq, show decide (I ((15 : Nat) : Int) = 6) = false from rfl, br_fq, show decide (I ((15 : Nat) : Int) = 7) = false from rfl, br_fq, show decide (I ((15 : Nat) : Int) = 8) = false from rfl, br_fq, show decide (I ((15 : Nat) : Int) = 9) = false from rfl, br_fq, show decide (I ((15 : Nat) : Int) = 10) = false from rfl, br_fq, show decide (I ((15 : Nat) : Int) = 11) = false from rfl, br_fq, show decide (I ((15 : Nat) : Int) = 12) = false from rfl, br_fq, show decide (I ((15 : Nat) : Int) = 13) = false from rfl, br_fq, show decide (I ((15 : Nat) : Int) = 14) = false from rfl, br_fq, show decide (I ((15 : Nat) : Int) = 15) = true from rfl, br_tq]
    cases d with
    | zero => exact pk_none
    | succ d =>
      refine pk_bnd ?_
      show PK _ (hm_Cm_apply N (hrc_Cm_fun N d) m3 (I (ν : Nat)) last)
      refine pk_mo (Q := fun u (_ : Unit) => CPO K nm p p2 sc sc2 (max X1 X2) W (gd || (R1 || R2)) (Z1 || Z2) (fun m => B1 m ∨ B2 m) cm m3 u) ?_ (fun v _ q => pk_some q)
      unfold hm_Cm_apply hb_Cm_apply_0
      rw [tnI (n := ν) rfl (by omega), e2]
      refine pk_ck (fun _ => pk_bnd (pk_mo (nig_p cp (by omega)) (fun v _ qg => pk_ck (fun _ => ?_))))
      rcases qg with ⟨qg1, qg2⟩ | ⟨qg1, qg2, qg3⟩
      · rw [qg2, e3, qg1, Bool.false_or]
        refine pk_mo (Q := fun u (_ : Unit) => CPO K nm q q3 sc sc2 (max X1 X2) W (R1 || R2) (Z1 || Z2) (fun m => B1 m ∨ B2 m) cm m3 u) ?_ (fun v _ qq => CPO_ext ⟨hq.1, by omega, hq.2.2.2⟩ g1 g2 qq)
        have kc : KPX li n1 μ m1 m3 := ⟨fun j h0 hj => ⟨(kx.1 j (by omega) (by omega)).1.trans (kx1.1 j h0 hj).1, fun hne => ((kx.1 j (by omega) (by omega)).2 (by omega)).trans ((kx1.1 j h0 hj).2 hne)⟩, Kc_tr kx1.2 kx.2⟩
        refine cpo_bnd (h d m3 cm 0 kc (CPR_in cp (by omega))) ⟨hq.2.1, hq.2.2.1⟩ s2 ht.2.1 (fun v r9 hv => ?_) (fun v r9 hv hn => ?_)
        · obtain ⟨hS0, hS1, hS2, hS3, hS4, hS5, hS6, hS7, hS8, hS9, hS10, hS11, hS12⟩ := yz_hrc_Cm_fun (u0 := v) (N := N) d
          repeat' (first | with_reducible assumption | with_reducible refine Kz_br ?_ ?_ | with_reducible refine Kz_bnd ?_ (fun _ _ _ => ?_) | with_reducible refine Kz_ck ?_ | with_reducible refine Kz_ltm ?_ (fun _ _ => ?_) | with_reducible refine Kz_some ?_ | with_reducible exact yz_hm_Cm_notInGuard (by assumption) | with_reducible exact yz_hr_Cm_pattern (by assumption) | with_reducible exact yz_hm_Cm_forget (by assumption) | with_reducible exact yz_hm_Co_arrive (by assumption) | with_reducible exact yz_hm_Cm_funOf (by assumption) | with_reducible exact yz_hm_Co_hook (by assumption) | with_reducible exact yz_hm_Co_put (by assumption) | with_reducible exact yz_hm_Cm_term (by assumption) | with_reducible exact yz_hm_Cm_string (by assumption) | with_reducible exact yz_hm_Co_seek (by assumption) | with_reducible exact yz_hm_Cm_predefinedOf (by assumption) | with_reducible exact yz_hm_Cm_fault (by assumption) | with_reducible exact yz_hm_Cm_joining (by assumption) | with_reducible exact yz_hm_Cm_hold (by assumption) | with_reducible exact yz_hm_Co_set (by assumption) | with_reducible exact yz_hm_Tr_length (by assumption) | with_reducible exact hS0 _ _ (by assumption) | with_reducible exact hS1 _ _ _ (by assumption) | with_reducible exact hS2 _ _ _ _ _ (by assumption) | with_reducible exact hS3 _ _ _ (by assumption) | with_reducible exact hS4 _ _ _ (by assumption) | with_reducible exact hS5 _ _ _ (by assumption) | with_reducible exact hS6 _ _ _ (by assumption) | with_reducible exact hS7 _ _ (by assumption) | with_reducible exact hS8 _ _ (by assumption) | with_reducible exact hS9 _ _ (by assumption) | with_reducible exact hS10 _ _ _ (by assumption) | with_reducible exact hS11 _ _ _ (by assumption) | with_reducible exact hS12 _ _ _ _ (by assumption) | with_reducible exact yz_hg_Cm_apply hS0 hS1 hS2 hS3 hS4 hS5 hS6 hS7 hS8 hS9 hS10 hS11 hS12 _ _ _ _ _ (by assumption) | with_reducible exact yz_hg_Cm_row hS0 hS1 hS2 hS3 hS4 hS5 hS6 hS7 hS8 hS9 hS10 hS11 hS12 _ _ _ (by assumption) | with_reducible exact yz_hg_Cm_signs hS0 hS1 hS2 hS3 hS4 hS5 hS6 hS7 hS8 hS9 hS10 hS11 hS12 _ _ _ _ _ _ _ (by assumption) | with_reducible exact yz_hg_Cm_body hS0 hS1 hS2 hS3 hS4 hS5 hS6 hS7 hS8 hS9 hS10 hS11 hS12 _ _ _ _ (by assumption) | with_reducible exact yz_hg_Cm_parts hS0 hS1 hS2 hS3 hS4 hS5 hS6 hS7 hS8 hS9 hS10 hS11 hS12 _ _ _ _ _ _ _ (by assumption) | with_reducible exact (yz_hg_Cm_tries hS0 hS1 hS2 hS3 hS4 hS5 hS6 hS7 hS8 hS9 hS10 hS11 hS12 _).1 _ _ _ _ _ (by assumption) | with_reducible exact (yz_hg_Cm_tries hS0 hS1 hS2 hS3 hS4 hS5 hS6 hS7 hS8 hS9 hS10 hS11 hS12 _).2 _ _ _ _ (by assumption) | with_reducible refine Kz_ltv (fun _ => ?_) | with_reducible refine Kz_I ?_ (by decide) | with_reducible refine Kz_A ?_ (by decide))
        · have fr := hn.2.2.2.2.2.2.2.2
          refine pk_ck (fun _ => ?_)
          rw [fr.2 19 (by omega), e4]
          have k1 := KPX_f kx fr
          exact arw_lp hl hA d N v (max cm X1) last _ ⟨fun j h0 hj => ⟨(k1.1 j (by omega) hj).1, (k1.1 j (by omega) hj).2 (by omega)⟩, k1.2⟩ (CPR_2 (p := q) (p2 := q3) (q := q2) (CPR_in cp (by omega)) hn ht.2.1 ht.2.2 (by have := cp.2.2.2.2.2.2; omega))
      · refine pk_mo (Q := fun w (_ : Unit) => Kzc v w) ?_ (fun w _ z => CPO_z (v := v) ⟨Or.inl (by rw [qg1]; rfl), qg2, qg3⟩ z)
        intro w r x
        have hv : Kzc v v := ⟨qg2, FRC_rf⟩
        refine (?_ : KzE v _) w r x
        obtain ⟨hS0, hS1, hS2, hS3, hS4, hS5, hS6, hS7, hS8, hS9, hS10, hS11, hS12⟩ := yz_hrc_Cm_fun (u0 := v) (N := N) d
        repeat' (first | with_reducible assumption | with_reducible refine Kz_br ?_ ?_ | with_reducible refine Kz_bnd ?_ (fun _ _ _ => ?_) | with_reducible refine Kz_ck ?_ | with_reducible refine Kz_ltm ?_ (fun _ _ => ?_) | with_reducible refine Kz_some ?_ | with_reducible exact yz_hm_Cm_notInGuard (by assumption) | with_reducible exact yz_hr_Cm_pattern (by assumption) | with_reducible exact yz_hm_Cm_forget (by assumption) | with_reducible exact yz_hm_Co_arrive (by assumption) | with_reducible exact yz_hm_Cm_funOf (by assumption) | with_reducible exact yz_hm_Co_hook (by assumption) | with_reducible exact yz_hm_Co_put (by assumption) | with_reducible exact yz_hm_Cm_term (by assumption) | with_reducible exact yz_hm_Cm_string (by assumption) | with_reducible exact yz_hm_Co_seek (by assumption) | with_reducible exact yz_hm_Cm_predefinedOf (by assumption) | with_reducible exact yz_hm_Cm_fault (by assumption) | with_reducible exact yz_hm_Cm_joining (by assumption) | with_reducible exact yz_hm_Cm_hold (by assumption) | with_reducible exact yz_hm_Co_set (by assumption) | with_reducible exact yz_hm_Tr_length (by assumption) | with_reducible exact hS0 _ _ (by assumption) | with_reducible exact hS1 _ _ _ (by assumption) | with_reducible exact hS2 _ _ _ _ _ (by assumption) | with_reducible exact hS3 _ _ _ (by assumption) | with_reducible exact hS4 _ _ _ (by assumption) | with_reducible exact hS5 _ _ _ (by assumption) | with_reducible exact hS6 _ _ _ (by assumption) | with_reducible exact hS7 _ _ (by assumption) | with_reducible exact hS8 _ _ (by assumption) | with_reducible exact hS9 _ _ (by assumption) | with_reducible exact hS10 _ _ _ (by assumption) | with_reducible exact hS11 _ _ _ (by assumption) | with_reducible exact hS12 _ _ _ _ (by assumption) | with_reducible exact yz_hg_Cm_apply hS0 hS1 hS2 hS3 hS4 hS5 hS6 hS7 hS8 hS9 hS10 hS11 hS12 _ _ _ _ _ (by assumption) | with_reducible exact yz_hg_Cm_row hS0 hS1 hS2 hS3 hS4 hS5 hS6 hS7 hS8 hS9 hS10 hS11 hS12 _ _ _ (by assumption) | with_reducible exact yz_hg_Cm_signs hS0 hS1 hS2 hS3 hS4 hS5 hS6 hS7 hS8 hS9 hS10 hS11 hS12 _ _ _ _ _ _ _ (by assumption) | with_reducible exact yz_hg_Cm_body hS0 hS1 hS2 hS3 hS4 hS5 hS6 hS7 hS8 hS9 hS10 hS11 hS12 _ _ _ _ (by assumption) | with_reducible exact yz_hg_Cm_parts hS0 hS1 hS2 hS3 hS4 hS5 hS6 hS7 hS8 hS9 hS10 hS11 hS12 _ _ _ _ _ _ _ (by assumption) | with_reducible exact (yz_hg_Cm_tries hS0 hS1 hS2 hS3 hS4 hS5 hS6 hS7 hS8 hS9 hS10 hS11 hS12 _).1 _ _ _ _ _ (by assumption) | with_reducible exact (yz_hg_Cm_tries hS0 hS1 hS2 hS3 hS4 hS5 hS6 hS7 hS8 hS9 hS10 hS11 hS12 _).2 _ _ _ _ (by assumption) | with_reducible refine Kz_ltv (fun _ => ?_) | with_reducible refine Kz_I ?_ (by decide) | with_reducible refine Kz_A ?_ (by decide))
theorem cmpd_e {S : SF_Cm_fun} {v1 v2 : Int32} : hb_Cm_compound_0 N S () u v1 v2 = ck (inb v1 8016) (br (decide ((u.2.2.1 16 v1.toNatClampNeg) = 17)) (hb_Cm_compound_33 N S () u (v1)) (ck (inb v1 8016) (br (decide ((u.2.2.1 16 v1.toNatClampNeg) = 18)) (hb_Cm_compound_33 N S () u (v1)) (ck (inb v1 8016) (bnd (hm_Cm_notInGuard N u (u.2.2.1 17 v1.toNatClampNeg)) (fun u31 _ => cmpR N S () u v1 v2 u31)))))) := rfl
theorem exn_cmp (hk : CMK k) (hk1 : k ≠ 17 ∧ k ≠ 18) (hn : nod m2 ν = (I (k : Nat), I (tok : Nat), b, c, e)) (htk : tok ≤ 4000) (hlo : lo < ν) (hν : ν ≤ n2) (hl : n2 ≤ 8015) (h : gd = false → ∀ (d : Nat) (m3 : MS) (cm : Nat) (last : Int32), KPX lo n2 ν m2 m3 → CPR nm false p p2 sc cm m3 → (m3.2.2.1 16 ν = I (k : Nat) ∧ m3.2.2.1 17 ν = I (tok : Nat) ∧ m3.2.2.1 18 ν = b ∧ m3.2.2.1 19 ν = c ∧ m3.2.2.1 20 ν = e) → PK (fun m4 (_ : Unit) => CPO K nm p p2 sc sc2 X W Rf Zf BC cm m3 m4) (cmpR N (hrc_Cm_fun N d) () m3 (I (ν : Nat)) last m3)) : EXN N K nm gd m2 lo n2 ν p p2 sc sc2 X W (gd || Rf) Zf BC := by
  intro d m3 cm last kx cp
  cases d with
  | zero => exact pk_none
  | succ d =>
    have e0 := KPX_nod kx hlo hν
    rw [hn] at e0
    have e1 : m3.2.2.1 16 ν = I (k : Nat) := (Prod.mk.inj e0).1
    have e2 : m3.2.2.1 17 ν = I (tok : Nat) := (Prod.mk.inj (Prod.mk.inj e0).2).1
    have e3 : m3.2.2.1 18 ν = b := (Prod.mk.inj (Prod.mk.inj (Prod.mk.inj e0).2).2).1
    have e4 : m3.2.2.1 19 ν = c := (Prod.mk.inj (Prod.mk.inj (Prod.mk.inj (Prod.mk.inj e0).2).2).2).1
    have e5 : m3.2.2.1 20 ν = e := (Prod.mk.inj (Prod.mk.inj (Prod.mk.inj (Prod.mk.inj e0).2).2).2).2
    show PK _ (hm_Cm_expression N (hrc_Cm_fun N d) m3 (I (ν : Nat)) last)
    refine cE_cmp (k := k) hk e1 (by omega) ?_
    cases d with
    | zero => exact pk_none
    | succ d =>
      have k46 : k < 46 := by unfold CMK at hk; omega
      have d1 : decide (I (k : Nat) = 17) = false := decide_eq_false (fun z => hk1.1 (i_inj (b := 17) (by omega) (by omega) z))
      have d2 : decide (I (k : Nat) = 18) = false := decide_eq_false (fun z => hk1.2 (i_inj (b := 18) (by omega) (by omega) z))
      show PK _ (hm_Cm_compound N (hrc_Cm_fun N d) m3 (I (ν : Nat)) last)
      unfold hm_Cm_compound
      rw [cmpd_e, tnI (n := ν) rfl (by omega), e1, e2, d1, br_fq, d2, br_fq]
      refine pk_ck (fun _ => pk_ck (fun _ => pk_ck (fun _ => pk_bnd (pk_mo (nig_p cp (by omega)) (fun v _ qg => ?_)))))
      rcases qg with ⟨qg1, qg2⟩ | ⟨qg1, qg2, qg3⟩
      · rw [qg2, qg1, Bool.false_or]
        exact h qg1 d m3 cm last kx (by rw [qg1] at cp; exact cp) ⟨e1, e2, e3, e4, e5⟩
      · refine pk_mo (Q := fun w (_ : Unit) => Kzc v w) ?_ (fun w _ z => CPO_z (v := v) ⟨Or.inl (by rw [qg1]; rfl), qg2, qg3⟩ z)
        intro w r x
        have hv : Kzc v v := ⟨qg2, FRC_rf⟩
        refine (?_ : KzE v _) w r x
        obtain ⟨hS0, hS1, hS2, hS3, hS4, hS5, hS6, hS7, hS8, hS9, hS10, hS11, hS12⟩ := yz_hrc_Cm_fun (u0 := v) (N := N) d
        unfold cmpR hb_Cm_compound_455
        repeat' (first | with_reducible assumption | with_reducible refine Kz_br ?_ ?_ | with_reducible refine Kz_bnd ?_ (fun _ _ _ => ?_) | with_reducible refine Kz_ck ?_ | with_reducible refine Kz_ltm ?_ (fun _ _ => ?_) | with_reducible refine Kz_some ?_ | with_reducible exact yz_hm_Cm_notInGuard (by assumption) | with_reducible exact yz_hr_Cm_pattern (by assumption) | with_reducible exact yz_hm_Cm_forget (by assumption) | with_reducible exact yz_hm_Co_arrive (by assumption) | with_reducible exact yz_hm_Cm_funOf (by assumption) | with_reducible exact yz_hm_Co_hook (by assumption) | with_reducible exact yz_hm_Co_put (by assumption) | with_reducible exact yz_hm_Cm_term (by assumption) | with_reducible exact yz_hm_Cm_string (by assumption) | with_reducible exact yz_hm_Co_seek (by assumption) | with_reducible exact yz_hm_Cm_predefinedOf (by assumption) | with_reducible exact yz_hm_Cm_fault (by assumption) | with_reducible exact yz_hm_Cm_joining (by assumption) | with_reducible exact yz_hm_Cm_hold (by assumption) | with_reducible exact yz_hm_Co_set (by assumption) | with_reducible exact yz_hm_Tr_length (by assumption) | with_reducible exact hS0 _ _ (by assumption) | with_reducible exact hS1 _ _ _ (by assumption) | with_reducible exact hS2 _ _ _ _ _ (by assumption) | with_reducible exact hS3 _ _ _ (by assumption) | with_reducible exact hS4 _ _ _ (by assumption) | with_reducible exact hS5 _ _ _ (by assumption) | with_reducible exact hS6 _ _ _ (by assumption) | with_reducible exact hS7 _ _ (by assumption) | with_reducible exact hS8 _ _ (by assumption) | with_reducible exact hS9 _ _ (by assumption) | with_reducible exact hS10 _ _ _ (by assumption) | with_reducible exact hS11 _ _ _ (by assumption) | with_reducible exact hS12 _ _ _ _ (by assumption) | with_reducible exact yz_hg_Cm_apply hS0 hS1 hS2 hS3 hS4 hS5 hS6 hS7 hS8 hS9 hS10 hS11 hS12 _ _ _ _ _ (by assumption) | with_reducible exact yz_hg_Cm_row hS0 hS1 hS2 hS3 hS4 hS5 hS6 hS7 hS8 hS9 hS10 hS11 hS12 _ _ _ (by assumption) | with_reducible exact yz_hg_Cm_signs hS0 hS1 hS2 hS3 hS4 hS5 hS6 hS7 hS8 hS9 hS10 hS11 hS12 _ _ _ _ _ _ _ (by assumption) | with_reducible exact yz_hg_Cm_body hS0 hS1 hS2 hS3 hS4 hS5 hS6 hS7 hS8 hS9 hS10 hS11 hS12 _ _ _ _ (by assumption) | with_reducible exact yz_hg_Cm_parts hS0 hS1 hS2 hS3 hS4 hS5 hS6 hS7 hS8 hS9 hS10 hS11 hS12 _ _ _ _ _ _ _ (by assumption) | with_reducible exact (yz_hg_Cm_tries hS0 hS1 hS2 hS3 hS4 hS5 hS6 hS7 hS8 hS9 hS10 hS11 hS12 _).1 _ _ _ _ _ (by assumption) | with_reducible exact (yz_hg_Cm_tries hS0 hS1 hS2 hS3 hS4 hS5 hS6 hS7 hS8 hS9 hS10 hS11 hS12 _).2 _ _ _ _ (by assumption) | with_reducible refine Kz_ltv (fun _ => ?_) | with_reducible refine Kz_I ?_ (by decide) | with_reducible refine Kz_A ?_ (by decide))
end
