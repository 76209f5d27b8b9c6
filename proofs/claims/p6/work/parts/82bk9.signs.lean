set_option maxRecDepth 100000
def SGW (N : Nat) (K nm : Nat → Nat) (gd : Bool) (m2 : MS) (lo n2 : Nat) (W : Nat → Nat) : List Nat → Int32 → Int32 → Nat → Nat → SCT → SCT → Nat → Bool → Bool → (MS → Prop) → Prop
  | [], _, _, p, p2, sc, sc2, X, Rf, Zf, BC => p = p2 ∧ sc2 = sc ∧ X = 0 ∧ Rf = false ∧ Zf = false ∧ ∀ m, ¬ BC m
  | ν :: l, am, om, p, p2, sc, sc2, X, Rf, Zf, BC => (lo < ν ∧ ν ≤ n2) ∧ m2.2.2.1 21 ν = I ((l.headD 0 : Nat) : Int) ∧ ((∃ q q2 sc1 X1 X2 R1 R2 Z1 Z2 B1 B2, (p ≤ q ∧ q ≤ q2 ∧ q2 ≤ p2) ∧ (∀ j, p ≤ j → j < q → K j ≠ 3) ∧ (∃ mi li ni k, EXN N K nm gd mi li ni ν q q2 sc sc1 X1 W R1 Z1 B1 ∧ KPX li ni ν mi m2 ∧ (lo ≤ li ∧ ni ≤ n2) ∧ m2.2.2.1 16 ν = I (k : Nat) ∧ k < 23) ∧ (tot sc1 ≤ tot sc + (q2 - q) ∧ sc1.length = sc.length ∧ X1 ≤ 1400) ∧ SGW N K nm gd m2 lo n2 W l am om q2 p2 sc1 sc2 X2 R2 Z2 B2 ∧ X = max X1 X2 ∧ Rf = (R1 || R2) ∧ Zf = (Z1 || Z2) ∧ (∀ m, BC m ↔ B1 m ∨ B2 m) ∧ STB B2) ∨ (m2.2.2.1 16 ν = I ((24 : Nat) : Int) ∧ ((m2.2.2.1 18 ν = I ((6 : Nat) : Int) ∧ SGW N K nm gd m2 lo n2 W l (I (tot sc : Nat)) om p p2 sc sc2 X Rf Zf BC) ∨ (m2.2.2.1 18 ν = I ((16 : Nat) : Int) ∧ SGW N K nm gd m2 lo n2 W l am (I (tot sc : Nat)) p p2 sc sc2 X Rf Zf BC))) ∨ (m2.2.2.1 16 ν = I ((23 : Nat) : Int) ∧ ∃ k : Nat, m2.2.2.1 18 ν = I (k : Nat) ∧ k < 46 ∧ (((k = 6 ∨ k = 16) ∧ ∃ b e1 t1, sc = e1 :: t1 ∧ b ≤ e1.1.length ∧ (if k = 6 then am else om) = I ((tot t1 + b : Nat) : Int) ∧ SGW N K nm gd m2 lo n2 W l am om p p2 (cutS b sc) sc2 X Rf Zf BC) ∨ ((k ≠ 6 ∧ k ≠ 16) ∧ ∃ tk R2, m2.2.2.1 17 ν = I (tk : Nat) ∧ tk ≤ 4000 ∧ SGW N K nm gd m2 lo n2 W l am om p p2 sc sc2 X R2 Zf BC ∧ Rf = ((gd && decide (k = 43 ∨ k = 44)) || R2)))))
section
variable {m v u m1 m2 m3 mi : MS} {K nm W Nk : Nat → Nat} {sc sc1 sc2 t : SCT} {x y N i j p p2 q q2 k lo li ni n1 n2 ν cm X tok : Nat} {l : List Nat} {a b c e : Int32} {gd Rf Zf : Bool} {BC : MS → Prop}
theorem SGW_len : ∀ {l : List Nat} {am om : Int32} {p p2 : Nat} {sc sc2 : SCT} {X : Nat} {Rf Zf : Bool} {BC : MS → Prop}, SGW N K nm gd m2 lo n2 W l am om p p2 sc sc2 X Rf Zf BC → p ≤ p2 ∧ tot sc2 ≤ tot sc + (p2 - p) ∧ sc2.length = sc.length
  | [], _, _, _, _, _, _, _, _, _, _, ⟨h1, h2, _⟩ => by
    subst h1
    subst h2
    exact ⟨Nat.le_refl _, by omega, rfl⟩
  | ν :: l, am, om, p, p2, sc, sc2, X, Rf, Zf, BC, ⟨_, _, h⟩ => by
    rcases h with ⟨q, q2, sc1, X1, X2, R1, R2, Z1, Z2, B1, B2, h1, _, _, h2, h3, _⟩ | ⟨_, ⟨_, h⟩ | ⟨_, h⟩⟩ | ⟨_, k, _, _, ⟨_, b, e1, t1, _, _, _, h⟩ | ⟨_, tk, R2, _, _, h, _⟩⟩
    · obtain ⟨a, b, c⟩ := SGW_len h3
      exact ⟨by omega, by omega, by rw [c, h2.2.1]⟩
    · exact SGW_len h
    · exact SGW_len h
    · obtain ⟨a, b', c⟩ := SGW_len h
      rw [cutS_len] at c
      have := cutS_le (b := b) (sc := sc)
      exact ⟨a, by omega, c⟩
    · exact SGW_len h
theorem joi_p {k tk : Nat} (hk : k < 46) (htk : tk ≤ 4000) (cp : CPR nm gd p p2 sc cm m3) : PK (fun v (_ : Unit) => ((gd && decide (k = 43 ∨ k = 44)) = false ∧ Kuc m3 v) ∨ ((gd && decide (k = 43 ∨ k = 44)) = true ∧ v.1 714 < 1000000000 ∧ FRC m3 v)) (hm_Cm_joining N m3 (I (k : Nat)) (I (tk : Nat))) := by
  have d : ∀ j : Nat, j < 46 → decide (I (k : Nat) = I (j : Nat)) = decide (k = j) := fun j hj => I_dn (by omega) (by omega) rfl
  unfold hm_Cm_joining hb_Cm_joining_0 hb_Cm_joining_106
  rw [show (10 : Int32) = I ((10 : Nat) : Int) from rfl, show (18 : Int32) = I ((18 : Nat) : Int) from rfl, show (33 : Int32) = I ((33 : Nat) : Int) from rfl, show (34 : Int32) = I ((34 : Nat) : Int) from rfl, show (35 : Int32) = I ((35 : Nat) : Int) from rfl, show (43 : Int32) = I ((43 : Nat) : Int) from rfl, show (44 : Int32) = I ((44 : Nat) : Int) from rfl, d 10 (by decide), d 18 (by decide), d 33 (by decide), d 34 (by decide), d 35 (by decide), d 43 (by decide), d 44 (by decide)]
  have two : ∀ (x y : Int32) (b : Bool), b = false → PK (fun v (_ : Unit) => (b = false ∧ Kuc m3 v) ∨ (b = true ∧ v.1 714 < 1000000000 ∧ FRC m3 v)) (bnd (hm_Co_put N m3 x) (fun u5 r5 => bnd (hm_Co_put N u5 y) (fun u2 r2 => some (u2, ())))) := fun x y b hb => by
    refine pk_bnd (fun w1 r1 x1 => pk_bnd (fun w2 r2 x2 => pk_some (Or.inl ⟨hb, ?_⟩)))
    exact yu_hm_Co_put (u0 := m3) (yu_hm_Co_put (u0 := m3) Ku_rf w1 r1 x1) w2 r2 x2
  have jn : ∀ (x y : Int32), (k = 43 ∨ k = 44) → PK (fun v (_ : Unit) => ((gd && decide (k = 43 ∨ k = 44)) = false ∧ Kuc m3 v) ∨ ((gd && decide (k = 43 ∨ k = 44)) = true ∧ v.1 714 < 1000000000 ∧ FRC m3 v)) (bnd (hm_Cm_notInGuard N m3 (I (tk : Nat))) (fun u19 r19 => bnd (hm_Co_put N u19 x) (fun u21 r21 => bnd (hm_Co_put N u21 y) (fun u2 r2 => some (u2, ()))))) := fun x y h4 => by
    rw [decide_eq_true h4, Bool.and_true]
    refine pk_bnd (pk_mo (nig_p cp (by omega)) (fun v _ qg => pk_bnd (fun w1 r1 x1 => pk_bnd (fun w2 r2 x2 => pk_some ?_))))
    have f2 := yu_hm_Co_put (u0 := v) (yu_hm_Co_put (u0 := v) Ku_rf w1 r1 x1) w2 r2 x2
    rcases qg with ⟨qg1, qg2⟩ | ⟨qg1, qg2, qg3⟩
    · rw [qg2] at f2
      exact Or.inl ⟨qg1, f2⟩
    · exact Or.inr ⟨qg1, Ku_s qg2 f2, FRC_tr qg3 (FRC_u f2)⟩
  have no : ¬ (k = 43 ∨ k = 44) → (gd && decide (k = 43 ∨ k = 44)) = false := fun h => by rw [decide_eq_false h, Bool.and_false]
  by_cases h10 : k = 10
  · rw [decide_eq_true h10, br_tq]; exact two _ _ _ (no (by omega))
  rw [decide_eq_false h10, br_fq]
  by_cases h18 : k = 18
  · rw [decide_eq_true h18, br_tq]; exact two _ _ _ (no (by omega))
  rw [decide_eq_false h18, br_fq]
  by_cases h33 : k = 33
  · rw [decide_eq_true h33, br_tq]; exact two _ _ _ (no (by omega))
  rw [decide_eq_false h33, br_fq]
  by_cases h34 : k = 34
  · rw [decide_eq_true h34, br_tq]; exact two _ _ _ (no (by omega))
  rw [decide_eq_false h34, br_fq]
  by_cases h35 : k = 35
  · rw [decide_eq_true h35, br_tq]; exact two _ _ _ (no (by omega))
  rw [decide_eq_false h35, br_fq]
  by_cases h43 : k = 43
  · rw [show decide (k = 43) = true from decide_eq_true h43, br_tq]
    exact jn _ _ (Or.inl h43)
  rw [show decide (k = 43) = false from decide_eq_false h43, br_fq]
  by_cases h44 : k = 44
  · rw [show decide (k = 44) = true from decide_eq_true h44, br_tq]
    exact jn _ _ (Or.inr h44)
  rw [show decide (k = 44) = false from decide_eq_false h44, br_fq]
  exact two _ _ _ (no (by omega))
theorem sgw_lp (hl : n2 ≤ 8015) : ∀ {l : List Nat} {am om : Int32} {p p2 : Nat} {sc sc2 : SCT} {X : Nat} {Rf Zf : Bool} {BC : MS → Prop}, SGW N K nm gd m2 lo n2 W l am om p p2 sc sc2 X Rf Zf BC → STB BC → ∀ (d M : Nat) (m3 : MS) (cm : Nat) (ac oc : Int32), (∀ j, lo < j → j ≤ n2 → nod m3 j = nod m2 j ∧ m3.2.2.1 21 j = m2.2.2.1 21 j) → Kcc m2 m3 → CPR nm gd p p2 sc cm m3 → PK (fun m4 (_ : Unit) => CPO K nm p p2 sc sc2 X W Rf Zf BC cm m3 m4) (hg_Cm_signs N (hrc_Cm_fun N d) M m3 ac am oc om (I ((l.headD 0 : Nat) : Int)))
  | _, _, _, _, _, _, _, _, _, _, _, _, _, _, 0, _, _, _, _, _, _, _ => pk_none
  | [], am, om, p, p2, sc, sc2, X, Rf, Zf, BC, ⟨h1, h2, h3, h4, h5, h6⟩, _, d, M + 1, m3, cm, ac, oc, _, _, cp => by
    subst h1
    subst h2
    subst h3
    subst h4
    subst h5
    show PK _ (hb_Cm_signs_13 N (hrc_Cm_fun N d) (hg_Cm_signs N (hrc_Cm_fun N d) M) m3 ac am oc om 0)
    unfold hb_Cm_signs_13
    rw [show decide ((0 : Int32) = 0) = true from rfl, br_tq]
    refine pk_some (CPO_ok ⟨rfl, h6 m3⟩ ?_)
    rw [Nat.max_eq_left (Nat.zero_le cm), wup_0 (fun j h1 h2 => absurd h2 (by omega))]
    exact CPR_0 cp
  | ν :: l, am, om, p, p2, sc, sc2, X, Rf, Zf, BC, ⟨hν, h21, h⟩, sB, d, M + 1, m3, cm, ac, oc, k1, k2, cp => by
    have kx : KPX lo n2 ν m2 m3 := ⟨fun j h0 hj => ⟨(k1 j h0 hj).1, fun _ => (k1 j h0 hj).2⟩, k2⟩
    have en := (k1 ν hν.1 hν.2).1
    have e16 : m3.2.2.1 16 ν = m2.2.2.1 16 ν := (Prod.mk.inj en).1
    have e17 : m3.2.2.1 17 ν = m2.2.2.1 17 ν := (Prod.mk.inj (Prod.mk.inj en).2).1
    have e18 : m3.2.2.1 18 ν = m2.2.2.1 18 ν := (Prod.mk.inj (Prod.mk.inj (Prod.mk.inj en).2).2).1
    have kv : ∀ w, FRC m3 w → (∀ j, lo < j → j ≤ n2 → nod w j = nod m2 j ∧ w.2.2.1 21 j = m2.2.2.1 21 j) ∧ Kcc m2 w := fun w fr => by
      have k1w := KPX_f kx fr
      refine ⟨fun j h0 hj => ⟨(k1w.1 j h0 hj).1, ?_⟩, k1w.2⟩
      rw [fr.2 21 (by omega)]
      exact (k1 j h0 hj).2
    have go : ∀ (w : MS) (ac am oc om : Int32), FRC m3 w → hb_Cm_signs_198 N (hrc_Cm_fun N d) (hg_Cm_signs N (hrc_Cm_fun N d) M) w ac am oc om (I (ν : Nat)) = ck (inb (I (ν : Nat)) 8016) (hg_Cm_signs N (hrc_Cm_fun N d) M w ac am oc om (I ((l.headD 0 : Nat) : Int))) := fun w ac am oc om fr => by
      unfold hb_Cm_signs_198
      rw [tnI (n := ν) rfl (by omega), ((kv w fr).1 ν hν.1 hν.2).2, h21]
    show PK _ (hb_Cm_signs_13 N (hrc_Cm_fun N d) (hg_Cm_signs N (hrc_Cm_fun N d) M) m3 ac am oc om (I (ν : Nat)))
    unfold hb_Cm_signs_13
    rw [decide_eq_false (p := I (ν : Nat) = 0) (fun z => by have := (I_eq (x := (ν : Nat)) (y := 0) (by omega) (by omega) (by omega) (by omega)).mp z; omega), br_fq, tnI (n := ν) rfl (by omega), e16, e18]
    refine pk_ck (fun _ => pk_ck (fun _ => ?_))
    rcases h with ⟨q, q2, sc1, X1, X2, R1, R2, Z1, Z2, B1, B2, h1, g1, ⟨mi, li, ni, k, hE, hx, hni, hk16, hk⟩, h5, h6, h7, h8, h9, h10, h11⟩ | ⟨h24, ⟨h6, h⟩ | ⟨h6, h⟩⟩ | ⟨h23, k, hk18, hk, ⟨hk6, b, e1, t1, hs, hb, hm, h⟩ | ⟨hk6, tk, R2, h17, htk, h, hR⟩⟩
    · subst h7
      subst h8
      subst h9
      obtain ⟨a1, a2, a3⟩ := SGW_len h6
      rw [hk16, I_dn (a := k) (b := 24) (s := 24) (by omega) (by decide) rfl, decide_eq_false (by omega : ¬ k = 24), br_fq]
      unfold hb_Cm_signs_82
      rw [I_dn (a := k) (b := 24) (s := 24) (by omega) (by decide) rfl, decide_eq_false (by omega : ¬ k = 24), br_fq, I_dn (a := k) (b := 23) (s := 23) (by omega) (by decide) rfl, decide_eq_false (by omega : ¬ k = 23), br_fq]
      refine pk_mo (Q := fun u (_ : Unit) => CPO K nm q p2 sc sc2 (max X1 X2) W (R1 || R2) (Z1 || Z2) (fun m => B1 m ∨ B2 m) cm m3 u) ?_ (fun v _ qq => CPO_bc (h10 m3) (CPO_ext ⟨h1.1, by omega, Nat.le_refl _⟩ g1 (fun j y1 y2 => absurd y2 (by omega)) qq))
      refine cpo_bnd (hE d m3 cm 0 (KPX_tr hx kx hni.2 hni.1) (CPR_in cp (by omega))) ⟨h1.2.1, h1.2.2⟩ h11 h5.2.1 (fun v r9 hv => ?_) (fun v r9 hv hn => ?_)
      · obtain ⟨hS0, hS1, hS2, hS3, hS4, hS5, hS6, hS7, hS8, hS9, hS10, hS11, hS12⟩ := yz_hrc_Cm_fun (u0 := v) (N := N) d
        unfold hb_Cm_signs_198
        repeat' (first | with_reducible assumption | with_reducible refine Kz_br ?_ ?_ | with_reducible refine Kz_bnd ?_ (fun _ _ _ => ?_) | with_reducible refine Kz_ck ?_ | with_reducible refine Kz_ltm ?_ (fun _ _ => ?_) | with_reducible refine Kz_some ?_ | with_reducible exact yz_hm_Cm_notInGuard (by assumption) | with_reducible exact yz_hr_Cm_pattern (by assumption) | with_reducible exact yz_hm_Cm_forget (by assumption) | with_reducible exact yz_hm_Co_arrive (by assumption) | with_reducible exact yz_hm_Cm_funOf (by assumption) | with_reducible exact yz_hm_Co_hook (by assumption) | with_reducible exact yz_hm_Co_put (by assumption) | with_reducible exact yz_hm_Cm_term (by assumption) | with_reducible exact yz_hm_Cm_string (by assumption) | with_reducible exact yz_hm_Co_seek (by assumption) | with_reducible exact yz_hm_Cm_predefinedOf (by assumption) | with_reducible exact yz_hm_Cm_fault (by assumption) | with_reducible exact yz_hm_Cm_joining (by assumption) | with_reducible exact yz_hm_Cm_hold (by assumption) | with_reducible exact yz_hm_Co_set (by assumption) | with_reducible exact yz_hm_Tr_length (by assumption) | with_reducible exact hS0 _ _ (by assumption) | with_reducible exact hS1 _ _ _ (by assumption) | with_reducible exact hS2 _ _ _ _ _ (by assumption) | with_reducible exact hS3 _ _ _ (by assumption) | with_reducible exact hS4 _ _ _ (by assumption) | with_reducible exact hS5 _ _ _ (by assumption) | with_reducible exact hS6 _ _ _ (by assumption) | with_reducible exact hS7 _ _ (by assumption) | with_reducible exact hS8 _ _ (by assumption) | with_reducible exact hS9 _ _ (by assumption) | with_reducible exact hS10 _ _ _ (by assumption) | with_reducible exact hS11 _ _ _ (by assumption) | with_reducible exact hS12 _ _ _ _ (by assumption) | with_reducible exact yz_hg_Cm_apply hS0 hS1 hS2 hS3 hS4 hS5 hS6 hS7 hS8 hS9 hS10 hS11 hS12 _ _ _ _ _ (by assumption) | with_reducible exact yz_hg_Cm_row hS0 hS1 hS2 hS3 hS4 hS5 hS6 hS7 hS8 hS9 hS10 hS11 hS12 _ _ _ (by assumption) | with_reducible exact yz_hg_Cm_signs hS0 hS1 hS2 hS3 hS4 hS5 hS6 hS7 hS8 hS9 hS10 hS11 hS12 _ _ _ _ _ _ _ (by assumption) | with_reducible exact yz_hg_Cm_body hS0 hS1 hS2 hS3 hS4 hS5 hS6 hS7 hS8 hS9 hS10 hS11 hS12 _ _ _ _ (by assumption) | with_reducible exact yz_hg_Cm_parts hS0 hS1 hS2 hS3 hS4 hS5 hS6 hS7 hS8 hS9 hS10 hS11 hS12 _ _ _ _ _ _ _ (by assumption) | with_reducible exact (yz_hg_Cm_tries hS0 hS1 hS2 hS3 hS4 hS5 hS6 hS7 hS8 hS9 hS10 hS11 hS12 _).1 _ _ _ _ _ (by assumption) | with_reducible exact (yz_hg_Cm_tries hS0 hS1 hS2 hS3 hS4 hS5 hS6 hS7 hS8 hS9 hS10 hS11 hS12 _).2 _ _ _ _ (by assumption) | with_reducible refine Kz_ltv (fun _ => ?_) | with_reducible refine Kz_I ?_ (by decide) | with_reducible refine Kz_A ?_ (by decide))
      · have fr := hn.2.2.2.2.2.2.2.2
        rw [go v _ _ _ _ fr]
        have kk := kv v fr
        exact pk_ck (fun _ => sgw_lp hl h6 h11 d M v (max cm X1) ac oc kk.1 kk.2 (CPR_2 (p := q) (p2 := p2) (q := q2) (CPR_in cp (by omega)) hn h5.2.1 h5.2.2 (by have := cp.2.2.2.2.2.2; omega)))
    · rw [h24, h6, show decide (I ((24 : Nat) : Int) = 24) = true from rfl, br_tq, show decide (I ((6 : Nat) : Int) = 6) = true from rfl, br_tq]
      refine pk_bnd (fun w1 r1 x1 => pk_bnd (fun w2 r2 x2 => ?_))
      have f2 := yu_hm_Co_hook (u0 := m3) (yu_hm_Co_put (u0 := m3) Ku_rf w1 r1 x1) w2 r2 x2
      show PK _ (hb_Cm_signs_198 N _ _ w2 _ _ _ _ _)
      rw [go w2 _ _ _ _ (FRC_u f2), f2.1 706 (by decide), cp.2.1.2.2.1]
      have kk := kv w2 (FRC_u f2)
      exact pk_ck (fun _ => pk_mo (sgw_lp hl h sB d M w2 cm _ _ kk.1 kk.2 (CPR_u cp f2)) (fun u _ z => CPO_v f2 sB z))
    · rw [h24, h6, show decide (I ((24 : Nat) : Int) = 24) = true from rfl, br_tq, show decide (I ((16 : Nat) : Int) = 6) = false from rfl, br_fq]
      unfold hb_Cm_signs_82
      rw [show decide (I ((24 : Nat) : Int) = 24) = true from rfl, br_tq]
      refine pk_bnd (fun w1 r1 x1 => pk_bnd (fun w2 r2 x2 => ?_))
      have f2 := yu_hm_Co_hook (u0 := m3) (yu_hm_Co_put (u0 := m3) Ku_rf w1 r1 x1) w2 r2 x2
      show PK _ (hb_Cm_signs_198 N _ _ w2 _ _ _ _ _)
      rw [go w2 _ _ _ _ (FRC_u f2), f2.1 706 (by decide), cp.2.1.2.2.1]
      have kk := kv w2 (FRC_u f2)
      exact pk_ck (fun _ => pk_mo (sgw_lp hl h sB d M w2 cm _ _ kk.1 kk.2 (CPR_u cp f2)) (fun u _ z => CPO_v f2 sB z))
    · subst hs
      rw [h23, show decide (I ((23 : Nat) : Int) = 24) = false from rfl, br_fq]
      unfold hb_Cm_signs_82
      rw [show decide (I ((23 : Nat) : Int) = 24) = false from rfl, br_fq, show decide (I ((23 : Nat) : Int) = 23) = true from rfl, br_tq, hk18]
      have key : ∀ (ch mk : Int32), mk = I ((tot t1 + b : Nat) : Int) → PK (fun m4 (_ : Unit) => CPO K nm p p2 (e1 :: t1) sc2 X W Rf Zf BC cm m3 m4) (bnd (hm_Cm_forget N m3 mk) (fun u16 r16 => bnd (hm_Co_arrive N u16 ch) (fun u18 r18 => hb_Cm_signs_198 N (hrc_Cm_fun N d) (hg_Cm_signs N (hrc_Cm_fun N d) M) u18 ac am oc om (I (ν : Nat))))) := fun ch mk hmk => by
        refine pk_bnd (pk_mo fgt_v (fun w1 _ qw => ?_))
        obtain ⟨w0, kw, rfl⟩ := qw
        have cp4 := CPR_cut (mk := mk) cp kw hb hmk
        obtain ⟨z1, z2, z3, z4, z5⟩ := fgt_b (mk := mk) kw
        generalize upI w0 706 mk = w1 at cp4 z1 z2 z3 z4 z5
        refine pk_bnd (fun w2 r2 x2 => ?_)
        have f2 := yu_hm_Co_arrive (u0 := w1) Ku_rf w2 r2 x2
        have fr2 := FRC_tr z4 (FRC_u f2)
        show PK _ (hb_Cm_signs_198 N _ _ w2 _ _ _ _ _)
        rw [go w2 _ _ _ _ fr2]
        have kk := kv w2 fr2
        exact pk_ck (fun _ => pk_mo (sgw_lp hl h sB d M w2 cm _ _ kk.1 kk.2 (CPR_u cp4 f2)) (fun u _ z => CPO_b cutS_len z1 z2 z3 z4 z5 sB (CPO_v f2 sB z)))
      rcases hk6 with rfl | rfl
      · rw [show decide (I ((6 : Nat) : Int) = 6) = true from rfl, br_tq]
        exact key _ _ hm
      · rw [show decide (I ((16 : Nat) : Int) = 6) = false from rfl, br_fq, show decide (I ((16 : Nat) : Int) = 16) = true from rfl, br_tq]
        exact key _ _ hm
    · subst hR
      rw [h23, show decide (I ((23 : Nat) : Int) = 24) = false from rfl, br_fq]
      unfold hb_Cm_signs_82
      rw [show decide (I ((23 : Nat) : Int) = 24) = false from rfl, br_fq, show decide (I ((23 : Nat) : Int) = 23) = true from rfl, br_tq, hk18, I_dn (a := k) (b := 6) (s := 6) (by omega) (by decide) rfl, decide_eq_false hk6.1, br_fq, I_dn (a := k) (b := 16) (s := 16) (by omega) (by decide) rfl, decide_eq_false hk6.2, br_fq, tnI (n := ν) rfl (by omega), e17, h17]
      refine pk_ck (fun _ => pk_bnd (pk_mo (joi_p hk htk cp) (fun v _ qv => ?_)))
      rcases qv with ⟨qv1, f2⟩ | ⟨qv1, qv2, qv3⟩
      · rw [go v _ _ _ _ (FRC_u f2), qv1, Bool.false_or]
        have kk := kv v (FRC_u f2)
        exact pk_ck (fun _ => pk_mo (sgw_lp hl h sB d M v cm _ _ kk.1 kk.2 (CPR_u cp f2)) (fun u _ z => CPO_v f2 sB z))
      · refine pk_mo (Q := fun w (_ : Unit) => Kzc v w) ?_ (fun w _ z => CPO_z (v := v) ⟨Or.inl (by rw [qv1]; rfl), qv2, qv3⟩ z)
        intro w r x
        have hv : Kzc v v := ⟨qv2, FRC_rf⟩
        refine (?_ : KzE v _) w r x
        obtain ⟨hS0, hS1, hS2, hS3, hS4, hS5, hS6, hS7, hS8, hS9, hS10, hS11, hS12⟩ := yz_hrc_Cm_fun (u0 := v) (N := N) d
        unfold hb_Cm_signs_198
        repeat' (first | with_reducible assumption | with_reducible refine Kz_br ?_ ?_ | with_reducible refine Kz_bnd ?_ (fun _ _ _ => ?_) | with_reducible refine Kz_ck ?_ | with_reducible refine Kz_ltm ?_ (fun _ _ => ?_) | with_reducible refine Kz_some ?_ | with_reducible exact yz_hm_Cm_notInGuard (by assumption) | with_reducible exact yz_hr_Cm_pattern (by assumption) | with_reducible exact yz_hm_Cm_forget (by assumption) | with_reducible exact yz_hm_Co_arrive (by assumption) | with_reducible exact yz_hm_Cm_funOf (by assumption) | with_reducible exact yz_hm_Co_hook (by assumption) | with_reducible exact yz_hm_Co_put (by assumption) | with_reducible exact yz_hm_Cm_term (by assumption) | with_reducible exact yz_hm_Cm_string (by assumption) | with_reducible exact yz_hm_Co_seek (by assumption) | with_reducible exact yz_hm_Cm_predefinedOf (by assumption) | with_reducible exact yz_hm_Cm_fault (by assumption) | with_reducible exact yz_hm_Cm_joining (by assumption) | with_reducible exact yz_hm_Cm_hold (by assumption) | with_reducible exact yz_hm_Co_set (by assumption) | with_reducible exact yz_hm_Tr_length (by assumption) | with_reducible exact hS0 _ _ (by assumption) | with_reducible exact hS1 _ _ _ (by assumption) | with_reducible exact hS2 _ _ _ _ _ (by assumption) | with_reducible exact hS3 _ _ _ (by assumption) | with_reducible exact hS4 _ _ _ (by assumption) | with_reducible exact hS5 _ _ _ (by assumption) | with_reducible exact hS6 _ _ _ (by assumption) | with_reducible exact hS7 _ _ (by assumption) | with_reducible exact hS8 _ _ (by assumption) | with_reducible exact hS9 _ _ (by assumption) | with_reducible exact hS10 _ _ _ (by assumption) | with_reducible exact hS11 _ _ _ (by assumption) | with_reducible exact hS12 _ _ _ _ (by assumption) | with_reducible exact yz_hg_Cm_apply hS0 hS1 hS2 hS3 hS4 hS5 hS6 hS7 hS8 hS9 hS10 hS11 hS12 _ _ _ _ _ (by assumption) | with_reducible exact yz_hg_Cm_row hS0 hS1 hS2 hS3 hS4 hS5 hS6 hS7 hS8 hS9 hS10 hS11 hS12 _ _ _ (by assumption) | with_reducible exact yz_hg_Cm_signs hS0 hS1 hS2 hS3 hS4 hS5 hS6 hS7 hS8 hS9 hS10 hS11 hS12 _ _ _ _ _ _ _ (by assumption) | with_reducible exact yz_hg_Cm_body hS0 hS1 hS2 hS3 hS4 hS5 hS6 hS7 hS8 hS9 hS10 hS11 hS12 _ _ _ _ (by assumption) | with_reducible exact yz_hg_Cm_parts hS0 hS1 hS2 hS3 hS4 hS5 hS6 hS7 hS8 hS9 hS10 hS11 hS12 _ _ _ _ _ _ _ (by assumption) | with_reducible exact (yz_hg_Cm_tries hS0 hS1 hS2 hS3 hS4 hS5 hS6 hS7 hS8 hS9 hS10 hS11 hS12 _).1 _ _ _ _ _ (by assumption) | with_reducible exact (yz_hg_Cm_tries hS0 hS1 hS2 hS3 hS4 hS5 hS6 hS7 hS8 hS9 hS10 hS11 hS12 _).2 _ _ _ _ (by assumption) | with_reducible refine Kz_ltv (fun _ => ?_) | with_reducible refine Kz_I ?_ (by decide) | with_reducible refine Kz_A ?_ (by decide))
theorem exn_sig {am om : Int32} (hn : nod m2 ν = (I ((22 : Nat) : Int), a, I ((l.headD 0 : Nat) : Int), c, e)) (hlo : lo < ν) (hν : ν ≤ n2) (hl : n2 ≤ 8015) (hq : p ≤ q ∧ q ≤ q2 ∧ q2 ≤ p2) (g1 : ∀ j, p ≤ j → j < q → K j ≠ 3) (g2 : ∀ j, q2 ≤ j → j < p2 → K j ≠ 3) (h : SGW N K nm gd m1 lo n1 W l 0 0 q q2 sc sc2 X Rf Zf BC) (sB : STB BC) (h1 : KPO n1 m1 m2) (hk : Kcc m1 m2) (hn1 : n1 < ν) : EXN N K nm gd m2 lo n2 ν p p2 sc sc2 X W Rf Zf BC := by
  intro d m3 cm last kx cp
  cases d with
  | zero => exact pk_none
  | succ d =>
    have e0 := KPX_nod kx hlo hν
    rw [hn] at e0
    have e1 : m3.2.2.1 16 ν = I ((22 : Nat) : Int) := (Prod.mk.inj e0).1
    have e3 : m3.2.2.1 18 ν = I ((l.headD 0 : Nat) : Int) := (Prod.mk.inj (Prod.mk.inj (Prod.mk.inj e0).2).2).1
    show PK _ (hm_Cm_expression N (hrc_Cm_fun N d) m3 (I (ν : Nat)) last)
    unfold hm_Cm_expression hb_Cm_expression_0 hb_Cm_expression_359
    rw [tnI (n := ν) rfl (by omega), e1, e3]
    refine pk_ck (fun _ => pk_ck (fun _ => ?_))
    rw [show decide (I ((22 : Nat) : Int) = 1) = false from rfl, br_fq, show decide (I ((22 : Nat) : Int) = 2) = false from rfl, br_fq, show decide (I ((22 : Nat) : Int) = 3) = false from rfl, br_fq, show decide (I ((22 : Nat) : Int) = 4) = false from rfl, br_fq, show decide (I ((22 : Nat) : Int) = 5) = false from rfl, br_fq, show decide (I ((22 : Nat) : Int) = 6) = false from rfl, br_fq, show decide (I ((22 : Nat) : Int) = 7) = false from rfl, br_fq, show decide (I ((22 : Nat) : Int) = 8) = false from rfl, br_fq, show decide (I ((22 : Nat) : Int) = 9) = false from rfl, br_fq, show decide (I ((22 : Nat) : Int) = 10) = false from rfl, br_fq, show decide (I ((22 : Nat) : Int) = 11) = false from rfl, br_fq, show decide (I ((22 : Nat) : Int) = 12) = false from rfl, br_fq, show decide (I ((22 : Nat) : Int) = 13) = false from rfl, br_fq, show decide (I ((22 : Nat) : Int) = 14) = false from rfl, br_fq, show decide (I ((22 : Nat) : Int) = 15) = false from rfl, br_fq, show decide (I ((22 : Nat) : Int) = 16) = false from rfl, br_fq, show decide (I ((22 : Nat) : Int) = 17) = false from rfl, br_fq, show decide (I ((22 : Nat) : Int) = 18) = false from rfl, br_fq, show decide (I ((22 : Nat) : Int) = 19) = false from rfl, br_fq, show decide (I ((22 : Nat) : Int) = 20) = false from rfl, br_fq, show decide (I ((22 : Nat) : Int) = 21) = false from rfl, br_fq, show decide (I ((22 : Nat) : Int) = 22) = true from rfl, br_tq]
    refine pk_ck (fun _ => ?_)
    cases d with
    | zero => exact pk_none
    | succ d =>
      have kk := chi_k h1 hk hn1 hν kx
      exact pk_bnd (pk_mo (sgw_lp (by omega) h sB d N m3 cm 0 0 kk.1 kk.2 (CPR_in cp (by omega))) (fun v _ q => pk_some (CPO_ext hq g1 g2 q)))
end
