set_option maxRecDepth 100000
def cutS (b : Nat) : SCT → SCT
  | [] => []
  | e :: t => (e.1.take b, e.2) :: t
section
variable {m v u m1 m2 m3 : MS} {K nm W : Nat → Nat} {sc sc1 sc2 sc3 t t2 : SCT} {e0 e2 : List Nat × List Nat × Nat} {s x y N i f tok cm cm2 p p2 q q2 q3 q4 n1 n2 n3 ν μ lo li X X1 X2 k : Nat} {gd Zf Rf R1 R2 Z1 Z2 : Bool} {g : Nat → Int32} {B1 B2 BC : MS → Prop} {a b c e f : Int32} {l : List Nat}
theorem cutS_len {b : Nat} : (cutS b sc).length = sc.length := by cases sc <;> rfl
theorem cutS_tot {b : Nat} (hb : b ≤ e2.1.length) : tot (cutS b (e2 :: t2)) = tot t2 + b := by
  show tot t2 + (e2.1.take b).length = _
  rw [List.length_take]
  omega
theorem cutS_le {b : Nat} : tot (cutS b sc) ≤ tot sc := by
  cases sc with
  | nil => exact Nat.le_refl _
  | cons e t =>
    show tot t + (e.1.take b).length ≤ tot t + e.1.length
    rw [List.length_take]
    omega
theorem fgt_v {mk : Int32} : PK (fun u (_ : Unit) => ∃ w, Kuc v w ∧ u = upI w 706 mk) (hm_Cm_forget N v mk) := by
  unfold hm_Cm_forget hb_Cm_forget_0 hb_Cm_forget_30
  refine pk_br (fun _ => pk_lt (pk_some ⟨v, Ku_rf, rfl⟩)) (fun _ => pk_bnd (fun w1 r1 x1 => pk_bnd (fun w2 r2 x2 => pk_lt (pk_some ⟨w2, ?_, rfl⟩))))
  exact yu_hm_Co_put (u0 := v) (yu_hm_Co_put (u0 := v) Ku_rf w1 r1 x1) w2 r2 x2
theorem NPE_cut {b : Nat} {mk : Int32} (h : NPE nm s (e2 :: t2) cm g Zf m v) (hb : b ≤ e2.1.length) (hm : mk = I ((tot t2 + b : Nat) : Int)) : NPE nm s (cutS b (e2 :: t2)) cm g Zf m (upI v 706 mk) := by
  obtain ⟨⟨c1, c2, c3, c4, c5⟩, a2, a3, a4, a5, a6, a7, a8, a9⟩ := h
  refine ⟨⟨by rw [cutS_len, upI_ne (by decide)]; exact c1, by rw [cutS_len]; exact c2, by rw [cutS_tot hb, upI_at]; exact hm, by have := cutS_le (b := b) (sc := e2 :: t2); omega, ?_⟩, a2, a3, a4, C11_e a5 (upI_ne (by decide)) (upI_ne (by decide)), by rw [upI_ne (by decide)]; exact a6, by rw [upI_ne (by decide)]; exact a7, by rw [upI_ne (by decide)]; exact a8, ⟨fun k hk => by rw [upI_ne (by omega)]; exact a9.1 k hk, a9.2⟩⟩
  have c5 : CNl v nm (e2 :: t2) := c5
  refine ⟨c5.1, fun k x hx => c5.2.1 k x ?_, CNl_fr c5.2.2 rfl (fun j _ => rfl)⟩
  rw [List.getElem?_take] at hx
  split at hx
  · exact hx
  · cases hx
theorem cpo_fgt {b : Nat} {mk : Int32} (h : CPO K nm p p2 sc (e2 :: t2) X W Rf Zf BC cm m v) (hb : b ≤ e2.1.length) (hm : mk = I ((tot t2 + b : Nat) : Int)) : PK (fun u (_ : Unit) => CPO K nm p p2 sc (cutS b (e2 :: t2)) X W Rf Zf BC cm m u) (hm_Cm_forget N v mk) := by
  refine pk_mo fgt_v (fun u _ q => ?_)
  obtain ⟨w, kw, rfl⟩ := q
  rcases CPO_u h kw with ⟨h1, h2, h3⟩ | ⟨h1, h2⟩
  · exact Or.inl ⟨h1, by rw [upI_ne (by decide)]; exact h2, ⟨fun k hk => by rw [upI_ne (by omega)]; exact h3.1 k hk, h3.2⟩⟩
  · exact Or.inr ⟨h1, NPE_cut h2 hb hm⟩
theorem cut_mk (h : SCX (e0 :: t) (e2 :: t2) X) : e0.1.length ≤ e2.1.length ∧ tot t2 + e0.1.length = tot (e0 :: t) := by
  have h2 := (BDs_len h.2.2).2
  refine ⟨h.1.length_le, ?_⟩
  show tot t2 + _ = tot t + _
  omega
theorem bod_lp (hl : n2 ≤ 8015) : ∀ {l : List Nat} {p p2 : Nat} {sc sc2 : SCT} {X : Nat} {Rf Zf : Bool} {BC : MS → Prop}, ERW N K nm gd m2 lo n2 W l p p2 sc sc2 X Rf Zf BC → ∀ (d M : Nat) (m3 : MS) (cm : Nat) (last : Int32), (∀ j, lo < j → j ≤ n2 → nod m3 j = nod m2 j ∧ m3.2.2.1 21 j = m2.2.2.1 21 j) → Kcc m2 m3 → CPR nm gd p p2 sc cm m3 → PK (fun m4 (_ : Unit) => CPO K nm p p2 sc sc2 X W Rf Zf BC cm m3 m4) (hg_Cm_body N (hrc_Cm_fun N d) M m3 last (I ((l.headD 0 : Nat) : Int)))
  | _, _, _, _, _, _, _, _, _, _, _, 0, _, _, _, _, _, _ => pk_none
  | [], p, p2, sc, sc2, X, Rf, Zf, BC, ⟨h1, h2, h3, h4, h5, h6⟩, d, M + 1, m3, cm, last, _, _, cp => by
    subst h1
    subst h2
    subst h3
    subst h4
    subst h5
    show PK _ (hb_Cm_body_2 N (hrc_Cm_fun N d) (hg_Cm_body N (hrc_Cm_fun N d) M) m3 last 0)
    unfold hb_Cm_body_2
    rw [show decide ((0 : Int32) = 0) = true from rfl, br_tq]
    refine pk_some (CPO_ok ⟨rfl, h6 m3⟩ ?_)
    rw [Nat.max_eq_left (Nat.zero_le cm), wup_0 (fun j h1 h2 => absurd h2 (by omega))]
    exact CPR_0 cp
  | ν :: l, p, p2, sc, sc2, X, Rf, Zf, BC, ⟨q, q2, sc1, X1, X2, R1, R2, Z1, Z2, B1, B2, h1, g1, ⟨mi, li, ni, h2, hx, hni, hli, _⟩, h3, h4, h5, h6, h7, h8, h9, h10, h11⟩, d, M + 1, m3, cm, last, k1, k2, cp => by
    subst h7
    subst h8
    subst h9
    obtain ⟨a1, a2, a3⟩ := ERW_len h6
    show PK _ (hb_Cm_body_2 N (hrc_Cm_fun N d) (hg_Cm_body N (hrc_Cm_fun N d) M) m3 last (I (ν : Nat)))
    unfold hb_Cm_body_2 hb_Cm_body_23 hb_Cm_body_40
    rw [decide_eq_false (p := I (ν : Nat) = 0) (fun z => by have := (I_eq (x := (ν : Nat)) (y := 0) (by omega) (by omega) (by omega) (by omega)).mp z; omega), br_fq]
    have kx : KPX lo n2 ν m2 m3 := ⟨fun j h0 hj => ⟨(k1 j h0 hj).1, fun _ => (k1 j h0 hj).2⟩, k2⟩
    have cp1 : CPR nm gd q q2 sc cm m3 := CPR_in cp (by omega)
    have m41 : ∀ v4 t2 : Int32, PK (fun m4 (_ : Unit) => CPO K nm p p2 sc sc2 (max X1 X2) W (R1 || R2) (Z1 || Z2) BC cm m3 m4) (hb_Cm_body_41 N (hrc_Cm_fun N d) (hg_Cm_body N (hrc_Cm_fun N d) M) m3 last (I (ν : Nat)) v4 (I (ν : Nat)) t2) := fun v4 t2 => by
      unfold hb_Cm_body_41
      refine pk_mo (Q := fun u (_ : Unit) => CPO K nm q p2 sc sc2 (max X1 X2) W (R1 || R2) (Z1 || Z2) (fun m => B1 m ∨ B2 m) cm m3 u) ?_ (fun v _ qq => CPO_bc (h10 m3) (CPO_ext ⟨h1.1, by omega, Nat.le_refl _⟩ g1 (fun j y1 y2 => absurd y2 (by omega)) qq))
      refine cpo_bnd (h2 d m3 cm t2 (KPX_tr hx kx hni.2 hni.1) cp1) ⟨h1.2.1, h1.2.2⟩ h11 h5.2.1 (fun v r9 hv => ?_) (fun v r9 hv hn => ?_)
      · obtain ⟨hS0, hS1, hS2, hS3, hS4, hS5, hS6, hS7, hS8, hS9, hS10, hS11, hS12⟩ := yz_hrc_Cm_fun (u0 := v) (N := N) d
        unfold hb_Cm_body_58
        repeat' (first | with_reducible assumption | with_reducible refine Kz_br ?_ ?_ | with_reducible refine Kz_bnd ?_ (fun _ _ _ => ?_) | with_reducible refine Kz_ck ?_ | with_reducible refine Kz_ltm ?_ (fun _ _ => ?_) | with_reducible refine Kz_some ?_ | with_reducible exact yz_hm_Cm_notInGuard (by assumption) | with_reducible exact yz_hr_Cm_pattern (by assumption) | with_reducible exact yz_hm_Cm_forget (by assumption) | with_reducible exact yz_hm_Co_arrive (by assumption) | with_reducible exact yz_hm_Cm_funOf (by assumption) | with_reducible exact yz_hm_Co_hook (by assumption) | with_reducible exact yz_hm_Co_put (by assumption) | with_reducible exact yz_hm_Cm_term (by assumption) | with_reducible exact yz_hm_Cm_string (by assumption) | with_reducible exact yz_hm_Co_seek (by assumption) | with_reducible exact yz_hm_Cm_predefinedOf (by assumption) | with_reducible exact yz_hm_Cm_fault (by assumption) | with_reducible exact yz_hm_Cm_joining (by assumption) | with_reducible exact yz_hm_Cm_hold (by assumption) | with_reducible exact yz_hm_Co_set (by assumption) | with_reducible exact yz_hm_Tr_length (by assumption) | with_reducible exact hS0 _ _ (by assumption) | with_reducible exact hS1 _ _ _ (by assumption) | with_reducible exact hS2 _ _ _ _ _ (by assumption) | with_reducible exact hS3 _ _ _ (by assumption) | with_reducible exact hS4 _ _ _ (by assumption) | with_reducible exact hS5 _ _ _ (by assumption) | with_reducible exact hS6 _ _ _ (by assumption) | with_reducible exact hS7 _ _ (by assumption) | with_reducible exact hS8 _ _ (by assumption) | with_reducible exact hS9 _ _ (by assumption) | with_reducible exact hS10 _ _ _ (by assumption) | with_reducible exact hS11 _ _ _ (by assumption) | with_reducible exact hS12 _ _ _ _ (by assumption) | with_reducible exact yz_hg_Cm_apply hS0 hS1 hS2 hS3 hS4 hS5 hS6 hS7 hS8 hS9 hS10 hS11 hS12 _ _ _ _ _ (by assumption) | with_reducible exact yz_hg_Cm_row hS0 hS1 hS2 hS3 hS4 hS5 hS6 hS7 hS8 hS9 hS10 hS11 hS12 _ _ _ (by assumption) | with_reducible exact yz_hg_Cm_signs hS0 hS1 hS2 hS3 hS4 hS5 hS6 hS7 hS8 hS9 hS10 hS11 hS12 _ _ _ _ _ _ _ (by assumption) | with_reducible exact yz_hg_Cm_body hS0 hS1 hS2 hS3 hS4 hS5 hS6 hS7 hS8 hS9 hS10 hS11 hS12 _ _ _ _ (by assumption) | with_reducible exact yz_hg_Cm_parts hS0 hS1 hS2 hS3 hS4 hS5 hS6 hS7 hS8 hS9 hS10 hS11 hS12 _ _ _ _ _ _ _ (by assumption) | with_reducible exact (yz_hg_Cm_tries hS0 hS1 hS2 hS3 hS4 hS5 hS6 hS7 hS8 hS9 hS10 hS11 hS12 _).1 _ _ _ _ _ (by assumption) | with_reducible exact (yz_hg_Cm_tries hS0 hS1 hS2 hS3 hS4 hS5 hS6 hS7 hS8 hS9 hS10 hS11 hS12 _).2 _ _ _ _ (by assumption) | with_reducible refine Kz_ltv (fun _ => ?_) | with_reducible refine Kz_I ?_ (by decide) | with_reducible refine Kz_A ?_ (by decide))
      · have fr := hn.2.2.2.2.2.2.2.2
        have m58 : ∀ w, Kuc v w → PK (fun u (_ : Unit) => CPO K nm q2 p2 sc1 sc2 X2 W R2 Z2 B2 (max cm X1) v u) (hb_Cm_body_58 N (hrc_Cm_fun N d) (hg_Cm_body N (hrc_Cm_fun N d) M) w last (I (ν : Nat))) := fun w f3 => by
          have fr3 := FRC_tr fr (FRC_u f3)
          have k1w := KPX_f kx fr3
          have k1v : ∀ j, lo < j → j ≤ n2 → nod w j = nod m2 j ∧ w.2.2.1 21 j = m2.2.2.1 21 j := fun j h0 hj => by
            refine ⟨(k1w.1 j h0 hj).1, ?_⟩
            rw [fr3.2 21 (by omega)]
            exact (k1 j h0 hj).2
          unfold hb_Cm_body_58
          refine pk_ck (fun _ => ?_)
          rw [tnI (n := ν) rfl (by omega), (k1v ν (by omega) h3.2).2, h4]
          have cp2 : CPR nm gd q2 p2 sc1 (max cm X1) w := CPR_u (CPR_2 (p := q) (p2 := p2) (q := q2) (CPR_in cp (by omega)) hn h5.2.1 h5.2.2 (by have := cp.2.2.2.2.2.2; omega)) f3
          exact pk_mo (bod_lp hl h6 d M w (max cm X1) last k1v k1w.2 cp2) (fun u _ z => CPO_v f3 h11 z)
        exact pk_br (fun _ => m58 v Ku_rf) (fun _ => pk_bnd (fun w1 r1 x1 => m58 w1 (yu_hm_Co_put (u0 := v) Ku_rf w1 r1 x1)))
    refine pk_ck (fun _ => pk_br (fun _ => ?_) (fun _ => ?_))
    · exact pk_br (fun _ => m41 _ _) (fun _ => pk_br (fun _ => m41 _ _) (fun _ => m41 _ _))
    · exact pk_br (fun _ => m41 _ _) (fun _ => pk_br (fun _ => m41 _ _) (fun _ => m41 _ _))
theorem bod_S (h : ERW N K nm gd m1 lo n1 W l p p2 sc sc2 X Rf Zf BC) (hl : n1 ≤ 8015) (kx : (∀ j, lo < j → j ≤ n1 → nod m3 j = nod m1 j ∧ m3.2.2.1 21 j = m1.2.2.1 21 j) ∧ Kcc m1 m3) (d : Nat) {last : Int32} (cp : CPR nm gd p p2 sc cm m3) : PK (fun m4 (_ : Unit) => CPO K nm p p2 sc sc2 X W Rf Zf BC cm m3 m4) ((hrc_Cm_fun N d).2.2.2.1 m3 (I ((l.headD 0 : Nat) : Int)) last) := by
  cases d with
  | zero => exact pk_none
  | succ d => exact bod_lp hl h d N m3 cm last kx.1 kx.2 cp
theorem exn_blk (hn : nod m2 ν = (I ((8 : Nat) : Int), I (tok : Nat), I ((l.headD 0 : Nat) : Int), c, e)) (htk : tok ≤ 4000) (hlo : lo < ν) (hν : ν ≤ n2) (hl : n2 ≤ 8015) (hq : p ≤ q ∧ q ≤ q2 ∧ q2 ≤ p2) (g1 : ∀ j, p ≤ j → j < q → K j ≠ 3) (g2 : ∀ j, q2 ≤ j → j < p2 → K j ≠ 3) (h : ERW N K nm false m1 lo n1 W l q q2 (e0 :: t) (e2 :: t2) X Rf Zf BC) (h1 : KPO n1 m1 m2) (hk : Kcc m1 m2) (hn1 : n1 < ν) (hs : SCX (e0 :: t) (e2 :: t2) X) : EXN N K nm gd m2 lo n2 ν p p2 (e0 :: t) (cutS e0.1.length (e2 :: t2)) X W (gd || Rf) Zf BC := by
  refine exn_cmp (k := 8) (by unfold CMK; omega) ⟨by decide, by decide⟩ hn htk hlo hν hl (fun _ d m3 cm last kx cp ee => ?_)
  unfold cmpR hb_Cm_compound_455
  rw [tnI (n := ν) rfl (by omega), ee.1, ee.2.2.1]
  refine pk_ck (fun _ => ?_)
  rw [show decide (I ((8 : Nat) : Int) = 8) = true from rfl, br_tq]
  refine pk_ck (fun _ => pk_bnd (pk_mo (bod_S h (by omega) (chi_k h1 hk hn1 hν kx) d (CPR_in cp (by omega))) (fun v _ q => ?_)))
  obtain ⟨z1, z2⟩ := cut_mk hs
  exact pk_bnd (pk_mo (cpo_fgt (CPO_ext hq g1 g2 q) z1 (by rw [z2]; exact cp.2.1.2.2.1)) (fun w _ x => pk_some x))
theorem exn_cat (hn : nod m2 ν = (I ((19 : Nat) : Int), I (tok : Nat), I (μ : Nat), c, e)) (htk : tok ≤ 4000) (hlo : lo < ν) (hν : ν ≤ n2) (hl : n2 ≤ 8015) (hq : p ≤ q ∧ q ≤ q2 ∧ q2 ≤ p2) (g1 : ∀ j, p ≤ j → j < q → K j ≠ 3) (g2 : ∀ j, q2 ≤ j → j < p2 → K j ≠ 3) (h : EXN N K nm false m1 li n1 μ q q2 (e0 :: t) (e2 :: t2) X W Rf Zf BC) (hli : lo ≤ li) (h1 : KPO n1 m1 m2) (hk : Kcc m1 m2) (hn1 : n1 < ν) (hs : SCX (e0 :: t) (e2 :: t2) X) (sB : STB BC) : EXN N K nm gd m2 lo n2 ν p p2 (e0 :: t) (cutS e0.1.length (e2 :: t2)) X W (gd || Rf) Zf BC := by
  refine exn_cmp (k := 19) (by unfold CMK; omega) ⟨by decide, by decide⟩ hn htk hlo hν hl (fun _ d m3 cm last kx cp ee => ?_)
  unfold cmpR hb_Cm_compound_455
  rw [tnI (n := ν) rfl (by omega), ee.1]
  refine pk_ck (fun _ => ?_)
  rw [show decide (I ((19 : Nat) : Int) = 8) = false from rfl, br_fq, show decide (I ((19 : Nat) : Int) = 9) = false from rfl, br_fq, show decide (I ((19 : Nat) : Int) = 10) = false from rfl, br_fq, show decide (I ((19 : Nat) : Int) = 11) = false from rfl, br_fq, show decide (I ((19 : Nat) : Int) = 12) = false from rfl, br_fq, show decide (I ((19 : Nat) : Int) = 13) = false from rfl, br_fq, show decide (I ((19 : Nat) : Int) = 14) = false from rfl, br_fq, show decide (I ((19 : Nat) : Int) = 15) = false from rfl, br_fq, show decide (I ((19 : Nat) : Int) = 16) = false from rfl, br_fq, show decide (I ((19 : Nat) : Int) = 17) = false from rfl, br_fq, show decide (I ((19 : Nat) : Int) = 18) = false from rfl, br_fq, show decide (I ((19 : Nat) : Int) = 19) = true from rfl, br_tq]
  refine pk_bnd (fun w1 r1 x1 => pk_bnd (fun w2 r2 x2 => pk_ck (fun _ => ?_)))
  have f1 := yu_hm_Co_put (u0 := m3) Ku_rf w1 r1 x1
  have f2 := yu_hm_Co_hook (u0 := m3) f1 w2 r2 x2
  rw [f2.2.1 18 (by decide), ee.2.2.1]
  have kx2 := KPX_f (KPX_di (ν := μ) h1 hk kx (by omega) hn1 hli) (FRC_u f2)
  refine pk_bnd (pk_mo (h d w2 cm 0 kx2 (CPR_u (CPR_in cp (by omega)) f2)) (fun v _ q => pk_bnd (fun w3 r3 x3 => ?_)))
  have q := CPO_v f2 sB (CPO_u (CPO_ext hq g1 g2 q) (yu_hm_Co_put (u0 := v) Ku_rf w3 r3 x3))
  obtain ⟨z1, z2⟩ := cut_mk hs
  exact pk_bnd (pk_mo (cpo_fgt q z1 (by rw [z2]; exact cp.2.1.2.2.1)) (fun w _ x => pk_bnd (fun w4 r4 x4 => pk_some (CPO_u x (yu_hm_Co_arrive (u0 := w) Ku_rf w4 r4 x4)))))
theorem exn_snd {m0 : MS} {n0 l0 : Nat} (hn : nod m2 ν = (I ((21 : Nat) : Int), I (tok : Nat), I (μ : Nat), I (x : Nat), e)) (htk : tok ≤ 4000) (hlo : lo < ν) (hν : ν ≤ n2) (hl : n2 ≤ 8015) (hq : p ≤ q ∧ q ≤ q2 ∧ q2 ≤ q3 ∧ q3 ≤ q4 ∧ q4 ≤ p2) (g1 : ∀ j, p ≤ j → j < q → K j ≠ 3) (g3 : ∀ j, q2 ≤ j → j < q3 → K j ≠ 3) (g2 : ∀ j, q4 ≤ j → j < p2 → K j ≠ 3) (h : EXN N K nm false m0 l0 n0 μ q q2 sc sc1 X1 W R1 Z1 B1) (hl0 : lo ≤ l0) (h01 : KPO n0 m0 m2) (hk0 : Kcc m0 m2) (hn0 : n0 < ν) (h' : EXN N K nm false m1 li n1 x q3 q4 sc1 sc2 X2 W R2 Z2 B2) (hli : lo ≤ li) (h1 : KPO n1 m1 m2) (hk : Kcc m1 m2) (hn1 : n1 < ν) (s2 : STB B2) (ht : tot sc1 ≤ tot sc + (q2 - q) ∧ sc1.length = sc.length ∧ X1 ≤ 1400) : EXN N K nm gd m2 lo n2 ν p p2 sc sc2 (max X1 X2) W (gd || (R1 || R2)) (Z1 || Z2) (fun m => B1 m ∨ B2 m) := by
  refine exn_cmp (k := 21) (by unfold CMK; omega) ⟨by decide, by decide⟩ hn htk hlo hν hl (fun _ d m3 cm last kx cp ee => ?_)
  unfold cmpR hb_Cm_compound_455
  rw [tnI (n := ν) rfl (by omega), ee.1, ee.2.2.1]
  refine pk_ck (fun _ => ?_)
  rw [show decide (I ((21 : Nat) : Int) = 8) = false from rfl, br_fq, show decide (I ((21 : Nat) : Int) = 9) = false from rfl, br_fq, show decide (I ((21 : Nat) : Int) = 10) = false from rfl, br_fq, show decide (I ((21 : Nat) : Int) = 11) = false from rfl, br_fq, show decide (I ((21 : Nat) : Int) = 12) = false from rfl, br_fq, show decide (I ((21 : Nat) : Int) = 13) = false from rfl, br_fq, show decide (I ((21 : Nat) : Int) = 14) = false from rfl, br_fq, show decide (I ((21 : Nat) : Int) = 15) = false from rfl, br_fq, show decide (I ((21 : Nat) : Int) = 16) = false from rfl, br_fq, show decide (I ((21 : Nat) : Int) = 17) = false from rfl, br_fq, show decide (I ((21 : Nat) : Int) = 18) = false from rfl, br_fq, show decide (I ((21 : Nat) : Int) = 19) = false from rfl, br_fq, show decide (I ((21 : Nat) : Int) = 20) = false from rfl, br_fq, show decide (I ((21 : Nat) : Int) = 21) = true from rfl, br_tq]
  refine pk_ck (fun _ => ?_)
  refine pk_mo (Q := fun u (_ : Unit) => CPO K nm q q4 sc sc2 (max X1 X2) W (R1 || R2) (Z1 || Z2) (fun m => B1 m ∨ B2 m) cm m3 u) ?_ (fun v _ qq => CPO_ext ⟨hq.1, by omega, hq.2.2.2.2⟩ g1 g2 qq)
  refine cpo_bnd (h d m3 cm 0 (KPX_di h01 hk0 kx (by omega) hn0 hl0) (CPR_in cp (by omega))) ⟨hq.2.1, by omega⟩ s2 ht.2.1 (fun v r9 hv => ?_) (fun v r9 hv hn => ?_)
  · obtain ⟨hS0, hS1, hS2, hS3, hS4, hS5, hS6, hS7, hS8, hS9, hS10, hS11, hS12⟩ := yz_hrc_Cm_fun (u0 := v) (N := N) d
    repeat' (first | with_reducible assumption | with_reducible refine Kz_br ?_ ?_ | with_reducible refine Kz_bnd ?_ (fun _ _ _ => ?_) | with_reducible refine Kz_ck ?_ | with_reducible refine Kz_ltm ?_ (fun _ _ => ?_) | with_reducible refine Kz_some ?_ | with_reducible exact yz_hm_Cm_notInGuard (by assumption) | with_reducible exact yz_hr_Cm_pattern (by assumption) | with_reducible exact yz_hm_Cm_forget (by assumption) | with_reducible exact yz_hm_Co_arrive (by assumption) | with_reducible exact yz_hm_Cm_funOf (by assumption) | with_reducible exact yz_hm_Co_hook (by assumption) | with_reducible exact yz_hm_Co_put (by assumption) | with_reducible exact yz_hm_Cm_term (by assumption) | with_reducible exact yz_hm_Cm_string (by assumption) | with_reducible exact yz_hm_Co_seek (by assumption) | with_reducible exact yz_hm_Cm_predefinedOf (by assumption) | with_reducible exact yz_hm_Cm_fault (by assumption) | with_reducible exact yz_hm_Cm_joining (by assumption) | with_reducible exact yz_hm_Cm_hold (by assumption) | with_reducible exact yz_hm_Co_set (by assumption) | with_reducible exact yz_hm_Tr_length (by assumption) | with_reducible exact hS0 _ _ (by assumption) | with_reducible exact hS1 _ _ _ (by assumption) | with_reducible exact hS2 _ _ _ _ _ (by assumption) | with_reducible exact hS3 _ _ _ (by assumption) | with_reducible exact hS4 _ _ _ (by assumption) | with_reducible exact hS5 _ _ _ (by assumption) | with_reducible exact hS6 _ _ _ (by assumption) | with_reducible exact hS7 _ _ (by assumption) | with_reducible exact hS8 _ _ (by assumption) | with_reducible exact hS9 _ _ (by assumption) | with_reducible exact hS10 _ _ _ (by assumption) | with_reducible exact hS11 _ _ _ (by assumption) | with_reducible exact hS12 _ _ _ _ (by assumption) | with_reducible exact yz_hg_Cm_apply hS0 hS1 hS2 hS3 hS4 hS5 hS6 hS7 hS8 hS9 hS10 hS11 hS12 _ _ _ _ _ (by assumption) | with_reducible exact yz_hg_Cm_row hS0 hS1 hS2 hS3 hS4 hS5 hS6 hS7 hS8 hS9 hS10 hS11 hS12 _ _ _ (by assumption) | with_reducible exact yz_hg_Cm_signs hS0 hS1 hS2 hS3 hS4 hS5 hS6 hS7 hS8 hS9 hS10 hS11 hS12 _ _ _ _ _ _ _ (by assumption) | with_reducible exact yz_hg_Cm_body hS0 hS1 hS2 hS3 hS4 hS5 hS6 hS7 hS8 hS9 hS10 hS11 hS12 _ _ _ _ (by assumption) | with_reducible exact yz_hg_Cm_parts hS0 hS1 hS2 hS3 hS4 hS5 hS6 hS7 hS8 hS9 hS10 hS11 hS12 _ _ _ _ _ _ _ (by assumption) | with_reducible exact (yz_hg_Cm_tries hS0 hS1 hS2 hS3 hS4 hS5 hS6 hS7 hS8 hS9 hS10 hS11 hS12 _).1 _ _ _ _ _ (by assumption) | with_reducible exact (yz_hg_Cm_tries hS0 hS1 hS2 hS3 hS4 hS5 hS6 hS7 hS8 hS9 hS10 hS11 hS12 _).2 _ _ _ _ (by assumption) | with_reducible refine Kz_ltv (fun _ => ?_) | with_reducible refine Kz_I ?_ (by decide) | with_reducible refine Kz_A ?_ (by decide))
  · have fr := hn.2.2.2.2.2.2.2.2
    refine pk_ck (fun _ => ?_)
    rw [fr.2 19 (by omega), ee.2.2.2.1]
    refine pk_bnd (pk_mo (h' d v (max cm X1) 0 (KPX_f (KPX_di (ν := x) h1 hk kx (by omega) hn1 hli) fr) (CPR_in (CPR_2 (p := q) (p2 := q4) (q := q2) (CPR_in cp (by omega)) hn ht.2.1 ht.2.2 (by have := cp.2.2.2.2.2.2; omega)) (by omega))) (fun w _ qw => pk_bnd (fun w1 r1 x1 => pk_some ?_)))
    exact CPO_u (CPO_ext ⟨hq.2.2.1, hq.2.2.2.1, Nat.le_refl _⟩ g3 (fun j y1 y2 => absurd y2 (by omega)) qw) (yu_hm_Co_put (u0 := w) Ku_rf w1 r1 x1)
theorem wup_sw {g : Nat → Int32} (h1 : p ≤ q) (h2 : q ≤ q2) (h3 : q2 ≤ p2) (g3 : ∀ j, q ≤ j → j < q2 → K j ≠ 3) : wup (wup g K W q2 p2) K W p q = wup g K W p p2 := by
  funext j
  unfold wup
  by_cases a1 : p ≤ j ∧ j < q ∧ K j = 3
  · rw [if_pos a1, if_pos ⟨a1.1, by omega, a1.2.2⟩]
  · rw [if_neg a1]
    by_cases a2 : q2 ≤ j ∧ j < p2 ∧ K j = 3
    · rw [if_pos a2, if_pos ⟨by omega, a2.2⟩]
    · rw [if_neg a2, if_neg (fun z => ?_)]
      by_cases b1 : j < q
      · exact a1 ⟨z.1, b1, z.2.2⟩
      · by_cases b2 : j < q2
        · exact g3 j (by omega) b2 z.2.2
        · exact a2 ⟨by omega, z.2⟩
theorem NPQ_E (c : CPR nm gd p p2 sc cm m) (h : NPQ nm (sc.length - 1) sc2 cm2 g m v) (fr : FRC m v) (mo : m.1 441 ≤ v.1 441) : NPE nm (sc.length - 1) sc2 cm2 g false m v := by
  obtain ⟨h1, h2, h3, h4⟩ := h
  exact ⟨h1, by rw [h2, upd_at], fun j hj => by rw [h2, upd_no (by omega)], h3, C11_m mo (h4.1 711 (by decide) (by omega)), h4.1 714 (by decide) (by omega), h4.1 712 (by decide) (by omega), h4.1 713 (by decide) (by omega), fr⟩
theorem exn_mat {m0 : MS} {n0 l0 : Nat} (hn : nod m2 ν = (I ((20 : Nat) : Int), I (tok : Nat), I (μ : Nat), I (x : Nat), e)) (htk : tok ≤ 4000) (hlo : lo < ν) (hν : ν ≤ n2) (hl : n2 ≤ 8015) (hq : p ≤ q ∧ q ≤ q2 ∧ q2 ≤ q3 ∧ q3 ≤ q4 ∧ q4 ≤ p2) (g1 : ∀ j, p ≤ j → j < q → K j ≠ 3) (g3 : ∀ j, q2 ≤ j → j < q3 → K j ≠ 3) (g2 : ∀ j, q4 ≤ j → j < p2 → K j ≠ 3) (h : PTN N K nm m0 l0 n0 μ false q q2 sc1 sc2 X2 W) (hl0 : lo ≤ l0) (h01 : KPO n0 m0 m2) (hk0 : Kcc m0 m2) (hn0 : n0 < ν) (h' : EXN N K nm false m1 li n1 x q3 q4 sc sc1 X1 W R1 Z1 B1) (hli : lo ≤ li) (h1 : KPO n1 m1 m2) (hk : Kcc m1 m2) (hn1 : n1 < ν) (ht : tot sc1 ≤ tot sc + (q4 - q3) ∧ sc1.length = sc.length ∧ X1 ≤ 1400) : EXN N K nm gd m2 lo n2 ν p p2 sc sc2 (max X1 X2) W (gd || R1) Z1 B1 := by
  refine exn_cmp (k := 20) (by unfold CMK; omega) ⟨by decide, by decide⟩ hn htk hlo hν hl (fun _ d m3 cm last kx cp ee => ?_)
  unfold cmpR hb_Cm_compound_455
  rw [tnI (n := ν) rfl (by omega), ee.1, ee.2.2.2.1]
  refine pk_ck (fun _ => ?_)
  rw [show decide (I ((20 : Nat) : Int) = 8) = false from rfl, br_fq, show decide (I ((20 : Nat) : Int) = 9) = false from rfl, br_fq, show decide (I ((20 : Nat) : Int) = 10) = false from rfl, br_fq, show decide (I ((20 : Nat) : Int) = 11) = false from rfl, br_fq, show decide (I ((20 : Nat) : Int) = 12) = false from rfl, br_fq, show decide (I ((20 : Nat) : Int) = 13) = false from rfl, br_fq, show decide (I ((20 : Nat) : Int) = 14) = false from rfl, br_fq, show decide (I ((20 : Nat) : Int) = 15) = false from rfl, br_fq, show decide (I ((20 : Nat) : Int) = 16) = false from rfl, br_fq, show decide (I ((20 : Nat) : Int) = 17) = false from rfl, br_fq, show decide (I ((20 : Nat) : Int) = 18) = false from rfl, br_fq, show decide (I ((20 : Nat) : Int) = 19) = false from rfl, br_fq, show decide (I ((20 : Nat) : Int) = 20) = true from rfl, br_tq]
  refine pk_ck (fun _ => pk_bnd (pk_mo (h' d m3 cm 0 (KPX_di h1 hk kx (by omega) hn1 hli) (CPR_in cp (by omega))) (fun v _ qv => ?_)))
  rcases qv with ⟨qf, qs, qr⟩ | ⟨⟨qf, qb⟩, qn⟩
  · refine pk_mo (Q := fun w (_ : Unit) => Kzc v w) ?_ (fun w _ z => CPO_z (v := v) ⟨qf, qs, qr⟩ z)
    intro w r x
    have hv : Kzc v v := ⟨qs, FRC_rf⟩
    refine (?_ : KzE v _) w r x
    obtain ⟨hS0, hS1, hS2, hS3, hS4, hS5, hS6, hS7, hS8, hS9, hS10, hS11, hS12⟩ := yz_hrc_Cm_fun (u0 := v) (N := N) d
    repeat' (first | with_reducible assumption | with_reducible refine Kz_br ?_ ?_ | with_reducible refine Kz_bnd ?_ (fun _ _ _ => ?_) | with_reducible refine Kz_ck ?_ | with_reducible refine Kz_ltm ?_ (fun _ _ => ?_) | with_reducible refine Kz_some ?_ | with_reducible exact yz_hm_Cm_notInGuard (by assumption) | with_reducible exact yz_hr_Cm_pattern (by assumption) | with_reducible exact yz_hm_Cm_forget (by assumption) | with_reducible exact yz_hm_Co_arrive (by assumption) | with_reducible exact yz_hm_Cm_funOf (by assumption) | with_reducible exact yz_hm_Co_hook (by assumption) | with_reducible exact yz_hm_Co_put (by assumption) | with_reducible exact yz_hm_Cm_term (by assumption) | with_reducible exact yz_hm_Cm_string (by assumption) | with_reducible exact yz_hm_Co_seek (by assumption) | with_reducible exact yz_hm_Cm_predefinedOf (by assumption) | with_reducible exact yz_hm_Cm_fault (by assumption) | with_reducible exact yz_hm_Cm_joining (by assumption) | with_reducible exact yz_hm_Cm_hold (by assumption) | with_reducible exact yz_hm_Co_set (by assumption) | with_reducible exact yz_hm_Tr_length (by assumption) | with_reducible exact hS0 _ _ (by assumption) | with_reducible exact hS1 _ _ _ (by assumption) | with_reducible exact hS2 _ _ _ _ _ (by assumption) | with_reducible exact hS3 _ _ _ (by assumption) | with_reducible exact hS4 _ _ _ (by assumption) | with_reducible exact hS5 _ _ _ (by assumption) | with_reducible exact hS6 _ _ _ (by assumption) | with_reducible exact hS7 _ _ (by assumption) | with_reducible exact hS8 _ _ (by assumption) | with_reducible exact hS9 _ _ (by assumption) | with_reducible exact hS10 _ _ _ (by assumption) | with_reducible exact hS11 _ _ _ (by assumption) | with_reducible exact hS12 _ _ _ _ (by assumption) | with_reducible exact yz_hg_Cm_apply hS0 hS1 hS2 hS3 hS4 hS5 hS6 hS7 hS8 hS9 hS10 hS11 hS12 _ _ _ _ _ (by assumption) | with_reducible exact yz_hg_Cm_row hS0 hS1 hS2 hS3 hS4 hS5 hS6 hS7 hS8 hS9 hS10 hS11 hS12 _ _ _ (by assumption) | with_reducible exact yz_hg_Cm_signs hS0 hS1 hS2 hS3 hS4 hS5 hS6 hS7 hS8 hS9 hS10 hS11 hS12 _ _ _ _ _ _ _ (by assumption) | with_reducible exact yz_hg_Cm_body hS0 hS1 hS2 hS3 hS4 hS5 hS6 hS7 hS8 hS9 hS10 hS11 hS12 _ _ _ _ (by assumption) | with_reducible exact yz_hg_Cm_parts hS0 hS1 hS2 hS3 hS4 hS5 hS6 hS7 hS8 hS9 hS10 hS11 hS12 _ _ _ _ _ _ _ (by assumption) | with_reducible exact (yz_hg_Cm_tries hS0 hS1 hS2 hS3 hS4 hS5 hS6 hS7 hS8 hS9 hS10 hS11 hS12 _).1 _ _ _ _ _ (by assumption) | with_reducible exact (yz_hg_Cm_tries hS0 hS1 hS2 hS3 hS4 hS5 hS6 hS7 hS8 hS9 hS10 hS11 hS12 _).2 _ _ _ _ (by assumption) | with_reducible refine Kz_ltv (fun _ => ?_) | with_reducible refine Kz_I ?_ (by decide) | with_reducible refine Kz_A ?_ (by decide))
  · refine pk_bnd (fun w1 r1 x1 => pk_ck (fun _ => ?_))
    have f1 := yu_hm_Co_put (u0 := v) Ku_rf w1 r1 x1
    have fr := qn.2.2.2.2.2.2.2.2
    have fr1 := FRC_tr fr (FRC_u f1)
    rw [fr1.2 18 (by omega), ee.2.2.1]
    have qn1 := NPE_u qn f1
    obtain ⟨a1, a2, a3, a4, a5, a6, a7, a8, a9⟩ := qn1
    have cp1 : CPR nm false q q2 sc1 (max cm X1) w1 := ⟨by rw [a6]; exact cp.1, a1, by rw [ht.2.1]; exact a2, by have := cp.2.2.2.1; omega, by rw [a8]; exact cp.2.2.2.2.1, by rw [a7]; exact cp.2.2.2.2.2.1, by have := cp.2.2.2.2.2.2; omega⟩
    refine pk_bnd (fun w2 r2 x2 => pk_bnd (fun w3 r3 x3 => pk_some ?_))
    have pt := h 300 w1 (max cm X1) (KPX_f (KPX_di (ν := μ) h01 hk0 kx (by omega) hn0 hl0) fr1) a1 cp1.2.2.1 cp1.2.2.2.1 (by rw [cp1.2.2.2.2.1]; rfl) cp1.2.2.2.2.2.2 w2 r2 x2
    have f2 : FRC w1 w2 := yq_hr_Cm_pattern (u0 := w1) FRC_rf w2 r2 x2
    have ne := NPQ_E cp1 pt f2 (yw_hr_Cm_pattern (u0 := w1) (Int32.le_refl _) w2 r2 x2)
    refine CPO_u (v := w2) (CPO_ok ⟨qf, qb⟩ ?_) (yu_hm_Co_put (u0 := w2) Ku_rf w3 r3 x3)
    rw [ht.2.1, a4, wup_sw hq.2.1 hq.2.2.1 hq.2.2.2.1 g3] at ne
    rw [wup_ext ⟨hq.1, by omega, hq.2.2.2.2⟩ g1 g2, show max cm (max X1 X2) = max (max cm X1) X2 by omega]
    have := NPE_tr ⟨a1, a2, a3, a4, a5, a6, a7, a8, a9⟩ ne
    rw [Bool.or_false] at this
    exact this
theorem exn_fof (hn : nod m2 ν = (I ((13 : Nat) : Int), I (tok : Nat), a, b, e)) (htk : tok ≤ 4000) (hlo : lo < ν) (hν : ν ≤ n2) (hl : n2 ≤ 8015) (g1 : ∀ j, p ≤ j → j < p2 → K j ≠ 3) : EXN N K nm gd m2 lo n2 ν p p2 sc sc 0 W (gd || false) false (fun m => BADc N m (a, b, 2)) := by
  refine exn_cmp (k := 13) (by unfold CMK; omega) ⟨by decide, by decide⟩ hn htk hlo hν hl (fun _ d m3 cm last kx cp ee => ?_)
  unfold cmpR hb_Cm_compound_455
  rw [tnI (n := ν) rfl (by omega), ee.1]
  refine pk_ck (fun _ => ?_)
  rw [show decide (I ((13 : Nat) : Int) = 8) = false from rfl, br_fq, show decide (I ((13 : Nat) : Int) = 9) = false from rfl, br_fq, show decide (I ((13 : Nat) : Int) = 10) = false from rfl, br_fq, show decide (I ((13 : Nat) : Int) = 11) = false from rfl, br_fq, show decide (I ((13 : Nat) : Int) = 12) = false from rfl, br_fq, show decide (I ((13 : Nat) : Int) = 13) = true from rfl, br_tq]
  refine pk_bnd (pk_mo (Q := fun u (_ : Unit) => CPO K nm p p2 sc sc 0 W false false (fun m => BADc N m (a, b, 2)) cm m3 u) ?_ (fun v _ q => pk_some q))
  unfold hm_Cm_funOf hb_Cm_funOf_0 hb_Cm_funOf_48
  rw [tnI (n := ν) rfl (by omega), ee.2.2.1, ee.2.2.2.1]
  refine pk_ck (fun _ => pk_ck (fun _ => pk_bnd (pk_mo (seek_c (N := N) (a := a) (b := b) FRC_rf) (fun u53 r53 h53 => ?_))))
  rw [h53.1]
  have bd : BADc N m3 (a, b, 2) ↔ r53 = -1 := by
    unfold BADc
    rw [if_pos rfl, h53.2]
    exact ⟨fun z => by injection z with z; exact (Prod.mk.inj z).2, fun z => by rw [z]⟩
  refine pk_br (fun z => pk_ck (fun _ => ?_)) (fun z => ?_)
  · rw [ee.2.1, i_suc]
    refine pk_bnd (pk_mo (fault_p (N := N) (tk := tok + 1) (nb := 6) (by omega) (by omega)) (fun v r q => pk_bnd (fun w1 r1 x1 => pk_bnd (fun w2 r2 x2 => pk_some ?_))))
    have f2 := yu_hm_Co_put (u0 := v) (yu_hm_Co_put (u0 := v) Ku_rf w1 r1 x1) w2 r2 x2
    exact Or.inl ⟨Or.inr (bd.mpr (of_decide_eq_true z)), Ku_s q.1 f2, FRC_tr ⟨fun k hk => q.2.1 k (by omega), fun k _ => by rw [q.2.2]⟩ (FRC_u f2)⟩
  · refine pk_bnd (fun w1 r1 x1 => pk_bnd (fun w2 r2 x2 => pk_some ?_))
    have f2 := yu_hm_Co_put (u0 := m3) (yu_hm_Co_put (u0 := m3) Ku_rf w1 r1 x1) w2 r2 x2
    refine CPO_u (CPO_ok ⟨rfl, fun y => of_decide_eq_false z (bd.mp y)⟩ ?_) f2
    rw [Nat.max_eq_left (Nat.zero_le cm), wup_0 g1]
    exact CPR_0 cp
end
