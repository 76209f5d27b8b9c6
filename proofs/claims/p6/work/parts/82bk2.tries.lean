set_option maxRecDepth 100000
def TRB (N : Nat) (K nm : Nat → Nat) (own : Bool) (m2 : MS) (lo n2 π p p2 : Nat) (sc sc2 : SCT) (X : Nat) (W : Nat → Nat) (Rf Zf : Bool) (BC : MS → Prop) : Prop := ∀ (d : Nat) (m3 : MS) (cm : Nat) (what : Int32), decide (what < 0) = !own → KPX lo n2 π m2 m3 → CPR nm false p p2 sc cm m3 → PK (fun m4 _ => CPO K nm p p2 sc sc2 X W Rf Zf BC cm m3 m4) ((hrc_Cm_fun N d).2.2.2.2.2.2.2.2.2.2.2.1 m3 what (I (π : Nat)))
def BDB (N : Nat) (K nm : Nat → Nat) (m2 : MS) (lo n2 π p p2 : Nat) (sc sc2 : SCT) (X : Nat) (W : Nat → Nat) (Rf Zf : Bool) (BC : MS → Prop) : Prop := ∀ (d : Nat) (m3 : MS) (cm : Nat) (last : Int32), KPX lo n2 π m2 m3 → CPR nm false p p2 sc cm m3 → PK (fun m4 _ => CPO K nm p p2 sc sc2 X W Rf Zf BC cm m3 m4) ((hrc_Cm_fun N d).2.2.2.1 m3 (m3.2.2.1 20 π) last)
def CPG (K nm : Nat → Nat) (p p2 : Nat) (sc sc2 : SCT) (X : Nat) (W : Nat → Nat) (Rf Zf : Bool) (BC : MS → Prop) (cm : Nat) (ar : Int32) (m u : MS) : Prop := ((Rf = true ∨ BC m) ∧ u.1 714 < 1000000000 ∧ FRC m u) ∨ ((Rf = false ∧ ¬ BC m) ∧ ∃ w, NPE nm (sc.length - 1) sc2 (max cm X) (wup (m.2.2.1 42) K W p p2) Zf m w ∧ u = upI w 712 ar)
section
variable {m v u m1 m2 m3 mi : MS} {K nm W : Nat → Nat} {sc sc1 sc2 sc3 t t2 : SCT} {e0 e2 : List Nat × List Nat × Nat} {s x y N i f tok cm cm2 p p2 q q2 q3 q4 n1 n2 n3 ν μ π lo li ni X X1 X2 k : Nat} {gd Zf Rf R1 R2 Z1 Z2 own : Bool} {g : Nat → Int32} {B1 B2 BC : MS → Prop} {a b c e f : Int32} {l lp lg lb : List Nat} {S : SF_Cm_fun}
theorem tri_p (hl : n2 ≤ 8015) : ∀ {l : List Nat} {p p2 : Nat} {sc sc2 : SCT} {X : Nat}, PRW N K nm m2 lo n2 own W l p p2 sc sc2 X → ∀ (M : Nat) (m3 : MS) (cm : Nat) (pt mk fl : Int32) (Q : MS → Int32 → Prop), (∀ j, lo < j → j ≤ n2 → nod m3 j = nod m2 j ∧ m3.2.2.1 21 j = m2.2.2.1 21 j) → Kcc m2 m3 → CNs m3 nm sc → m3.2.2.1 41 (sc.length - 1) = I (cm : Nat) → cm ≤ 4000 → (cm ≤ 4000 → max cm X ≤ 4000) → decide (m3.1 713 = 0) = !own → tot sc + (p2 - p) ≤ 4000 → (∀ M' v, NPQ nm (sc.length - 1) sc2 (max cm X) (wup (m3.2.2.1 42) K W p p2) m3 v → FRC m3 v ∧ m3.1 441 ≤ v.1 441 → PK Q (lt (upI v 713 0) (fun w36 => bnd (hm_Co_put N w36 8) (fun u38 _ => hb_Cm_tries_111 N S (hg_Cm_tries N S M') u38 pt mk fl)))) → PK Q ((hg_Cm_tries N S M).1 m3 pt mk fl (I ((l.headD 0 : Nat) : Int)))
  | _, _, _, _, _, _, _, 0, _, _, _, _, _, _, _, _, _, _, _, _, _, _, _ => pk_none
  | [], p, p2, sc, sc2, X, ⟨h1, h2, h3⟩, M + 1, m3, cm, pt, mk, fl, Q, _, _, cn, hm, hc, _, ho, ht, kk => by
    subst h1
    subst h2
    subst h3
    show PK _ (hb_Cm_tries_71 N S (hg_Cm_tries N S M) m3 pt mk fl 0)
    unfold hb_Cm_tries_71
    rw [show decide ((0 : Int32) = 0) = true from rfl, br_tq]
    refine kk M m3 ?_ ⟨FRC_rf, Int32.le_refl _⟩
    rw [Nat.max_eq_left (Nat.zero_le cm), wup_0 (fun j h1 h2 => absurd h2 (by omega))]
    exact NPQ_rf cn hm
  | ν :: l, p, p2, sc, sc2, X, ⟨q, q2, sc1, X1, X2, h1, g1, h2, h3, h4, h5, h6, h7⟩, M + 1, m3, cm, pt, mk, fl, Q, k1, k2, cn, hm, hc, hX, ho, ht, kk => by
    subst h7
    obtain ⟨a1, a2, a3⟩ := PRW_len h6
    show PK _ (hb_Cm_tries_71 N S (hg_Cm_tries N S M) m3 pt mk fl (I (ν : Nat)))
    unfold hb_Cm_tries_71
    have hX := hX hc
    rw [decide_eq_false (p := I (ν : Nat) = 0) (fun z => by have := (I_eq (x := (ν : Nat)) (y := 0) (by omega) (by omega) (by omega) (by omega)).mp z; omega), br_fq]
    have kx : KPX lo n2 ν m2 m3 := ⟨fun j h0 hj => ⟨(k1 j h0 hj).1, fun _ => (k1 j h0 hj).2⟩, k2⟩
    obtain ⟨mi, li, ni, h2, hx2, hni, hli, -⟩ := h2
    refine pk_bnd (fun v r9 x9 => pk_ck (fun _ => ?_))
    have qv := h2 300 m3 cm (KPX_tr hx2 kx hni.2 hni.1) cn hm hc ho (by omega) v r9 x9
    have fr : FRC m3 v := yq_hr_Cm_pattern (u0 := m3) FRC_rf v r9 x9
    have k1w := KPX_f kx fr
    have k1v : ∀ j, lo < j → j ≤ n2 → nod v j = nod m2 j ∧ v.2.2.1 21 j = m2.2.2.1 21 j := fun j h0 hj => by
      refine ⟨(k1w.1 j h0 hj).1, ?_⟩
      rw [fr.2 21 (by omega)]
      exact (k1 j h0 hj).2
    rw [tnI (n := ν) rfl (by omega), (k1v ν (by omega) h3.2).2, h4]
    have o13 : v.1 713 = m3.1 713 := qv.2.2.2.1 713 (by decide) (by decide)
    refine tri_p hl h6 M v (max cm X1) pt mk fl Q k1v k1w.2 qv.1 (by rw [h5.2, qv.2.1, upd_at]) (by omega) (fun _ => by omega) (by rw [o13]; exact ho) (by omega) (fun M' u qu fu => kk M' u ?_ ⟨FRC_tr fr fu.1, Int32.le_trans (yw_hr_Cm_pattern (u0 := m3) (Int32.le_refl _) v r9 x9) fu.2⟩)
    rw [h5.2] at qu
    rw [← wup_tr (g := m3.2.2.1 42) (K := K) (W := W) (q := q) h1.1 (by omega), wup_0 (p := p) (p2 := q) g1, ← wup_tr (g := m3.2.2.1 42) (K := K) (W := W) (p := q) (q := q2) h1.2.1 h1.2.2, ← qv.2.2.1, show max cm (max X1 X2) = max (max cm X1) X2 by omega]
    exact NPQ_tr qv qu
theorem tri_g (hl : n2 ≤ 8015) : ∀ {l : List Nat} {p p2 : Nat} {sc sc2 : SCT} {X : Nat} {Rf Zf : Bool} {BC : MS → Prop}, ERW N K nm gd m2 lo n2 W l p p2 sc sc2 X Rf Zf BC → ∀ (d M : Nat) (m3 : MS) (cm : Nat) (fl ar : Int32), (∀ j, lo < j → j ≤ n2 → nod m3 j = nod m2 j ∧ m3.2.2.1 21 j = m2.2.2.1 21 j) → Kcc m2 m3 → CPR nm gd p p2 sc cm m3 → PK (fun m4 (_ : Int32) => CPG K nm p p2 sc sc2 X W Rf Zf BC cm ar m3 m4) ((hg_Cm_tries N (hrc_Cm_fun N d) M).2 m3 fl ar (I ((l.headD 0 : Nat) : Int)))
  | _, _, _, _, _, _, _, _, _, _, _, 0, _, _, _, _, _, _, _ => pk_none
  | [], p, p2, sc, sc2, X, Rf, Zf, BC, ⟨h1, h2, h3, h4, h5, h6⟩, d, M + 1, m3, cm, fl, ar, _, _, cp => by
    subst h1
    subst h2
    subst h3
    subst h4
    subst h5
    show PK _ (hb_Cm_tries_181 N (hrc_Cm_fun N d) (hg_Cm_tries N (hrc_Cm_fun N d) M) m3 fl ar 0)
    unfold hb_Cm_tries_181
    rw [show decide ((0 : Int32) = 0) = true from rfl, br_tq]
    refine pk_bnd (fun w1 r1 x1 => pk_ck (fun _ => pk_lt (pk_some (Or.inr ⟨⟨rfl, h6 m3⟩, w1, ?_, rfl⟩))))
    rw [Nat.max_eq_left (Nat.zero_le cm), wup_0 (fun j h1 h2 => absurd h2 (by omega))]
    exact NPE_u (CPR_0 cp) (yu_hm_Co_put (u0 := m3) Ku_rf w1 r1 x1)
  | ν :: l, p, p2, sc, sc2, X, Rf, Zf, BC, ⟨q, q2, sc1, X1, X2, R1, R2, Z1, Z2, B1, B2, h1, g1, ⟨mi, li, ni, h2, hx, hni, hli, _⟩, h3, h4, h5, h6, h7, h8, h9, h10, h11⟩, d, M + 1, m3, cm, fl, ar, k1, k2, cp => by
    subst h7
    subst h8
    subst h9
    obtain ⟨a1, a2, a3⟩ := ERW_len h6
    show PK _ (hb_Cm_tries_181 N (hrc_Cm_fun N d) (hg_Cm_tries N (hrc_Cm_fun N d) M) m3 fl ar (I (ν : Nat)))
    unfold hb_Cm_tries_181
    rw [decide_eq_false (p := I (ν : Nat) = 0) (fun z => by have := (I_eq (x := (ν : Nat)) (y := 0) (by omega) (by omega) (by omega) (by omega)).mp z; omega), br_fq]
    have kx : KPX lo n2 ν m2 m3 := ⟨fun j h0 hj => ⟨(k1 j h0 hj).1, fun _ => (k1 j h0 hj).2⟩, k2⟩
    have cp1 : CPR nm gd q q2 sc cm m3 := CPR_in cp (by omega)
    refine pk_bnd (pk_mo (h2 d m3 cm 0 (KPX_tr hx kx hni.2 hni.1) cp1) (fun v _ qv => ?_))
    rcases qv with ⟨qf, qs, qr⟩ | ⟨⟨qf, qb⟩, qn⟩
    · refine pk_mo (Q := fun w (_ : Int32) => Kzc v w) ?_ (fun w _ z => Or.inl ⟨?_, z.1, FRC_tr qr z.2⟩)
      · intro w r x
        have hv : Kzc v v := ⟨qs, FRC_rf⟩
        refine (?_ : KzE v _) w r x
        obtain ⟨hS0, hS1, hS2, hS3, hS4, hS5, hS6, hS7, hS8, hS9, hS10, hS11, hS12⟩ := yz_hrc_Cm_fun (u0 := v) (N := N) d
        repeat' (first | with_reducible assumption | with_reducible refine Kz_br ?_ ?_ | with_reducible refine Kz_bnd ?_ (fun _ _ _ => ?_) | with_reducible refine Kz_ck ?_ | with_reducible refine Kz_ltm ?_ (fun _ _ => ?_) | with_reducible refine Kz_some ?_ | with_reducible exact yz_hm_Cm_notInGuard (by assumption) | with_reducible exact yz_hr_Cm_pattern (by assumption) | with_reducible exact yz_hm_Cm_forget (by assumption) | with_reducible exact yz_hm_Co_arrive (by assumption) | with_reducible exact yz_hm_Cm_funOf (by assumption) | with_reducible exact yz_hm_Co_hook (by assumption) | with_reducible exact yz_hm_Co_put (by assumption) | with_reducible exact yz_hm_Cm_term (by assumption) | with_reducible exact yz_hm_Cm_string (by assumption) | with_reducible exact yz_hm_Co_seek (by assumption) | with_reducible exact yz_hm_Cm_predefinedOf (by assumption) | with_reducible exact yz_hm_Cm_fault (by assumption) | with_reducible exact yz_hm_Cm_joining (by assumption) | with_reducible exact yz_hm_Cm_hold (by assumption) | with_reducible exact yz_hm_Co_set (by assumption) | with_reducible exact yz_hm_Tr_length (by assumption) | with_reducible exact hS0 _ _ (by assumption) | with_reducible exact hS1 _ _ _ (by assumption) | with_reducible exact hS2 _ _ _ _ _ (by assumption) | with_reducible exact hS3 _ _ _ (by assumption) | with_reducible exact hS4 _ _ _ (by assumption) | with_reducible exact hS5 _ _ _ (by assumption) | with_reducible exact hS6 _ _ _ (by assumption) | with_reducible exact hS7 _ _ (by assumption) | with_reducible exact hS8 _ _ (by assumption) | with_reducible exact hS9 _ _ (by assumption) | with_reducible exact hS10 _ _ _ (by assumption) | with_reducible exact hS11 _ _ _ (by assumption) | with_reducible exact hS12 _ _ _ _ (by assumption) | with_reducible exact yz_hg_Cm_apply hS0 hS1 hS2 hS3 hS4 hS5 hS6 hS7 hS8 hS9 hS10 hS11 hS12 _ _ _ _ _ (by assumption) | with_reducible exact yz_hg_Cm_row hS0 hS1 hS2 hS3 hS4 hS5 hS6 hS7 hS8 hS9 hS10 hS11 hS12 _ _ _ (by assumption) | with_reducible exact yz_hg_Cm_signs hS0 hS1 hS2 hS3 hS4 hS5 hS6 hS7 hS8 hS9 hS10 hS11 hS12 _ _ _ _ _ _ _ (by assumption) | with_reducible exact yz_hg_Cm_body hS0 hS1 hS2 hS3 hS4 hS5 hS6 hS7 hS8 hS9 hS10 hS11 hS12 _ _ _ _ (by assumption) | with_reducible exact yz_hg_Cm_parts hS0 hS1 hS2 hS3 hS4 hS5 hS6 hS7 hS8 hS9 hS10 hS11 hS12 _ _ _ _ _ _ _ (by assumption) | with_reducible exact (yz_hg_Cm_tries hS0 hS1 hS2 hS3 hS4 hS5 hS6 hS7 hS8 hS9 hS10 hS11 hS12 _).1 _ _ _ _ _ (by assumption) | with_reducible exact (yz_hg_Cm_tries hS0 hS1 hS2 hS3 hS4 hS5 hS6 hS7 hS8 hS9 hS10 hS11 hS12 _).2 _ _ _ _ (by assumption) | with_reducible refine Kz_ltv (fun _ => ?_) | with_reducible refine Kz_I ?_ (by decide) | with_reducible refine Kz_A ?_ (by decide))
      · rcases qf with qf | qf
        · exact Or.inl (by rw [qf]; rfl)
        · exact Or.inr ((h10 m3).mpr (Or.inl qf))
    · refine pk_bnd (fun w1 r1 x1 => pk_ck (fun _ => ?_))
      have f1 := yu_hm_Co_put (u0 := v) Ku_rf w1 r1 x1
      have qn := NPE_u qn f1
      have fr := qn.2.2.2.2.2.2.2.2
      have k1w := KPX_f kx fr
      have k1v : ∀ j, lo < j → j ≤ n2 → nod w1 j = nod m2 j ∧ w1.2.2.1 21 j = m2.2.2.1 21 j := fun j h0 hj => by
        refine ⟨(k1w.1 j h0 hj).1, ?_⟩
        rw [fr.2 21 (by omega)]
        exact (k1 j h0 hj).2
      rw [tnI (n := ν) rfl (by omega), (k1v ν (by omega) h3.2).2, h4]
      have cp2 : CPR nm gd q2 p2 sc1 (max cm X1) w1 := CPR_2 (p := q) (p2 := p2) (q := q2) (CPR_in cp (by omega)) qn h5.2.1 h5.2.2 (by have := cp.2.2.2.2.2.2; omega)
      refine pk_mo (tri_g hl h6 d M w1 (max cm X1) fl ar k1v k1w.2 cp2) (fun u _ qu => ?_)
      rcases qu with ⟨qf2, qs2, qr2⟩ | ⟨⟨qf2, qb2⟩, w, qn2, qu⟩
      · refine Or.inl ⟨?_, qs2, FRC_tr fr qr2⟩
        rcases qf2 with z | z
        · exact Or.inl (by rw [z]; simp)
        · exact Or.inr ((h10 m3).mpr (Or.inr ((h11 m3 w1 fr).mp z)))
      · refine Or.inr ⟨⟨by rw [qf, qf2]; rfl, fun z => ?_⟩, w, ?_, qu⟩
        · rcases (h10 m3).mp z with z | z
          · exact qb z
          · exact qb2 ((h11 m3 w1 fr).mpr z)
        · rw [h5.2.1, qn.2.2.2.1] at qn2
          rw [← wup_tr (g := m3.2.2.1 42) (K := K) (W := W) (q := q) h1.1 (by omega), wup_0 (p := p) (p2 := q) g1, ← wup_tr (g := m3.2.2.1 42) (K := K) (W := W) (p := q) (q := q2) h1.2.1 h1.2.2, show max cm (max X1 X2) = max (max cm X1) X2 by omega]
          exact NPE_tr qn qn2
theorem upI_FRC {y : Int32} (hk : k ≠ 442 ∧ 440 ≤ k ∧ (k < 720 ∨ 740 ≤ k)) : FRC m (upI m k y) := ⟨fun j hj => upI_ne (by omega), fun _ _ => rfl⟩
theorem NPE_upI {y : Int32} (h : NPE nm s sc2 cm g Zf m v) (hk : k = 712 ∨ k = 713) (hy : y = m.1 k) : NPE nm s sc2 cm g Zf m (upI v k y) := by
  obtain ⟨⟨c1, c2, c3, c4, c5⟩, a2, a3, a4, a5, a6, a7, a8, a9⟩ := h
  refine ⟨⟨by rw [upI_ne (by omega)]; exact c1, c2, by rw [upI_ne (by omega)]; exact c3, c4, CNl_fr c5 rfl (fun j _ => rfl)⟩, a2, a3, a4, C11_e a5 (upI_ne (by omega)) (upI_ne (by omega)), by rw [upI_ne (by omega)]; exact a6, ?_, ?_, FRC_tr a9 (upI_FRC (by omega))⟩
  · rcases hk with rfl | rfl
    · rw [upI_at]; exact hy
    · rw [upI_ne (by decide)]; exact a7
  · rcases hk with rfl | rfl
    · rw [upI_ne (by decide)]; exact a8
    · rw [upI_at]; exact hy
theorem tri_111 {M d : Nat} {mk fl : Int32} (hπ : π ≤ 8015) (e19 : m3.2.2.1 19 π = I ((lg.headD 0 : Nat) : Int)) (h : ERW N K nm true mi li ni W lg p p2 sc sc2 X Rf Zf BC) (hni : ni ≤ 8015) (kx : (∀ j, li < j → j ≤ ni → nod m3 j = nod mi j ∧ m3.2.2.1 21 j = mi.2.2.1 21 j) ∧ Kcc mi m3) (cp : CPR nm false p p2 sc cm m3) (sB : STB BC) : PK (fun m4 (_ : Int32) => CPO K nm p p2 sc sc2 X W Rf Zf BC cm m3 m4) (hb_Cm_tries_111 N (hrc_Cm_fun N d) (hg_Cm_tries N (hrc_Cm_fun N d) M) m3 (I (π : Nat)) mk fl) := by
  unfold hb_Cm_tries_111
  rw [tnI (n := π) rfl (by omega), e19]
  refine pk_ck (fun _ => ?_)
  cases lg with
  | nil =>
    obtain ⟨h1, h2, h3, h4, h5, h6⟩ := h
    subst h1
    subst h2
    subst h3
    subst h4
    subst h5
    rw [show decide (I ((([] : List Nat).headD 0 : Nat) : Int) = 0) = true from rfl, br_tq]
    refine pk_some (CPO_ok ⟨rfl, h6 m3⟩ ?_)
    rw [Nat.max_eq_left (Nat.zero_le cm), wup_0 (fun j h1 h2 => absurd h2 (by omega))]
    exact CPR_0 cp
  | cons ν l =>
    have hν : 1 ≤ ν ∧ ν ≤ ni := by
      obtain ⟨q, q2, sc1, X1, X2, R1, R2, Z1, Z2, B1, B2, h1, g1, _, h3, _⟩ := h
      exact h3
    rw [decide_eq_false (p := I (((ν :: l).headD 0 : Nat) : Int) = 0) (fun z => by have := (I_eq (x := (ν : Nat)) (y := 0) (by omega) (by omega) (by omega) (by omega)).mp z; omega), br_fq]
    refine pk_lt (pk_bnd (fun w1 r1 x1 => pk_bnd (fun w2 r2 x2 => pk_bnd (fun w3 r3 x3 => pk_ck (fun _ => ?_)))))
    have f1 := yu_hm_Co_put (u0 := upI m3 712 1) Ku_rf w1 r1 x1
    have f2 := yu_hm_Co_put (u0 := upI m3 712 1) f1 w2 r2 x2
    have f3 := yu_hm_Co_hook (u0 := upI m3 712 1) f2 w3 r3 x3
    have f0 : FRC m3 (upI m3 712 1) := upI_FRC (by decide)
    have fr := FRC_tr f0 (FRC_u f3)
    have cpG : CPR nm true p p2 sc cm (upI m3 712 1) := ⟨by rw [upI_ne (by decide)]; exact cp.1, ⟨by rw [upI_ne (by decide)]; exact cp.2.1.1, cp.2.1.2.1, by rw [upI_ne (by decide)]; exact cp.2.1.2.2.1, cp.2.1.2.2.2.1, CNl_fr cp.2.1.2.2.2.2 rfl (fun _ _ => rfl)⟩, cp.2.2.1, cp.2.2.2.1, by rw [upI_ne (by decide)]; exact cp.2.2.2.2.1, by rw [upI_at]; rfl, cp.2.2.2.2.2.2⟩
    rw [fr.2 19 (by omega), e19]
    have k0 : KPX li ni 0 mi m3 := ⟨fun j h0 hj => ⟨(kx.1 j h0 hj).1, fun _ => (kx.1 j h0 hj).2⟩, kx.2⟩
    have k1 := KPX_f k0 fr
    have kk : ∀ j, li < j → j ≤ ni → nod w3 j = nod mi j ∧ w3.2.2.1 21 j = mi.2.2.1 21 j := fun j h0 hj => by
      refine ⟨(k1.1 j h0 hj).1, ?_⟩
      rw [fr.2 21 (by omega)]
      exact (kx.1 j h0 hj).2
    refine pk_mo (tri_g hni h d M w3 cm r3 (m3.1 712) kk k1.2 (CPR_u cpG f3)) (fun u _ qu => ?_)
    have eB := sB m3 w3 fr
    rcases qu with ⟨qf, qs, qr⟩ | ⟨⟨qf, qb⟩, w, qn, rfl⟩
    · exact Or.inl ⟨qf.elim Or.inl (fun z => Or.inr (eB.mp z)), qs, FRC_tr fr qr⟩
    · refine CPO_ok ⟨qf, fun z => qb (eB.mpr z)⟩ ?_
      obtain ⟨⟨c1, c2, c3, c4, c5⟩, a2, a3, a4, a5, a6, a7, a8, a9⟩ := qn
      have i3 : ∀ k, k ≠ 441 → k ≠ 712 → w3.1 k = m3.1 k := fun k h1 h2 => by rw [f3.1 k h1, upI_ne h2]
      refine ⟨⟨by rw [upI_ne (by decide)]; exact c1, c2, by rw [upI_ne (by decide)]; exact c3, c4, CNl_fr c5 rfl (fun _ _ => rfl)⟩, a2, fun j hj => (a3 j hj).trans (congrFun (f3.2.1 41 (by decide)) j), by rw [show w3.2.2.1 42 = m3.2.2.1 42 from f3.2.1 42 (by decide)] at a4; exact a4, C11_e (C11_b a5 (by have := f3.2.2; rw [upI_ne (by decide)] at this; exact this) (i3 711 (by decide) (by decide))) (upI_ne (by decide)) (upI_ne (by decide)), by rw [upI_ne (by decide), a6, i3 714 (by decide) (by decide)], upI_at, by rw [upI_ne (by decide), a8, i3 713 (by decide) (by decide)], FRC_tr (FRC_tr fr a9) (upI_FRC (by decide))⟩
theorem CPO_nx (hn : NPE nm (sc.length - 1) sc1 (max cm X1) (wup (m.2.2.1 42) K W p q) Z1 m v) (h2 : CPO K nm q p2 sc1 sc2 X2 W R2 Z2 B2 (max cm X1) v u) (hpq : p ≤ q ∧ q ≤ p2) (hl : sc1.length = sc.length) (s2 : STB B2) : CPO K nm p p2 sc sc2 (max X1 X2) W R2 (Z1 || Z2) B2 cm m u := by
  have fr := hn.2.2.2.2.2.2.2.2
  rcases h2 with ⟨qf2, qs2, qr2⟩ | ⟨⟨qf2, qb2⟩, qn2⟩
  · refine Or.inl ⟨?_, qs2, FRC_tr fr qr2⟩
    rcases qf2 with z | z
    · exact Or.inl z
    · exact Or.inr ((s2 m v fr).mp z)
  · refine CPO_ok ⟨qf2, fun z => qb2 ((s2 m v fr).mpr z)⟩ ?_
    rw [hl, hn.2.2.2.1, wup_tr hpq.1 hpq.2] at qn2
    rw [show max cm (max X1 X2) = max (max cm X1) X2 by omega]
    exact NPE_tr hn qn2
theorem trb_mk {mp mg : MS} {l1 l2 np ng : Nat} (hn : nod m2 π = (a, b, I ((lp.headD 0 : Nat) : Int), I ((lg.headD 0 : Nat) : Int), c)) (hlo : lo < π) (hπ : π ≤ n2) (hl : n2 ≤ 8015) (hp : PRW N K nm mp l1 np own W lp p q sc sc1 X1) (kp : (∀ j, l1 < j → j ≤ np → nod m2 j = nod mp j ∧ m2.2.2.1 21 j = mp.2.2.1 21 j) ∧ Kcc mp m2) (hl1 : lo ≤ l1) (hnp : np < π) (hX1 : X1 ≤ 1400) (hg : ERW N K nm true mg l2 ng W lg q p2 sc1 sc2 X2 Rf Zf BC) (kg : (∀ j, l2 < j → j ≤ ng → nod m2 j = nod mg j ∧ m2.2.2.1 21 j = mg.2.2.1 21 j) ∧ Kcc mg m2) (hl2 : lo ≤ l2) (hng : ng < π) (sB : STB BC) : TRB N K nm own m2 lo n2 π p p2 sc sc2 (max X1 X2) W Rf Zf BC := by
  intro d m3 cm what hw kx cp
  obtain ⟨i1, i2, i3⟩ := PRW_len hp
  obtain ⟨i4, i5, i6⟩ := ERW_len hg
  cases d with
  | zero => exact pk_none
  | succ d =>
    have e0 := KPX_nod kx hlo hπ
    rw [hn] at e0
    have e18 : m3.2.2.1 18 π = I ((lp.headD 0 : Nat) : Int) := (Prod.mk.inj (Prod.mk.inj (Prod.mk.inj e0).2).2).1
    have e19 : m3.2.2.1 19 π = I ((lg.headD 0 : Nat) : Int) := (Prod.mk.inj (Prod.mk.inj (Prod.mk.inj (Prod.mk.inj e0).2).2).2).1
    have kp3 : (∀ j, l1 < j → j ≤ np → nod m3 j = nod mp j ∧ m3.2.2.1 21 j = mp.2.2.1 21 j) ∧ Kcc mp m3 := ⟨fun j u1 u2 => ⟨(kx.1 j (by omega) (by omega)).1.trans (kp.1 j u1 u2).1, ((kx.1 j (by omega) (by omega)).2 (by omega)).trans (kp.1 j u1 u2).2⟩, Kc_tr kp.2 kx.2⟩
    have kg3 : (∀ j, l2 < j → j ≤ ng → nod m3 j = nod mg j ∧ m3.2.2.1 21 j = mg.2.2.1 21 j) ∧ Kcc mg m3 := ⟨fun j u1 u2 => ⟨(kx.1 j (by omega) (by omega)).1.trans (kg.1 j u1 u2).1, ((kx.1 j (by omega) (by omega)).2 (by omega)).trans (kg.1 j u1 u2).2⟩, Kc_tr kg.2 kx.2⟩
    have kgv : ∀ v, FRC m3 v → (∀ j, l2 < j → j ≤ ng → nod v j = nod mg j ∧ v.2.2.1 21 j = mg.2.2.1 21 j) ∧ Kcc mg v := fun v fr => by
      have k0 : KPX l2 ng 0 mg m3 := ⟨fun j h0 hj => ⟨(kg3.1 j h0 hj).1, fun _ => (kg3.1 j h0 hj).2⟩, kg3.2⟩
      have k1 := KPX_f k0 fr
      refine ⟨fun j h0 hj => ⟨(k1.1 j h0 hj).1, ?_⟩, k1.2⟩
      rw [fr.2 21 (by omega)]
      exact (kg3.1 j h0 hj).2
    show PK _ (hm_Cm_tries N (hrc_Cm_fun N d) m3 what (I (π : Nat)))
    unfold hm_Cm_tries hb_Cm_tries_0 hb_Cm_tries_57
    rw [tnI (n := π) rfl (by omega), e18]
    refine pk_ck (fun _ => ?_)
    cases lp with
    | nil =>
      obtain ⟨h1, h2, h3⟩ := hp
      subst h1
      subst h2
      subst h3
      rw [show decide (I ((([] : List Nat).headD 0 : Nat) : Int) = 0) = true from rfl, br_tq, Nat.max_eq_right (Nat.zero_le X2)]
      exact tri_111 (by omega) e19 hg (by omega) (kgv m3 FRC_rf) cp sB
    | cons ν l =>
      have hν : 1 ≤ ν ∧ ν ≤ np := by
        obtain ⟨q, q2, sc1, X1, X2, h1, g1, _, h3, _⟩ := hp
        exact h3
      rw [decide_eq_false (p := I (((ν :: l).headD 0 : Nat) : Int) = 0) (fun z => by have := (I_eq (x := (ν : Nat)) (y := 0) (by omega) (by omega) (by omega) (by omega)).mp z; omega), br_fq]
      refine pk_bnd (fun w1 r1 x1 => pk_bnd (fun w2 r2 x2 => pk_bnd (fun w3 r3 x3 => ?_)))
      have f1 := yu_hm_Co_put (u0 := m3) Ku_rf w1 r1 x1
      have f2 := yu_hm_Co_put (u0 := m3) f1 w2 r2 x2
      have f3 := yu_hm_Co_hook (u0 := m3) f2 w3 r3 x3
      have cp3 := CPR_u cp f3
      have go : ∀ t1 : Int32, decide (t1 = 0) = !own → PK (fun m4 (_ : Int32) => CPO K nm p p2 sc sc2 (max X1 X2) W Rf Zf BC cm m3 m4) (ck (isb t1) (lt (upI w3 713 t1) (fun w46 => ck (inb (I (π : Nat)) 8016) ((hg_Cm_tries N (hrc_Cm_fun N d) N).1 w46 (I (π : Nat)) (m3.1 706) r3 (w46.2.2.1 18 π))))) := fun t1 ht1 => by
        refine pk_ck (fun _ => pk_lt (pk_ck (fun _ => ?_)))
        have fr46 : FRC m3 (upI w3 713 t1) := FRC_tr (FRC_u f3) (upI_FRC (by decide))
        rw [show (upI w3 713 t1).2.2.1 18 π = I (((ν :: l).headD 0 : Nat) : Int) from by rw [fr46.2 18 (by omega)]; exact e18]
        have k0 : KPX l1 np 0 mp m3 := ⟨fun j h0 hj => ⟨(kp3.1 j h0 hj).1, fun _ => (kp3.1 j h0 hj).2⟩, kp3.2⟩
        have k1 := KPX_f k0 fr46
        refine tri_p (by omega) hp N (upI w3 713 t1) cm _ _ _ _ (fun j h0 hj => ⟨(k1.1 j h0 hj).1, ?_⟩) k1.2 ⟨by rw [upI_ne (by decide)]; exact cp3.2.1.1, cp3.2.1.2.1, by rw [upI_ne (by decide)]; exact cp3.2.1.2.2.1, cp3.2.1.2.2.2.1, CNl_fr cp3.2.1.2.2.2.2 rfl (fun _ _ => rfl)⟩ cp3.2.2.1 cp3.2.2.2.1 (fun _ => by have := cp3.2.2.2.1; omega) (by rw [upI_at]; exact ht1) (by have := cp.2.2.2.2.2.2; omega) (fun M' v qv fv => ?_)
        · rw [fr46.2 21 (by omega)]
          exact (kp3.1 j h0 hj).2
        · refine pk_lt (pk_bnd (fun w5 r5 x5 => ?_))
          have f5 := yu_hm_Co_put (u0 := upI v 713 0) Ku_rf w5 r5 x5
          have ne : NPE nm (sc.length - 1) sc1 (max cm X1) (wup (m3.2.2.1 42) K W p q) false m3 w5 := by
            refine NPE_u ?_ f5
            obtain ⟨⟨c1, c2, c3, c4, c5⟩, b2, b3, b4⟩ := qv
            have j3 : ∀ k, k ≠ 441 → k ≠ 713 → k ≠ 706 → (k < 440 ∨ 460 ≤ k) → v.1 k = m3.1 k := fun k h1 h2 h3 h4 => by rw [b4.1 k h3 h4, upI_ne h2, f3.1 k h1]
            have r41 : (upI w3 713 t1).2.2.1 41 = m3.2.2.1 41 := f3.2.1 41 (by decide)
            have r42 : (upI w3 713 t1).2.2.1 42 = m3.2.2.1 42 := f3.2.1 42 (by decide)
            rw [r41] at b2
            rw [r42] at b3
            exact ⟨⟨by rw [upI_ne (by decide)]; exact c1, c2, by rw [upI_ne (by decide)]; exact c3, c4, CNl_fr c5 rfl (fun _ _ => rfl)⟩, (congrFun b2 _).trans upd_at, fun j hj => (congrFun b2 j).trans (upd_no (by omega)), b3, C11_e (C11_m (Int32.le_trans f3.2.2 (by have := fv.2; rw [upI_ne (by decide)] at this; exact this)) (j3 711 (by decide) (by decide) (by decide) (by decide))) (upI_ne (by decide)) (upI_ne (by decide)), by rw [upI_ne (by decide), j3 714 (by decide) (by decide) (by decide) (by decide)], by rw [upI_ne (by decide), j3 712 (by decide) (by decide) (by decide) (by decide)], by rw [upI_at]; exact cp.2.2.2.2.1.symm, FRC_tr (FRC_tr fr46 fv.1) (upI_FRC (by decide))⟩
          have fr5 := ne.2.2.2.2.2.2.2.2
          refine pk_mo (tri_111 (by omega) (by rw [fr5.2 19 (by omega)]; exact e19) hg (by omega) (kgv w5 fr5) (CPR_2 (p := p) (p2 := p2) (q := q) cp ne i3 hX1 (by have := cp.2.2.2.2.2.2; omega)) sB) (fun u _ qu => ?_)
          have := CPO_nx ne qu ⟨i1, i4⟩ i3 sB
          rw [Bool.false_or] at this
          exact this
      refine pk_br (fun z => go 0 ?_) (fun z => go 1 ?_)
      · rw [← hw, z]; rfl
      · rw [← hw, z]; rfl
theorem bdb_mk {mb : MS} {l3 nb : Nat} (hn : nod m2 π = (a, b, c, e, I ((lb.headD 0 : Nat) : Int))) (hlo : lo < π) (hπ : π ≤ n2) (hl : n2 ≤ 8015) (hb : ERW N K nm false mb l3 nb W lb p p2 sc sc2 X Rf Zf BC) (kb : (∀ j, l3 < j → j ≤ nb → nod m2 j = nod mb j ∧ m2.2.2.1 21 j = mb.2.2.1 21 j) ∧ Kcc mb m2) (hl3 : lo ≤ l3) (hnb : nb < π) : BDB N K nm m2 lo n2 π p p2 sc sc2 X W Rf Zf BC := by
  intro d m3 cm last kx cp
  have e0 := KPX_nod kx hlo hπ
  rw [hn] at e0
  have e20 : m3.2.2.1 20 π = I ((lb.headD 0 : Nat) : Int) := (Prod.mk.inj (Prod.mk.inj (Prod.mk.inj (Prod.mk.inj e0).2).2).2).2
  rw [e20]
  exact bod_S hb (by omega) ⟨fun j u1 u2 => ⟨(kx.1 j (by omega) (by omega)).1.trans (kb.1 j u1 u2).1, ((kx.1 j (by omega) (by omega)).2 (by omega)).trans (kb.1 j u1 u2).2⟩, Kc_tr kb.2 kx.2⟩ d cp
end
