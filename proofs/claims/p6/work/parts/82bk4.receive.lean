set_option maxRecDepth 100000
def CPA (nm : Nat → Nat) (s : Nat) (sc2 : SCT) (c2 : Nat) (G : (Nat → Int32) → (Nat → Int32)) (Rf Zf : Bool) (BC : MS → Prop) (m v : MS) : Prop := ((Rf = true ∨ BC m) ∧ v.1 714 < 1000000000 ∧ FRC m v) ∨ ((Rf = false ∧ ¬ BC m) ∧ NPE nm s sc2 c2 (G (m.2.2.1 42)) Zf m v)
section
variable {m v u m1 m2 m3 mi : MS} {K nm W : Nat → Nat} {sc sc1 sc2 sc3 t t2 : SCT} {e0 e2 : List Nat × List Nat × Nat} {s x y N i f tok cm cm2 c1 c2 p p2 q q2 q3 q4 q5 q6 n1 n2 n3 ν μ π lo li ni X X1 X2 k : Nat} {gd Zf Rf R1 R2 Z1 Z2 own : Bool} {g : Nat → Int32} {G G1 G2 : (Nat → Int32) → (Nat → Int32)} {B1 B2 BC : MS → Prop} {a b c e f : Int32} {l lp lg lb : List Nat} {S : SF_Cm_fun}
theorem CPA_of (h : CPO K nm p p2 sc sc2 X W Rf Zf BC cm m v) : CPA nm (sc.length - 1) sc2 (max cm X) (fun g => wup g K W p p2) Rf Zf BC m v := h
theorem CPA_z (h : (Rf = true ∨ BC m) ∧ v.1 714 < 1000000000 ∧ FRC m v) (k : Kzc v u) : CPA nm s sc2 c2 G Rf Zf BC m u := Or.inl ⟨h.1, k.1, FRC_tr h.2.2 k.2⟩
theorem CPA_u (h : CPA nm s sc2 c2 G Rf Zf BC m v) (k : Kuc v u) : CPA nm s sc2 c2 G Rf Zf BC m u := by
  rcases h with ⟨h1, h2, h3⟩ | ⟨h1, h2⟩
  · exact Or.inl ⟨h1, Ku_s h2 k, FRC_tr h3 (FRC_u k)⟩
  · exact Or.inr ⟨h1, NPE_u h2 k⟩
theorem CPA_v (k : Kuc m v) (hb : STB BC) (h : CPA nm s sc2 c2 G Rf Zf BC v u) : CPA nm s sc2 c2 G Rf Zf BC m u := by
  have e := hb m v (FRC_u k)
  rcases h with ⟨h1, h2, h3⟩ | ⟨h1, h2⟩
  · exact Or.inl ⟨h1.elim Or.inl (fun z => Or.inr (e.mp z)), h2, FRC_tr (FRC_u k) h3⟩
  · obtain ⟨a1, a2, a3, a4, a5, a6, a7, a8, a9⟩ := h2
    exact Or.inr ⟨⟨h1.1, fun z => h1.2 (e.mpr z)⟩, a1, a2, fun j hj => by rw [a3 j hj, k.2.1 41 (by decide)], by rw [a4, k.2.1 42 (by decide)], C11_b a5 k.2.2 (k.1 711 (by decide)), by rw [a6, k.1 714 (by decide)], by rw [a7, k.1 712 (by decide)], by rw [a8, k.1 713 (by decide)], FRC_tr (FRC_u k) a9⟩
theorem CPA_b (i : ∀ k, k ∈ [711, 712, 713, 714] → v.1 k = m.1 k) (r41 : v.2.2.1 41 = m.2.2.1 41) (r42 : v.2.2.1 42 = m.2.2.1 42) (fr : FRC m v) (mo : m.1 441 ≤ v.1 441) (sB : STB BC) (h : CPA nm s sc2 c2 G Rf Zf BC v u) : CPA nm s sc2 c2 G Rf Zf BC m u := by
  have e := sB m v fr
  rcases h with ⟨h1, h2, h3⟩ | ⟨h1, h2⟩
  · exact Or.inl ⟨h1.elim Or.inl (fun z => Or.inr (e.mp z)), h2, FRC_tr fr h3⟩
  · obtain ⟨a1, a2, a3, a4, a5, a6, a7, a8, a9⟩ := h2
    exact Or.inr ⟨⟨h1.1, fun z => h1.2 (e.mpr z)⟩, a1, a2, fun j hj => by rw [a3 j hj, r41], by rw [a4, r42], C11_b a5 mo (i 711 (by decide)), by rw [a6, i 714 (by decide)], by rw [a7, i 712 (by decide)], by rw [a8, i 713 (by decide)], FRC_tr fr a9⟩
theorem CPA_bc (hb : B2 m ↔ BC m) (h : CPA nm s sc2 c2 G Rf Zf BC m v) : CPA nm s sc2 c2 G Rf Zf B2 m v := by
  unfold CPA at h ⊢
  rw [hb]
  exact h
theorem cpa_fgt {b : Nat} {mk : Int32} (h : CPA nm s (e2 :: t2) c2 G Rf Zf BC m v) (hb : b ≤ e2.1.length) (hm : mk = I ((tot t2 + b : Nat) : Int)) : PK (fun u (_ : Unit) => CPA nm s (cutS b (e2 :: t2)) c2 G Rf Zf BC m u) (hm_Cm_forget N v mk) := by
  refine pk_mo fgt_v (fun u _ q => ?_)
  obtain ⟨w, kw, rfl⟩ := q
  rcases CPA_u h kw with ⟨h1, h2, h3⟩ | ⟨h1, h2⟩
  · exact Or.inl ⟨h1, by rw [upI_ne (by decide)]; exact h2, ⟨fun k hk => by rw [upI_ne (by omega)]; exact h3.1 k hk, h3.2⟩⟩
  · exact Or.inr ⟨h1, NPE_cut h2 hb hm⟩
theorem cpa_bnd {α β : Type} {o : Option (MS × α)} {f : MS → α → Option (MS × β)} (h1 : PK (fun v _ => CPA nm s sc1 c1 G1 R1 Z1 B1 m v) o) (s2 : STB B2) (hz : ∀ v r, Kzc v v → KzE v (f v r)) (h2 : ∀ v r, o = some (v, r) → NPE nm s sc1 c1 (G1 (m.2.2.1 42)) Z1 m v → PK (fun u _ => CPA nm s sc2 c2 G2 R2 Z2 B2 v u) (f v r)) : PK (fun u _ => CPA nm s sc2 c2 (fun g => G2 (G1 g)) (R1 || R2) (Z1 || Z2) (fun m => B1 m ∨ B2 m) m u) (bnd o f) := by
  refine pk_bnd (fun v r e => ?_)
  rcases h1 v r e with ⟨hf, hs, hr⟩ | ⟨⟨hf, hb⟩, hn⟩
  · refine pk_mo (fun u r2 e2 => hz v r ⟨hs, FRC_rf⟩ u r2 e2) (fun u _ z => ?_)
    refine CPA_z (v := v) ⟨?_, hs, hr⟩ z
    rcases hf with hf | hf
    · exact Or.inl (by rw [hf]; rfl)
    · exact Or.inr (Or.inl hf)
  · have fr := hn.2.2.2.2.2.2.2.2
    refine pk_mo (h2 v r e hn) (fun u _ qu => ?_)
    rcases qu with ⟨qf2, qs2, qr2⟩ | ⟨⟨qf2, qb2⟩, qn2⟩
    · refine Or.inl ⟨?_, qs2, FRC_tr fr qr2⟩
      rcases qf2 with z | z
      · exact Or.inl (by rw [z]; simp)
      · exact Or.inr (Or.inr ((s2 m v fr).mp z))
    · refine Or.inr ⟨⟨by rw [hf, qf2]; rfl, fun z => ?_⟩, ?_⟩
      · rcases z with z | z
        · exact hb z
        · exact qb2 ((s2 m v fr).mpr z)
      · rw [hn.2.2.2.1] at qn2
        exact NPE_tr hn qn2
theorem STB_or (h1 : STB B1) (h2 : STB B2) : STB (fun m => B1 m ∨ B2 m) := fun m v f => by
  show (B1 v ∨ B2 v) ↔ (B1 m ∨ B2 m)
  rw [h1 m v f, h2 m v f]
theorem exn_rc0 {b : Nat} (hn : nod m2 ν = (I ((11 : Nat) : Int), I (tok : Nat), I ((0 : Nat) : Int), I ((l.headD 0 : Nat) : Int), e)) (htk : tok ≤ 4000) (hlo : lo < ν) (hν : ν ≤ n2) (hl : n2 ≤ 8015) (hq : p ≤ q ∧ q ≤ q2 ∧ q2 ≤ p2) (g1 : ∀ j, p ≤ j → j < q → K j ≠ 3) (g2 : ∀ j, q2 ≤ j → j < p2 → K j ≠ 3) (h : PLW N K nm m1 lo n1 W b l q q2 sc sc2 X Rf Zf BC) (h1 : KPO n1 m1 m2) (hk : Kcc m1 m2) (hn1 : n1 < ν) (sB : STB BC) : EXN N K nm gd m2 lo n2 ν p p2 sc sc2 X W (gd || Rf) Zf BC := by
  refine exn_cmp (k := 11) (by unfold CMK; omega) ⟨by decide, by decide⟩ hn htk hlo hν hl (fun _ d m3 cm last kx cp ee => ?_)
  unfold cmpR hb_Cm_compound_455
  rw [tnI (n := ν) rfl (by omega), ee.1]
  refine pk_ck (fun _ => ?_)
  rw [show decide (I ((11 : Nat) : Int) = 8) = false from rfl, br_fq, show decide (I ((11 : Nat) : Int) = 9) = false from rfl, br_fq, show decide (I ((11 : Nat) : Int) = 10) = false from rfl, br_fq, show decide (I ((11 : Nat) : Int) = 11) = true from rfl, br_tq]
  cases d with
  | zero => exact pk_none
  | succ d =>
    refine pk_bnd ?_
    show PK _ (hm_Cm_receive N (hrc_Cm_fun N d) m3 (I (ν : Nat)) last)
    refine pk_mo (Q := fun u (_ : Unit) => CPO K nm p p2 sc sc2 X W Rf Zf BC cm m3 u) ?_ (fun v _ q => pk_some q)
    unfold hm_Cm_receive hb_Cm_receive_0 hb_Cm_receive_22 hb_Cm_receive_48 hb_Cm_receive_71 hb_Cm_receive_173
    rw [tnI (n := ν) rfl (by omega), ee.2.2.1, show decide (I ((0 : Nat) : Int) = 0) = true from rfl, br_tq, show decide ((0 : Int32) = 0) = true from rfl, br_tq]
    simp only [br_tq]
    refine pk_ck (fun _ => pk_bnd (fun w0 r0 x0 => pk_bnd (fun w1 r1 x1 => pk_bnd (fun w2 r2 x2 => pk_bnd (fun w3 r3 x3 => pk_ck (fun _ => ?_))))))
    have f0 := yu_hm_Co_put (u0 := m3) Ku_rf w0 r0 x0
    have f1 := yu_hm_Co_put (u0 := m3) f0 w1 r1 x1
    have f2 := yu_hm_Co_put (u0 := m3) f1 w2 r2 x2
    have f3 := yu_hm_Co_hook (u0 := m3) f2 w3 r3 x3
    rw [f3.2.1 19 (by decide), ee.2.2.2.1]
    refine pk_bnd (pk_mo (prt_S h (by omega) (chi_k h1 hk hn1 hν (KPX_f kx (FRC_u f3))) d (wh := -2) rfl (CPR_u (CPR_in cp (by omega)) f3)) (fun v _ q => ?_))
    have q := CPO_v f3 sB (CPO_ext hq g1 g2 q)
    refine pk_bnd (fun w4 r4 x4 => pk_bnd (fun w5 r5 x5 => pk_bnd (fun w6 r6 x6 => pk_bnd (fun w7 r7 x7 => pk_some ?_))))
    have f4 := yu_hm_Co_put (u0 := v) Ku_rf w4 r4 x4
    have f5 := yu_hm_Co_put (u0 := v) f4 w5 r5 x5
    have f6 := yu_hm_Co_arrive (u0 := v) f5 w6 r6 x6
    have f7 := yu_hm_Co_arrive (u0 := v) f6 w7 r7 x7
    exact CPO_u q f7
theorem exn_rc1 {mt mb : MS} {nt lt' nb lb' Xt X3 : Nat} {et e3 : List Nat × List Nat × Nat} {tt t3 : SCT} {Rt Zt R3 Z3 : Bool} {Bt B3 : MS → Prop} (hn : nod m2 ν = (I ((11 : Nat) : Int), I (tok : Nat), I (μ : Nat), I ((l.headD 0 : Nat) : Int), I ((lb.headD 0 : Nat) : Int))) (hμ : 1 ≤ μ ∧ μ ≤ n2) (htk : tok ≤ 4000) (hlo : lo < ν) (hν : ν ≤ n2) (hl : n2 ≤ 8015) (hq : p ≤ q ∧ q ≤ q2 ∧ q2 ≤ q3 ∧ q3 ≤ q4 ∧ q4 ≤ q5 ∧ q5 ≤ q6 ∧ q6 ≤ p2) (g1 : ∀ j, p ≤ j → j < q → K j ≠ 3) (g3 : ∀ j, q2 ≤ j → j < q3 → K j ≠ 3) (g4 : ∀ j, q4 ≤ j → j < q5 → K j ≠ 3) (g2 : ∀ j, q6 ≤ j → j < p2 → K j ≠ 3) (h : PLW N K nm m1 li n1 W e0.1.length l q q2 (e0 :: t) sc1 X1 R1 Z1 B1) (hli : lo ≤ li) (h1 : KPO n1 m1 m2) (hk : Kcc m1 m2) (hn1 : n1 < ν) (s1 : STB B1) (hm1 : nms sc1 = nms (e0 :: t)) (hX1 : X1 ≤ 1400) (hT : EXN N K nm false mt lt' nt μ q3 q4 sc1 (et :: tt) Xt W Rt Zt Bt) (hlt : lo ≤ lt') (ht1 : KPO nt mt m2) (htk2 : Kcc mt m2) (hnt : nt < ν) (hXt : Xt ≤ 1400) (hbt : e0.1.length ≤ et.1.length ∧ tot tt + e0.1.length = tot (e0 :: t)) (hmt : nms (cutS e0.1.length (et :: tt)) = nms (e0 :: t)) (htt : tot (et :: tt) ≤ tot sc1 + (q4 - q3) ∧ (et :: tt).length = sc1.length) (hB : ERW N K nm false mb lb' nb W lb q5 q6 (cutS e0.1.length (et :: tt)) (e3 :: t3) X3 R3 Z3 B3) (hlb : lo ≤ lb') (hb1 : KPO nb mb m2) (hbk : Kcc mb m2) (hnb : nb < ν) (s3 : STB B3) (hb3 : e0.1.length ≤ e3.1.length ∧ tot t3 + e0.1.length = tot (e0 :: t)) : EXN N K nm gd m2 lo n2 ν p p2 (e0 :: t) (cutS e0.1.length (e3 :: t3)) (max Xt (max X1 X3)) W (gd || (Rt || (R1 || R3))) (Zt || (Z1 || Z3)) (fun m => Bt m ∨ (B1 m ∨ B3 m)) := by
  refine exn_cmp (k := 11) (by unfold CMK; omega) ⟨by decide, by decide⟩ hn htk hlo hν hl (fun _ d m3 cm last kx cp ee => ?_)
  unfold cmpR hb_Cm_compound_455
  rw [tnI (n := ν) rfl (by omega), ee.1]
  refine pk_ck (fun _ => ?_)
  rw [show decide (I ((11 : Nat) : Int) = 8) = false from rfl, br_fq, show decide (I ((11 : Nat) : Int) = 9) = false from rfl, br_fq, show decide (I ((11 : Nat) : Int) = 10) = false from rfl, br_fq, show decide (I ((11 : Nat) : Int) = 11) = true from rfl, br_tq]
  have sl1 := nms_len hm1
  have stt := nms_len hmt
  have tl1 := nms_tot hm1
  have tlt := nms_tot hmt
  obtain ⟨i1, i2, i3⟩ := ERW_len hB
  rw [cutS_len] at stt
  cases d with
  | zero => exact pk_none
  | succ d =>
    refine pk_bnd ?_
    show PK _ (hm_Cm_receive N (hrc_Cm_fun N d) m3 (I (ν : Nat)) last)
    have c706 := cp.2.1.2.2.1
    refine pk_mo (Q := fun u (_ : Unit) => CPA nm ((e0 :: t).length - 1) (cutS e0.1.length (e3 :: t3)) (max (max (max cm Xt) X1) X3) (fun g => wup (wup (wup g K W q3 q4) K W q q2) K W q5 q6) (Rt || (R1 || R3)) (Zt || (Z1 || Z3)) (fun m => Bt m ∨ (B1 m ∨ B3 m)) m3 u) ?_ (fun v _ qq => pk_some ?_)
    rotate_left
    · have eG : (fun g => wup (wup (wup g K W q3 q4) K W q q2) K W q5 q6) (m3.2.2.1 42) = wup (m3.2.2.1 42) K W p p2 := by
        show wup (wup (wup (m3.2.2.1 42) K W q3 q4) K W q q2) K W q5 q6 = _
        rw [wup_sw (g := m3.2.2.1 42) (p := q) (q := q2) (q2 := q3) (p2 := q4) hq.2.1 hq.2.2.1 hq.2.2.2.1 g3, wup_ext (p := p) (q := q) (q2 := q6) (p2 := p2) ⟨hq.1, by omega, hq.2.2.2.2.2.2⟩ g1 g2, ← wup_tr (p := q) (q := q4) (p2 := q6) (by omega) (by omega), wup_ext (p := q4) (q := q5) (q2 := q6) (p2 := q6) ⟨hq.2.2.2.2.1, hq.2.2.2.2.2.1, Nat.le_refl _⟩ g4 (fun j y1 y2 => absurd y2 (by omega))]
      unfold CPA at qq
      rw [eG, show max (max (max cm Xt) X1) X3 = max cm (max Xt (max X1 X3)) by omega] at qq
      exact qq
    unfold hm_Cm_receive hb_Cm_receive_0 hb_Cm_receive_22
    rw [tnI (n := ν) rfl (by omega), ee.2.2.1, decide_eq_false (p := I (μ : Nat) = 0) (fun z => by have := (I_eq (x := (μ : Nat)) (y := 0) (by omega) (by omega) (by omega) (by omega)).mp z; omega), br_fq, show decide ((1 : Int32) = 0) = false from rfl, br_fq]
    refine pk_ck (fun _ => pk_ck (fun _ => ?_))
    have cpT := CPR_nm hm1.symm (CPR_in (q := q3) (q2 := q4) cp (by omega))
    refine cpa_bnd (c1 := max cm Xt) (G1 := fun g => wup g K W q3 q4) (G2 := fun g => wup (wup g K W q q2) K W q5 q6) (sc1 := et :: tt) (pk_mo (hT d m3 cm 0 (KPX_di ht1 htk2 kx (by omega) hnt hlt) cpT) (fun v _ z => ?_)) (STB_or s1 s3) (fun v r9 hv => ?_) (fun v r9 hv hn => ?_)
    · have z := CPA_of z
      rw [sl1] at z
      exact z
    · obtain ⟨hS0, hS1, hS2, hS3, hS4, hS5, hS6, hS7, hS8, hS9, hS10, hS11, hS12⟩ := yz_hrc_Cm_fun (u0 := v) (N := N) d
      unfold hb_Cm_receive_48 hb_Cm_receive_71 hb_Cm_receive_173
      repeat' (first | with_reducible assumption | with_reducible refine Kz_br ?_ ?_ | with_reducible refine Kz_bnd ?_ (fun _ _ _ => ?_) | with_reducible refine Kz_ck ?_ | with_reducible refine Kz_ltm ?_ (fun _ _ => ?_) | with_reducible refine Kz_some ?_ | with_reducible exact yz_hm_Cm_notInGuard (by assumption) | with_reducible exact yz_hr_Cm_pattern (by assumption) | with_reducible exact yz_hm_Cm_forget (by assumption) | with_reducible exact yz_hm_Co_arrive (by assumption) | with_reducible exact yz_hm_Cm_funOf (by assumption) | with_reducible exact yz_hm_Co_hook (by assumption) | with_reducible exact yz_hm_Co_put (by assumption) | with_reducible exact yz_hm_Cm_term (by assumption) | with_reducible exact yz_hm_Cm_string (by assumption) | with_reducible exact yz_hm_Co_seek (by assumption) | with_reducible exact yz_hm_Cm_predefinedOf (by assumption) | with_reducible exact yz_hm_Cm_fault (by assumption) | with_reducible exact yz_hm_Cm_joining (by assumption) | with_reducible exact yz_hm_Cm_hold (by assumption) | with_reducible exact yz_hm_Co_set (by assumption) | with_reducible exact yz_hm_Tr_length (by assumption) | with_reducible exact hS0 _ _ (by assumption) | with_reducible exact hS1 _ _ _ (by assumption) | with_reducible exact hS2 _ _ _ _ _ (by assumption) | with_reducible exact hS3 _ _ _ (by assumption) | with_reducible exact hS4 _ _ _ (by assumption) | with_reducible exact hS5 _ _ _ (by assumption) | with_reducible exact hS6 _ _ _ (by assumption) | with_reducible exact hS7 _ _ (by assumption) | with_reducible exact hS8 _ _ (by assumption) | with_reducible exact hS9 _ _ (by assumption) | with_reducible exact hS10 _ _ _ (by assumption) | with_reducible exact hS11 _ _ _ (by assumption) | with_reducible exact hS12 _ _ _ _ (by assumption) | with_reducible exact yz_hg_Cm_apply hS0 hS1 hS2 hS3 hS4 hS5 hS6 hS7 hS8 hS9 hS10 hS11 hS12 _ _ _ _ _ (by assumption) | with_reducible exact yz_hg_Cm_row hS0 hS1 hS2 hS3 hS4 hS5 hS6 hS7 hS8 hS9 hS10 hS11 hS12 _ _ _ (by assumption) | with_reducible exact yz_hg_Cm_signs hS0 hS1 hS2 hS3 hS4 hS5 hS6 hS7 hS8 hS9 hS10 hS11 hS12 _ _ _ _ _ _ _ (by assumption) | with_reducible exact yz_hg_Cm_body hS0 hS1 hS2 hS3 hS4 hS5 hS6 hS7 hS8 hS9 hS10 hS11 hS12 _ _ _ _ (by assumption) | with_reducible exact yz_hg_Cm_parts hS0 hS1 hS2 hS3 hS4 hS5 hS6 hS7 hS8 hS9 hS10 hS11 hS12 _ _ _ _ _ _ _ (by assumption) | with_reducible exact (yz_hg_Cm_tries hS0 hS1 hS2 hS3 hS4 hS5 hS6 hS7 hS8 hS9 hS10 hS11 hS12 _).1 _ _ _ _ _ (by assumption) | with_reducible exact (yz_hg_Cm_tries hS0 hS1 hS2 hS3 hS4 hS5 hS6 hS7 hS8 hS9 hS10 hS11 hS12 _).2 _ _ _ _ (by assumption) | with_reducible refine Kz_ltv (fun _ => ?_) | with_reducible refine Kz_I ?_ (by decide) | with_reducible refine Kz_A ?_ (by decide))
    have hn' : NPE nm (sc1.length - 1) (et :: tt) (max cm Xt) (wup (m3.2.2.1 42) K W q3 q4) Zt m3 v := by rw [sl1]; exact hn
    have cpv : CPR nm false q4 q4 (et :: tt) (max cm Xt) v := CPR_2 (p := q3) (p2 := q4) (q := q4) cpT hn' htt.2 hXt (by have := cp.2.2.2.2.2.2; omega)
    refine pk_bnd (pk_mo fgt_v (fun w1 _ qw => ?_))
    obtain ⟨w0, kw, rfl⟩ := qw
    have cpc := CPR_cut (mk := m3.1 706) cpv kw hbt.1 (by rw [hbt.2]; exact c706)
    obtain ⟨z1, z2, z3, z4, z5⟩ := fgt_b (mk := m3.1 706) kw
    have nec : NPE nm ((e0 :: t).length - 1) (cutS e0.1.length (et :: tt)) (max cm Xt) (wup (m3.2.2.1 42) K W q3 q4) Zt m3 (upI w0 706 (m3.1 706)) := NPE_cut (NPE_u hn kw) hbt.1 (by rw [hbt.2]; exact c706)
    generalize upI w0 706 (m3.1 706) = w1 at cpc z1 z2 z3 z4 z5 nec
    refine pk_mo (Q := fun u (_ : Unit) => CPA nm ((e0 :: t).length - 1) (cutS e0.1.length (e3 :: t3)) (max (max (max cm Xt) X1) X3) (fun g => wup (wup g K W q q2) K W q5 q6) (R1 || R3) (Z1 || Z3) (fun m => B1 m ∨ B3 m) w1 u) ?_ (fun u _ z => CPA_b z1 z2 z3 z4 z5 (STB_or s1 s3) z)
    unfold hb_Cm_receive_48 hb_Cm_receive_71 hb_Cm_receive_173
    rw [show decide ((1 : Int32) = 0) = false from rfl]
    simp only [br_fq]
    refine pk_bnd (fun w2 r2 x2 => pk_bnd (fun w3 r3 x3 => pk_bnd (fun w4 r4 x4 => pk_bnd (fun w5 r5 x5 => pk_ck (fun _ => ?_)))))
    have f2 := yu_hm_Co_put (u0 := w1) Ku_rf w2 r2 x2
    have f3 := yu_hm_Co_put (u0 := w1) f2 w3 r3 x3
    have f4 := yu_hm_Co_put (u0 := w1) f3 w4 r4 x4
    have f5 := yu_hm_Co_hook (u0 := w1) f4 w5 r5 x5
    have fr1 := nec.2.2.2.2.2.2.2.2
    have fr5 := FRC_tr fr1 (FRC_u f5)
    rw [tnI (n := ν) rfl (by omega), fr5.2 19 (by omega), ee.2.2.2.1]
    refine pk_mo (Q := fun u (_ : Unit) => CPA nm ((e0 :: t).length - 1) (cutS e0.1.length (e3 :: t3)) (max (max (max cm Xt) X1) X3) (fun g => wup (wup g K W q q2) K W q5 q6) (R1 || R3) (Z1 || Z3) (fun m => B1 m ∨ B3 m) w5 u) ?_ (fun u _ z => CPA_v f5 (STB_or s1 s3) z)
    have cp5 : CPR nm false q q2 (e0 :: t) (max cm Xt) w5 := by
      have c := CPR_u cpc f5
      exact ⟨c.1, CNs_nm hmt c.2.1, by rw [← nms_len hmt]; exact c.2.2.1, c.2.2.2.1, c.2.2.2.2.1, c.2.2.2.2.2.1, by have := cp.2.2.2.2.2.2; omega⟩
    have kc5 := chi_k h1 hk hn1 hν (KPX_f kx fr5)
    refine cpa_bnd (c1 := max (max cm Xt) X1) (G1 := fun g => wup g K W q q2) (G2 := fun g => wup g K W q5 q6) (sc1 := sc1) (pk_mo (prt_S h (by omega) ⟨fun j u1 u2 => kc5.1 j (by omega) u2, kc5.2⟩ d (wh := -2) rfl cp5) (fun v _ z => CPA_of z)) s3 (fun v r9 hv => ?_) (fun v r9 hv hn2 => ?_)
    · obtain ⟨hS0, hS1, hS2, hS3, hS4, hS5, hS6, hS7, hS8, hS9, hS10, hS11, hS12⟩ := yz_hrc_Cm_fun (u0 := v) (N := N) d
      repeat' (first | with_reducible assumption | with_reducible refine Kz_br ?_ ?_ | with_reducible refine Kz_bnd ?_ (fun _ _ _ => ?_) | with_reducible refine Kz_ck ?_ | with_reducible refine Kz_ltm ?_ (fun _ _ => ?_) | with_reducible refine Kz_some ?_ | with_reducible exact yz_hm_Cm_notInGuard (by assumption) | with_reducible exact yz_hr_Cm_pattern (by assumption) | with_reducible exact yz_hm_Cm_forget (by assumption) | with_reducible exact yz_hm_Co_arrive (by assumption) | with_reducible exact yz_hm_Cm_funOf (by assumption) | with_reducible exact yz_hm_Co_hook (by assumption) | with_reducible exact yz_hm_Co_put (by assumption) | with_reducible exact yz_hm_Cm_term (by assumption) | with_reducible exact yz_hm_Cm_string (by assumption) | with_reducible exact yz_hm_Co_seek (by assumption) | with_reducible exact yz_hm_Cm_predefinedOf (by assumption) | with_reducible exact yz_hm_Cm_fault (by assumption) | with_reducible exact yz_hm_Cm_joining (by assumption) | with_reducible exact yz_hm_Cm_hold (by assumption) | with_reducible exact yz_hm_Co_set (by assumption) | with_reducible exact yz_hm_Tr_length (by assumption) | with_reducible exact hS0 _ _ (by assumption) | with_reducible exact hS1 _ _ _ (by assumption) | with_reducible exact hS2 _ _ _ _ _ (by assumption) | with_reducible exact hS3 _ _ _ (by assumption) | with_reducible exact hS4 _ _ _ (by assumption) | with_reducible exact hS5 _ _ _ (by assumption) | with_reducible exact hS6 _ _ _ (by assumption) | with_reducible exact hS7 _ _ (by assumption) | with_reducible exact hS8 _ _ (by assumption) | with_reducible exact hS9 _ _ (by assumption) | with_reducible exact hS10 _ _ _ (by assumption) | with_reducible exact hS11 _ _ _ (by assumption) | with_reducible exact hS12 _ _ _ _ (by assumption) | with_reducible exact yz_hg_Cm_apply hS0 hS1 hS2 hS3 hS4 hS5 hS6 hS7 hS8 hS9 hS10 hS11 hS12 _ _ _ _ _ (by assumption) | with_reducible exact yz_hg_Cm_row hS0 hS1 hS2 hS3 hS4 hS5 hS6 hS7 hS8 hS9 hS10 hS11 hS12 _ _ _ (by assumption) | with_reducible exact yz_hg_Cm_signs hS0 hS1 hS2 hS3 hS4 hS5 hS6 hS7 hS8 hS9 hS10 hS11 hS12 _ _ _ _ _ _ _ (by assumption) | with_reducible exact yz_hg_Cm_body hS0 hS1 hS2 hS3 hS4 hS5 hS6 hS7 hS8 hS9 hS10 hS11 hS12 _ _ _ _ (by assumption) | with_reducible exact yz_hg_Cm_parts hS0 hS1 hS2 hS3 hS4 hS5 hS6 hS7 hS8 hS9 hS10 hS11 hS12 _ _ _ _ _ _ _ (by assumption) | with_reducible exact (yz_hg_Cm_tries hS0 hS1 hS2 hS3 hS4 hS5 hS6 hS7 hS8 hS9 hS10 hS11 hS12 _).1 _ _ _ _ _ (by assumption) | with_reducible exact (yz_hg_Cm_tries hS0 hS1 hS2 hS3 hS4 hS5 hS6 hS7 hS8 hS9 hS10 hS11 hS12 _).2 _ _ _ _ (by assumption) | with_reducible refine Kz_ltv (fun _ => ?_) | with_reducible refine Kz_I ?_ (by decide) | with_reducible refine Kz_A ?_ (by decide))
    refine pk_bnd (fun w6 r6 x6 => pk_bnd (fun w7 r7 x7 => pk_bnd (fun w8 r8 x8 => pk_ck (fun _ => ?_))))
    have f6 := yu_hm_Co_put (u0 := v) Ku_rf w6 r6 x6
    have f7 := yu_hm_Co_put (u0 := v) f6 w7 r7 x7
    have f8 := yu_hm_Co_arrive (u0 := v) f7 w8 r8 x8
    have fr8 := FRC_tr (FRC_tr fr5 hn2.2.2.2.2.2.2.2.2) (FRC_u f8)
    rw [fr8.2 20 (by omega), ee.2.2.2.2]
    have cp8 : CPR nm false q5 q6 (cutS e0.1.length (et :: tt)) (max (max cm Xt) X1) w8 := by
      have c := CPR_u (CPR_2 (p := q) (p2 := q2) (q := q2) cp5 hn2 sl1 hX1 (by have := cp.2.2.2.2.2.2; omega)) f8
      have e2 := hm1.trans hmt.symm
      exact ⟨c.1, CNs_nm e2 c.2.1, by rw [← nms_len e2]; exact c.2.2.1, c.2.2.2.1, c.2.2.2.2.1, c.2.2.2.2.2.1, by have := cp.2.2.2.2.2.2; omega⟩
    have kc8 := chi_k hb1 hbk hnb hν (KPX_f kx fr8)
    refine pk_bnd (pk_mo (bod_S hB (by omega) ⟨fun j u1 u2 => kc8.1 j (by omega) u2, kc8.2⟩ d cp8) (fun v2 _ q2' => ?_))
    have q2' := CPA_of q2'
    rw [cutS_len, stt] at q2'
    refine pk_bnd (pk_mo (cpa_fgt q2' hb3.1 (by rw [hb3.2]; exact c706)) (fun w9 _ q9 => pk_bnd (fun wa ra xa => pk_some ?_)))
    exact CPA_v f8 s3 (CPA_u q9 (yu_hm_Co_arrive (u0 := w9) Ku_rf wa ra xa))
end
