/-! a catch goes, names go: two words there, two nodes here, the other way round -/
set_option maxRecDepth 100000
section
variable {T : TYc} {Fv Fv' : Int64 → Int64 → Prop} {P : Int64 → Prop} {AN : Nat} {TT : TY} {CC : CY} {pM pE : Nat → Nat} {ND CN PN SN UN FN N PR p i v mu M1 M2 f U B W Y l j a n : Nat} {m w : MS} {Q : MS → Int32 → MS → Int32 → Prop} {b : Int → Nat → Nat → Prop} {ow kw ow' kd' : Nat → Nat} {nb : Nat → Nat} {Hs Os : Nat → List Nat} {y : Option (Nat × Nat × Nat)}
theorem sk_1820 (ih : ∀ M1 v m w, SIA T Fv P Fv' AN TT CC pM pE ND CN PN SN UN FN p v m w → PP Q (qgo (SAf T Fv P p) N M1 m p (I ((v : Nat) : Int))) (gg_M_go N M2 w (I ((p : Nat) : Int)))) (s : STx T Fv P Fv' AN TT CC pM pE ND CN PN SN UN FN N PR p i v f b U B W Y l ow kw ow' kd' j nb Hs Os none a n m w) {k : Nat} (h23 : A w 23 n = 18) (h24 : A w 23 (n + 1) = 20) (c0 : A m 23 a = 30) (c1 : A m 23 (a + 1) = 16) (hd : A w 25 n = ((k : Nat) : Int)) (hk : k ≤ (Os j).length) (ht : A m 23 (a + 2) = (((Os j).length - k : Nat) : Int)) (cr : ∃ f, CRs (A m 23) (ROs w) (w.2.2.2 34) f none (a + 3) (n + 2) (Hs j) ((Os j).take k)) : PP Q (q67 (SAf T Fv P p) N (qgo (SAf T Fv P p) N M1) m p (I ((v : Nat) : Int))) (bnd (fm_M_one N w (I ((n : Nat) : Int)) (I 18)) (fun u _ => KRs Fv' AN TT CC ND CN UN FN N p mu (M2 + 1) w u)) := by
  obtain ⟨⟨r5, r8, r2⟩, ⟨ha, hn, hv, hpp, hj⟩, nd, ⟨pl, ru, bd⟩, ⟨n1, n2, n3⟩, bH, bW, bB, bY, nND, hN⟩ := st_b s
  have cb := CR_b cr.choose_spec
  obtain ⟨a0, q1, q2, -⟩ := (n2.2.2.2.2.2.2.1 h23).2
  have ek : a0 = k := by omega
  subst ek
  obtain ⟨⟨fa, ct⟩, ⟨-, r3⟩, -, ⟨-, r6⟩, r7, ⟨-, r9, r10⟩, r11, r12, r13⟩ := id ru
  obtain ⟨-, -, ⟨h955, h956⟩, ⟨h149, h150⟩, -⟩ := id s.2.2.1
  have fl := fa.2.1 j (Nat.le_refl _)
  have hct := sk_105 s q2
  obtain ⟨q, c28, c106, c3, -⟩ := id ct
  obtain ⟨c, rfl⟩ : ∃ c, q = c + 1 := ⟨q - 1, by
    obtain ⟨i2, h, mm, L, g2, x2, j2, wb, nb2, cb2, rk, M⟩ := cl_any s.2.2.2.1 r5 r8
    obtain ⟨-, -, st, ⟨ti, e5⟩, -⟩ := id M
    have ei : a = i2 := by omega
    subst ei
    have h1 := in_30 (M.1.2.2.1 _ _ _ _ _ _ ti).2.2.2.2.2 c0
    have h2 := st.2.2.2.1
    omega⟩
  have eB : B = nb j + (Hs j).length + (Os j).length := by
    have := fa.2.2.2
    rw [pl.2.1.1, List.length_append] at this
    omega
  have eB2 : B - ((Os j).length - a0) = nb j + (Hs j).length + a0 := by omega
  have cm1 : I ((c + 1 : Nat) : Int) - 1 = I ((c : Nat) : Int) := by rw [lit1, I_sub]; congr 1; omega
  -- there, the catch goes
  rw [go_fl r5 r8 (by omega) r2 (by omega) c0 ⟨by omega, by omega⟩, flo30, I_F' r2, show I ((a : Nat) : Int) + 1 = I ((a + 1 : Nat) : Int) from addN, Co_e (k := a + 1) rfl ha, bnd_so, I_F' c28, cm1, wi_e, lt_e]
  have e5 : F (wi m (pq p 28) ((c : Nat) : Int)) 1105 = ((a : Nat) : Int) := by rw [wi_ne (pq_n (by omega))]; exact r2
  rw [I_F' e5, show I ((a : Nat) : Int) + 1 = I ((a + 1 : Nat) : Int) from addN, wi_e]
  show PP Q (q195 (SAf T Fv P p) N (qgo (SAf T Fv P p) N M1) (wi (wi m (pq p 28) ((c : Nat) : Int)) 1105 ((a + 1 : Nat) : Int)) p (I ((v : Nat) : Int))) _
  have o1 : ∀ z, z < 100 → z ≠ 28 → (wi (wi m (pq p 28) ((c : Nat) : Int)) 1105 ((a + 1 : Nat) : Int)).1 (pq p z) = m.1 (pq p z) := fun z h1 h2 => (wi_1 (fun c => pq_n (by omega) c.symm)).trans (wi_1 (pq_inj h2))
  have o2 : ∀ z, z < 2000 → z ≠ 1105 → (wi (wi m (pq p 28) ((c : Nat) : Int)) 1105 ((a + 1 : Nat) : Int)).1 z = m.1 z := fun z h1 h2 => (wi_1 h2).trans (wi_1 (pq_n h1))
  have o28 : F (wi (wi m (pq p 28) ((c : Nat) : Int)) 1105 ((a + 1 : Nat) : Int)) (pq p 28) = ((c : Nat) : Int) := by rw [wi_ne (fun c => pq_n (by omega) c.symm), wi_sm (by omega) (by omega)]
  have o5 : F (wi (wi m (pq p 28) ((c : Nat) : Int)) 1105 ((a + 1 : Nat) : Int)) 1105 = ((a + 1 : Nat) : Int) := by rw [wi_sm (by omega) (by omega)]
  have oR : (wi (wi m (pq p 28) ((c : Nat) : Int)) 1105 ((a + 1 : Nat) : Int)).2 = m.2 := rfl
  have og : GGm p m (wi (wi m (pq p 28) ((c : Nat) : Int)) 1105 ((a + 1 : Nat) : Int)) := GGm.tr (GGm_own (by omega)) (GGm_reg (by omega))
  generalize wi (wi m (pq p 28) ((c : Nat) : Int)) 1105 ((a + 1 : Nat) : Int) = m1 at o1 o2 o28 o5 oR og
  have oF : ∀ z, z < 2000 → z ≠ 1105 → F m1 z = F m z := fun z h1 h2 => congrArg Int32.toInt (o2 z h1 h2)
  have oA : ∀ K z, A m1 K z = A m K z := fun K z => by show (m1.2.2.1 K z).toInt = _; rw [oR]; rfl
  have o9 : F m1 (pq p 9) = 0 := (congrArg Int32.toInt (o1 9 (by omega) (by omega))).trans r5
  have o24 : F m1 (pq p 24) = ((B : Nat) : Int) := (congrArg Int32.toInt (o1 24 (by omega) (by omega))).trans pl.2.1.1
  refine go195 ((oF 1109 (by omega) (by omega)).trans r9) (by rw [oF 955 (by omega) (by omega), oF 956 (by omega) (by omega)]; omega) (fun hs => ?_)
  cases M1 with
  | zero => exact pp_nl
  | succ M1 =>
  show PP Q (q67 (SAf T Fv P p) N (qgo (SAf T Fv P p) N M1) m1 p (I ((v + 1 : Nat) : Int))) _
  -- there, names go
  rw [go_vl o9 ((oF 1108 (by omega) (by omega)).trans r8) (by omega) o5 (by omega) ((oA 23 (a + 1)).trans c1) ⟨by omega, by omega⟩, val16, I_F' o5, show I ((a + 1 : Nat) : Int) + 1 = I ((a + 2 : Nat) : Int) from addN, Co_e (k := a + 2) rfl (by omega), bnd_so, oA, ht, forgetc_e (B := B) (k := (Os j).length - a0) o24 rfl (by omega), bnd_so, eB2]
  have e6 : F (wi m1 (pq p 24) ((nb j + (Hs j).length + a0 : Nat) : Int)) 1105 = ((a + 1 : Nat) : Int) := by rw [wi_ne (pq_n (by omega))]; exact o5
  rw [I_F' e6, show I ((a + 1 : Nat) : Int) + 2 = I ((a + 3 : Nat) : Int) from addN, wi_e]
  show PP Q (q195 (SAf T Fv P p) N (qgo (SAf T Fv P p) N M1) (wi (wi m1 (pq p 24) ((nb j + (Hs j).length + a0 : Nat) : Int)) 1105 ((a + 3 : Nat) : Int)) p (I ((v + 1 : Nat) : Int))) _
  have t1 : ∀ z, z < 100 → z ≠ 24 → (wi (wi m1 (pq p 24) ((nb j + (Hs j).length + a0 : Nat) : Int)) 1105 ((a + 3 : Nat) : Int)).1 (pq p z) = m1.1 (pq p z) := fun z h1 h2 => (wi_1 (fun c => pq_n (by omega) c.symm)).trans (wi_1 (pq_inj h2))
  have t2 : ∀ z, z < 2000 → z ≠ 1105 → (wi (wi m1 (pq p 24) ((nb j + (Hs j).length + a0 : Nat) : Int)) 1105 ((a + 3 : Nat) : Int)).1 z = m1.1 z := fun z h1 h2 => (wi_1 h2).trans (wi_1 (pq_n h1))
  have t24 : (wi (wi m1 (pq p 24) ((nb j + (Hs j).length + a0 : Nat) : Int)) 1105 ((a + 3 : Nat) : Int)).1 (pq p 24) = I ((nb j + (Hs j).length + a0 : Nat) : Int) := (wi_1 (fun c => pq_n (by omega) c.symm)).trans wi_s1
  have t5 : F (wi (wi m1 (pq p 24) ((nb j + (Hs j).length + a0 : Nat) : Int)) 1105 ((a + 3 : Nat) : Int)) 1105 = ((a + 3 : Nat) : Int) := by rw [wi_sm (by omega) (by omega)]
  have tR : (wi (wi m1 (pq p 24) ((nb j + (Hs j).length + a0 : Nat) : Int)) 1105 ((a + 3 : Nat) : Int)).2 = m1.2 := rfl
  have tg : GGm p m1 (wi (wi m1 (pq p 24) ((nb j + (Hs j).length + a0 : Nat) : Int)) 1105 ((a + 3 : Nat) : Int)) := GGm.tr (GGm_own (by omega)) (GGm_reg (by omega))
  generalize wi (wi m1 (pq p 24) ((nb j + (Hs j).length + a0 : Nat) : Int)) 1105 ((a + 3 : Nat) : Int) = m2 at t1 t2 t24 t5 tR tg
  have u1 : ∀ z, z < 100 → z ≠ 24 → z ≠ 28 → m2.1 (pq p z) = m.1 (pq p z) := fun z h1 h2 h3 => (t1 z h1 h2).trans (o1 z h1 h3)
  have u2 : ∀ z, z < 2000 → z ≠ 1105 → m2.1 z = m.1 z := fun z h1 h2 => (t2 z h1 h2).trans (o2 z h1 h2)
  have uR : m2.2 = m.2 := tR.trans oR
  have u28 : F m2 (pq p 28) = ((c : Nat) : Int) := (congrArg Int32.toInt (t1 28 (by omega) (by omega))).trans o28
  have u24 : F m2 (pq p 24) = ((nb j + (Hs j).length + a0 : Nat) : Int) := by
    show (m2.1 (pq p 24)).toInt = _
    rw [t24, I_ti (by omega) (by omega)]
  have gm : GGm p m m2 := GGm.tr og tg
  -- here, names go
  rw [one_18, show I ((n : Nat) : Int) + 1 = I ((n + 1 : Nat) : Int) from addN, bb_e]
  refine r_bnd (pk_mo (goto_r (N := N) (n := ((n + 1 : Nat) : Int)) hpp r11 fa.1.2.1 hj) (fun w2 _ h => ?_))
  subst h
  have aw : ∀ K i, K ≠ 98 → A (wa w 98 (60 * p + j) ((n + 1 : Nat) : Int)) K i = A w K i := fun K i h => by rw [wa_rne h]
  refine rb_ck (fun _ => ?_)
  rw [tnI (n := n) rfl (by omega), I_A' ((aw 25 n (by omega)).trans hd), bb_e]
  refine r_bnd (pk_mo (names_r (N := N) (w := wa w 98 (60 * p + j) ((n + 1 : Nat) : Int)) (k := a0) hpp r11 ((aw 95 p (by omega)).trans fa.1.2.1) hj ((aw 99 _ (by omega)).trans fl.2.2.1.2) ((aw 101 _ (by omega)).trans fl.2.2.2.2.1)) (fun w3 _ h => ?_))
  subst h
  rw [bnd_so]
  have fr1 : FR [] [] [94, 98] [] w (wa (wa w 98 (60 * p + j) ((n + 1 : Nat) : Int)) 94 p ((nb j + (Hs j).length + a0 : Nat) : Int)) := FR.wa (FR.wa FR.rf (by simp)) (by simp)
  have g1 : GGw p w (wa (wa w 98 (60 * p + j) ((n + 1 : Nat) : Int)) 94 p ((nb j + (Hs j).length + a0 : Nat) : Int)) := GGw.tr (GGw_fg FGw.goto hj) (GGw_own (Or.inl ⟨by omega, rfl⟩))
  have k98 : A (wa (wa w 98 (60 * p + j) ((n + 1 : Nat) : Int)) 94 p ((nb j + (Hs j).length + a0 : Nat) : Int)) 98 (60 * p + j) = ((n + 1 : Nat) : Int) := by rw [wa_rne (by omega), wa_sm (by omega) (by omega)]
  have k94 : (wa (wa w 98 (60 * p + j) ((n + 1 : Nat) : Int)) 94 p ((nb j + (Hs j).length + a0 : Nat) : Int)).2.2.1 94 p = I ((nb j + (Hs j).length + a0 : Nat) : Int) := wa_s1
  have ko : ∀ r, r < j → (wa (wa w 98 (60 * p + j) ((n + 1 : Nat) : Int)) 94 p ((nb j + (Hs j).length + a0 : Nat) : Int)).2.2.1 98 (60 * p + r) = w.2.2.1 98 (60 * p + r) := fun r hr => (wa_at (by omega)).trans (wa_at (by omega))
  generalize wa (wa w 98 (60 * p + j) ((n + 1 : Nat) : Int)) 94 p ((nb j + (Hs j).length + a0 : Nat) : Int) = w1 at fr1 g1 k98 k94 ko
  have y33 : F w1 133 = ((p : Nat) : Int) := (FR.F fr1 (by simp)).trans r11
  have y95 : A w1 95 p = ((j + 1 : Nat) : Int) := (FR.A fr1 (by simp)).trans fa.1.2.1
  refine st_k0 s (r := n + 1) (by omega) w1 _ k98 ((FR.A fr1 (by simp)).trans r6) ((FR.F fr1 (by simp)).trans r10) y33 y95 ((FR.F fr1 (by simp)).trans h149) ((FR.F fr1 (by simp)).trans h150) ?_
  rw [show A w1 23 (n + 1) = 20 from (FR.A fr1 (by simp)).trans h24]
  -- here, the catch goes
  rw [one_20, show I ((n + 1 : Nat) : Int) + 1 = I ((n + 2 : Nat) : Int) from addN, bb_e]
  refine r_bnd (pk_mo (goto_r (N := N) (n := ((n + 2 : Nat) : Int)) hpp y33 y95 hj) (fun w2 _ h => ?_))
  subst h
  have g3 : F (wa w1 98 (60 * p + j) ((n + 2 : Nat) : Int)) 133 = ((p : Nat) : Int) := y33
  have g106 : A (wa w1 98 (60 * p + j) ((n + 2 : Nat) : Int)) 106 p = ((c + 1 : Nat) : Int) := by rw [wa_rne (by omega)]; exact (FR.A fr1 (by simp)).trans c106
  rw [oth_20, bb_e, I_F' g3, tnI (n := p) rfl (by omega), I_A' g106, cm1]
  refine rb_ck (fun _ => rb_ck (fun _ => ?_))
  rw [wa_e]
  show PP Q _ (KRs Fv' AN TT CC ND CN UN FN N p mu M2 w (wa (wa w1 98 (60 * p + j) ((n + 2 : Nat) : Int)) 106 p ((c : Nat) : Int)))
  have fr : FR [] [] [94, 98, 106] [] w (wa (wa w1 98 (60 * p + j) ((n + 2 : Nat) : Int)) 106 p ((c : Nat) : Int)) := FR.wa (FR.wa (FR.mo fr1 (by simp) (by simp) (by simp) (by simp)) (by simp)) (by simp)
  have gw : GGw p w (wa (wa w1 98 (60 * p + j) ((n + 2 : Nat) : Int)) 106 p ((c : Nat) : Int)) := GGw.tr g1 (GGw.tr (GGw_fg FGw.goto hj) (GGw_own (Or.inl ⟨by omega, rfl⟩)))
  have x98 : A (wa (wa w1 98 (60 * p + j) ((n + 2 : Nat) : Int)) 106 p ((c : Nat) : Int)) 98 (60 * p + j) = ((n + 2 : Nat) : Int) := by rw [wa_rne (by omega), wa_sm (by omega) (by omega)]
  have x106 : A (wa (wa w1 98 (60 * p + j) ((n + 2 : Nat) : Int)) 106 p ((c : Nat) : Int)) 106 p = ((c : Nat) : Int) := by rw [wa_sm (by omega) (by omega)]
  have x94 : (wa (wa w1 98 (60 * p + j) ((n + 2 : Nat) : Int)) 106 p ((c : Nat) : Int)).2.2.1 94 p = I ((nb j + (Hs j).length + a0 : Nat) : Int) := by rw [wa_at (by omega), wa_at (by omega)]; exact k94
  have xo : ∀ r, r < j → (wa (wa w1 98 (60 * p + j) ((n + 2 : Nat) : Int)) 106 p ((c : Nat) : Int)).2.2.1 98 (60 * p + r) = w.2.2.1 98 (60 * p + r) := fun r hr => ((wa_at (by omega)).trans (wa_at (by omega))).trans (ko r hr)
  generalize wa (wa w1 98 (60 * p + j) ((n + 2 : Nat) : Int)) 106 p ((c : Nat) : Int) = w2 at fr gw x98 x106 x94 xo
  have fa2 : FAs m2 w2 p j nb Hs (tkO Os j a0) := FA_less fa hk (u1 21 (by omega) (by omega) (by omega)) u24 (fun _ _ => by rw [uR]) (by rw [uR]) (by rw [fr.2.2.1 95 (by simp)]) (fun K r c1 c2 c3 c4 => by
    by_cases c5 : K = 98
    · subst c5
      exact xo r (c4 rfl)
    · rw [fr.2.2.1 K (by simp; omega)]) gw.2.1.1 gw.2.1.2.1
  have ctu : CTs m2 w2 p j nb Hs Os := CT_pop (n := c) ct c28 u28 x106 (by rw [uR]) (fun K c2 h1 h2 => FR.A fr (by simp; omega)) (by rw [uR]) gw.2.1.1 gw.2.1.2.1
  have ct2 : CTs m2 w2 p j nb Hs (tkO Os j a0) := CT_less ctu (fun nC d h1 h2 => by
    rw [FR.A fr (by simp)]
    exact hct (c + 1) d c28 (by omega)) hk rfl rfl rfl rfl (fun _ _ _ => rfl) (fun _ _ => rfl) rfl
  have gd : GDr none m2 w2 p (nb j) (Hs j) (tkO Os j a0 j) := by
    rcases r7 with ⟨_, d2, d3⟩ | ⟨_, _, _, d, _⟩
    · exact Or.inl ⟨rfl, (congrArg Int32.toInt (u2 1112 (by omega) (by omega))).trans d2, (FR.F fr (by simp)).trans d3⟩
    · cases d
  have cr2 : ∃ f, CRs (A m2 23) (ROs w2) (w2.2.2.2 34) f none (a + 3) (n + 2) (Hs j) (tkO Os j a0 j) := by
    rw [tkO_j, ROs_eq gw.2.1.1, gw.2.1.2.1, show A m2 23 = A m 23 from by funext z; show (m2.2.2.1 23 z).toInt = _; rw [uR]; rfl]
    exact cr
  have pl2 : PLs (bGd b U ow' kd') p m w U (nb j + (Hs j).length + a0 + ((Os j).length - a0)) W Y := by
    rw [show nb j + (Hs j).length + a0 + ((Os j).length - a0) = B by omega]
    exact pl
  have pl3 : PLs (bGd b U ow' kd') p m2 w2 U (nb j + (Hs j).length + a0) W Y := PLs_cg (PLs_forget pl2 (by omega)) (fun z hz => by
      by_cases c : z = 24
      · subst c
        rw [t24, wi_s1]
      · rw [wi_1 (pq_inj c)]
        exact u1 z (by simp at hz; omega) c (by simp at hz; omega)) (fun _ _ => by rw [uR]; rfl) (fun _ _ => by rw [uR]; rfl) (fun _ _ => by rw [uR]; rfl) (fun _ _ => by rw [uR]; rfl) (fun z hz => by
      by_cases c : z = 94
      · subst c
        rw [x94, wa_s1]
      · rw [wa_at (by omega), fr.2.2.1 z (by simp at hz ⊢; omega)]) (fun _ _ => by rw [fr.2.2.2 88 (by simp)]; rfl) (fun _ _ => by rw [fr.2.2.2 93 (by simp)]; rfl) (fun _ _ => by rw [fr.2.2.2 91 (by simp)]; rfl) (fun _ _ => by rw [fr.2.2.2 107 (by simp)]; rfl)
  have ru3 : RUs m2 w2 p j nb Hs (tkO Os j a0) none (a + 3) (n + 2) := ⟨⟨fa2, ct2⟩, ⟨t5, x98⟩, cr2, ⟨(congrArg Int32.toInt (u1 9 (by omega) (by omega) (by omega))).trans r5, (FR.A fr (by simp)).trans r6⟩, gd, ⟨(congrArg Int32.toInt (u2 1108 (by omega) (by omega))).trans r8, (congrArg Int32.toInt (u2 1109 (by omega) (by omega))).trans r9, (FR.F fr (by simp)).trans r10⟩, (FR.F fr (by simp)).trans r11, by rw [u2 1106 (by omega) (by omega), fr.1 165 (by simp)]; exact r12, by rw [u2 1107 (by omega) (by omega), fr.1 164 (by simp)]; exact r13⟩
  exact st_rv ih s (by omega) pl3 ru3 gm gw (fun s => SC_ow s (fun z hz => u1 z (by omega) (by omega) (by omega)) (by rw [uR]) (fun K h1 h2 => fr.2.2.1 K (by simp; omega)))
end
