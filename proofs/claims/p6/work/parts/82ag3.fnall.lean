section
variable {Q : MS → Unit → Prop} {u v w x : MS} {N TN SN k g : Nat} {bw : Nat → Nat} {p n q c f h l : Int}
theorem TBL_pro (tb : TBL u) (f : PRO u v) : TBL v := fun k hk => by
  rw [f.A (k := 2) (by decide), f.A (k := 2) (by decide)]; exact tb k hk
theorem ATM_pro (a : ATM u) (f : PRO u v) : ATM v := by
  obtain ⟨b1, b2, b3⟩ := a
  have e14 : F v 14 = F u 14 := f.F (by decide)
  exact ⟨by rw [e14]; exact b1, by rw [e14]; exact b2, fun k hk => by rw [e14] at hk; rw [f.A (k := 13) (by decide), f.A (k := 13) (by decide)]; exact b3 k hk⟩
theorem tk7_F (hN : 20000 ≤ N) (hT : TN ≤ 4000) (hg : g < 1000) (tb : TBL u) (at' : ATM u) (hv : FLT TN u v) (h47 : 0 ≤ A v 47 g ∧ A v 47 g < F v 14) {v5 : Int32} {m : Nat} (hm : 1002 ≤ m) : OK (fun x _ => FNQ TN SN bw u x (g + 1) ∨ FLT TN u x) (tk7 N (gg_M_function0 N m) (I g) v5 v) := by
  have h69 := hv.2.2.1
  unfold tk7
  refine k_takeSign (s := 7) rfl ⟨by decide, by decide⟩ (by omega) (fun z => absurd z hv.2.1) (fun _ => ?_)
  obtain ⟨m', rfl⟩ : ∃ m', m = m' + 1 := ⟨m - 1, by omega⟩
  show OK _ (fb_M_function0_36 N (gg_M_function0 N m') v (I g) v5 0)
  unfold fb_M_function0_36
  rw [br00]
  exact f228_ok hN hg (TBL_pro tb hv.1) (ATM_pro at' hv.1) h47 hv.2.2.2.2 (by omega) (by omega) (by omega) (fun z => absurd z hv.2.1) (fun w h1 h2 => Or.inr (FLT_67 hv h1 h2))
set_option maxRecDepth 100000 in
theorem fn_loop (tk : TKW u TN SN bw) (hN : 20000 ≤ N) (tb : TBL u) (at' : ATM u) : ∀ (i : Nat) (v : MS) (k : Nat) (l p n q c f h : Int), FLI TN SN bw u v g k l p n q c f h → 4003 - p < i → ∀ m, i + 1100 ≤ m → OK (fun x _ => FNQ TN SN bw u x (g + 1) ∨ FLT TN u x) ((gg_M_function0 N m).1 v (I g) (I l) 1) := by
  have hT := tk.1.1
  intro i
  induction i with
  | zero => intro v k l p n q c f h hv hi; have := hv.2.2.2.2.2.2.1; omega
  | succ i ih =>
    intro v k l p n q c f h hv hi m hm
    obtain ⟨b0, b1, b2, b3, b4, b5, ⟨b6, b7, b8⟩, b9⟩ := hv
    obtain ⟨m', rfl⟩ : ∃ m', m = m' + 1 := ⟨m - 1, by omega⟩
    have tkv := TKW_pro tk b0
    obtain ⟨⟨e1, e2, e3, e4, e5, e6, e7, e8, e9, e10, e11⟩, ⟨e12, e13⟩, k44, ngd, k49, nm⟩ := id b2
    have hp0 : 0 ≤ p := nm.1.1
    have hg : g < 700 := by omega
    have hcb : 0 ≤ c ∧ c < 1399 := by unfold NM at nm; omega
    show OK _ (fb_M_function0_36 N (gg_M_function0 N m') v (I g) (I l) 1)
    unfold fb_M_function0_36
    rw [br10]
    refine k_F (y := 0) rfl ⟨by decide, by decide⟩ (fun _ => ?_) (fun z => absurd b1 z)
    refine k_at (k := 6) (n := 4002) rfl (by decide) (by omega) ?_
    refine k_A (y := 1) rfl ⟨by decide, by decide⟩ (fun y => ?_) (fun _ => ?_)
    · rw [tn_F, e1] at y
      have ltp := tok_lt tkv (by omega) (show ¬ (A v 6 p.toNat = 0 ∨ A v 6 p.toNat = 7) by omega)
      have at7 := (tkv.2.1 p.toNat (by omega)).2.2.1 y
      rw [nx1_e]
      refine ok_lt.mpr (ok_lt.mpr (ok_ck.mpr ⟨rfl, ok_lt.mpr (ok_ck.mpr ⟨rfl, ok_lt.mpr (ok_ck.mpr ⟨rfl, ok_lt.mpr ?_⟩)⟩)⟩))
      show OK _ (bnd (fr_M_clause N (cs v) (v.1 69)) (fun u12 r12 => fnC N (gg_M_function0 N m') (I g) (I l) (v.1 69) u12 r12))
      rw [I_F' e1]
      have sc := cs_ST b2 (by omega)
      have fc : F (cs v) 67 = 0 := (cs_F (by decide)).trans b1
      have tkc := TKW_pro tk (PRO_cs b0)
      have dn := DLT_1 (n := n) (q := q) (c := c) (f := f) (h := h) (m := 0) tkc ⟨by omega, ltp⟩ (by omega)
      rw [show n + 0 = n by omega] at dn
      have nm1 := NM_dlt tkc nm dn (by omega) (by omega) (by omega)
      have c60 : A (cs v) 60 0 = 0 := by unfold cs; rw [wa_rne (by decide), wa_rne (by decide)]; exact wa_eq ⟨by decide, by decide⟩
      have hl : l = -1 ∨ (0 ≤ l ∧ l < 1400) := by
        rcases Nat.eq_zero_or_pos k with z | z
        · exact Or.inl (b4 z)
        · have := (b5 z).1; exact Or.inr (by omega)
      have lk : (l = -1 → k = 0) ∧ (0 ≤ l → 0 < k) := ⟨fun z => by
        rcases Nat.eq_zero_or_pos k with y | y
        · exact y
        · have := (b5 y).1; omega, fun z => by
        rcases Nat.eq_zero_or_pos k with y | y
        · have := b4 y; omega
        · exact y⟩
      refine ok_bnd.mpr (ok_mono (clause_all tkc hN (cs v) 0 _ _ _ _ _ f _ _ _ p sc fc ⟨c60, by omega, by omega, by omega, by omega⟩ nm1) (fun x r hx => ?_))
      obtain ⟨hr, hx⟩ := hx
      rw [hr]
      rcases hx with ⟨x0, p2, n2, q2, c2, f2, h2, x1, x2, x3, ⟨x4, x5, x6⟩, x7, x8⟩ | hx
      · have nm2 := NM_dlt tkc nm1 x4 (by omega) (by omega) x3
        have pgx := PGN_cl k49 x1 nm2
        have prx : PRO u x := PRO_P (PRO_cs b0) x1.1
        have ff : f ≤ f2 := x4.2.2.2.2.2.2.2.1
        have x52 : F x 52 = ((g + 1 : Nat) : Int) := by rw [show F x 52 = F (cs v) 52 from x1.1.F (by decide), cs_F (by decide)]; exact b3
        have xr : ∀ r i, r ∉ PfA → r ≠ 60 ∧ r ≠ 63 ∧ r ≠ 64 → A x r i = A v r i := fun r i hr h6 => by rw [show A x r i = A (cs v) r i from x1.1.A hr, cs_A h6]
        have x14 : F x 14 = F v 14 := by rw [show F x 14 = F (cs v) 14 from x1.1.F (by decide), cs_F (by decide)]
        have s63 := (x1.2.2.2.1 0 (Nat.le_refl 0)).2.2.1 rfl
        have x71 := x1.2.2.1.1
        have go : ∀ y : MS, PRO u y → F y 67 = 0 → PGN TN bw y p2 n2 q2 c2 f2 h2 → F y 52 = ((g + 1 : Nat) : Int) → (0 ≤ A y 47 g ∧ A y 47 g < F y 14) → FTY TN SN g (k + 1) c y → OK (fun x _ => FNQ TN SN bw u x (g + 1) ∨ FLT TN u x) (tk7 N (gg_M_function0 N m') (I g) (I c) y) := fun y y1 y2 y3 y4 y5 y6 => by
          have y69 : F y 69 = p2 := y3.1.1
          unfold tk7
          refine k_takeSign (s := 7) rfl ⟨by decide, by decide⟩ (by omega) (fun _ z => ?_) (fun _ => ?_)
          · have z6 : A y 6 p2.toNat = 6 := by have := z.1; rw [y69] at this; exact this
            have tky := TKW_pro tk y1
            have ltp2 := tok_lt tky (by omega) (show ¬ (A y 6 p2.toNat = 0 ∨ A y 6 p2.toNat = 7) by omega)
            have d2 := DLT_1 (n := n2) (q := q2) (c := c2) (f := f2) (h := h2) (m := 0) tky ⟨by omega, ltp2⟩ (by omega)
            rw [show n2 + 0 = n2 by omega] at d2
            have nm3 := NM_dlt tky nm2 d2 (by omega) (by omega) (by omega)
            have nF : ∀ t, t ≠ 69 → F (nx1 y) t = F y t := fun t ht => wi_ne ht
            refine ih (nx1 y) (k + 1) c (p2 + 1) n2 q2 c2 f2 h2 ⟨FR.wi y1 (by decide), (nF 67 (by decide)).trans y2, ?_, (nF 52 (by decide)).trans y4, fun z => by omega, fun _ => ⟨by omega, y5.1, by rw [nF 14 (by decide)]; exact y5.2⟩, ⟨by omega, by omega, fun _ => by omega⟩, fun z1 z2 z3 => ?_⟩ (by omega) m' (by omega)
            · obtain ⟨⟨g1, g2, g3, g4, g5, g6, g7, g8, g9, g10, g11⟩, ⟨g12, g13⟩, g14, g15, g16, -⟩ := y3
              refine ⟨⟨?_, (nF 70 (by decide)).trans g2, (nF 32 (by decide)).trans g3, (nF 39 (by decide)).trans g4, (nF 46 (by decide)).trans g5, (nF 56 (by decide)).trans g6, (nF 58 (by decide)).trans g7, (nF 75 (by decide)).trans g8, (nF 77 (by decide)).trans g9, (nF 83 (by decide)).trans g10, (nF 73 (by decide)).trans g11⟩, ⟨by rw [nF 71 (by decide)]; exact g12, by rw [nF 66 (by decide)]; exact g13⟩, g14, fun j hj => ?_, g16, nm3⟩
              · unfold nx1; rw [wi_eq ⟨by omega, by omega⟩, g1]
              · rw [nF 32 (by decide)] at hj
                rw [nF 14 (by decide)]; exact g15 j hj
            · obtain ⟨Bd, q1, many, q2, q3⟩ := y6 (by rw [← nF 72 (by decide)]; exact z1) (by rw [← nF 66 (by decide)]; exact z2) z3
              have en : EQY y (nx1 y) := EQY_fr (is := [69]) (as := []) (js := []) (FR.wi FR.rf (by decide)) (by decide) (by decide)
              have mn : mks (nx1 y) = mks y := wi_mks (by decide)
              obtain ⟨μ, rr, mm', X', Y', ch, ⟨q0, qk⟩, -⟩ := id q2
              have le : ∀ j, Bd g j ≤ mks y j := fun j => by
                have := CHD_le ch (k + 1) 0 (by omega) j
                rw [Nat.zero_add, q0, qk] at this
                exact this
              exact ⟨Bd, FNT_eqy (y := 0) (i0 := 0) q1 en le (Or.inl rfl) (fun f hf => ⟨rfl, rfl⟩), many, FCY_eqy q2 en mn, q3⟩
          · obtain ⟨m2, rfl⟩ : ∃ m2, m' = m2 + 1 := ⟨m' - 1, by omega⟩
            show OK _ (fb_M_function0_36 N (gg_M_function0 N m2) y (I g) (I c) 0)
            unfold fb_M_function0_36
            rw [br00]
            refine f228_ok hN (by omega) (TBL_pro tb y1) (ATM_pro at' y1) y5 y3.2.2.2.2.1 (by omega) y3.2.1.1 (by omega) (fun _ z => ?_) (fun w h3 h4 => Or.inr (FLT_pg y1 y3 h3 h4))
            have z6 : A y 6 p2.toNat = 6 := by have := z.1; rw [y69] at this; exact this
            have tky := TKW_pro tk y1
            have ltp2 := tok_lt tky (by omega) (show ¬ (A y 6 p2.toNat = 0 ∨ A y 6 p2.toNat = 7) by omega)
            have d2 := DLT_1 (n := n2) (q := q2) (c := c2) (f := f2) (h := h2) (m := 0) tky ⟨by omega, ltp2⟩ (by omega)
            rw [show n2 + 0 = n2 by omega] at d2
            have nm3 := NM_dlt tky nm2 d2 (by omega) (by omega) (by omega)
            have nF : ∀ t, t ≠ 69 → F (nx1 y) t = F y t := fun t ht => wi_ne ht
            have pgn : PGN TN bw (nx1 y) (p2 + 1) n2 q2 c2 f2 h2 := by
              obtain ⟨⟨g1, g2, g3, g4, g5, g6, g7, g8, g9, g10, g11⟩, ⟨g12, g13⟩, g14, g15, g16, -⟩ := y3
              refine ⟨⟨?_, (nF 70 (by decide)).trans g2, (nF 32 (by decide)).trans g3, (nF 39 (by decide)).trans g4, (nF 46 (by decide)).trans g5, (nF 56 (by decide)).trans g6, (nF 58 (by decide)).trans g7, (nF 75 (by decide)).trans g8, (nF 77 (by decide)).trans g9, (nF 83 (by decide)).trans g10, (nF 73 (by decide)).trans g11⟩, ⟨by rw [nF 71 (by decide)]; exact g12, by rw [nF 66 (by decide)]; exact g13⟩, g14, fun j hj => ?_, g16, nm3⟩
              · unfold nx1; rw [wi_eq ⟨by omega, by omega⟩, g1]
              · rw [nF 32 (by decide)] at hj
                rw [nF 14 (by decide)]; exact g15 j hj
            have prn : PRO u (nx1 y) := FR.wi y1 (by decide)
            have en : EQY y (nx1 y) := EQY_fr (is := [69]) (as := []) (js := []) (FR.wi FR.rf (by decide)) (by decide) (by decide)
            have mn : mks (nx1 y) = mks y := wi_mks (by decide)
            refine ⟨Or.inl ⟨prn, (nF 67 (by decide)).trans y2, ⟨p2 + 1, n2, q2, c2, f2, h2, pgn, by omega, by omega⟩, (nF 52 (by decide)).trans y4, FNT_add y6 (by omega) en mn (fun z => by rw [← nF 72 (by decide)]; exact z) (fun z => by rw [← nF 66 (by decide)]; exact z) (fun f hf => ⟨rfl, rfl⟩)⟩, fun w g1 g2 g3 => Or.inl ?_⟩
            refine ⟨FR.tr prn (FR.mo g1 (by decide) (by decide) (by decide) (by decide)), by rw [g1.F (by decide)]; exact (nF 67 (by decide)).trans y2, ⟨p2 + 1, n2, q2, c2, f2, h2, PGN_rule pgn g1 g3, by omega, by omega⟩, by rw [g1.F (by decide)]; exact (nF 52 (by decide)).trans y4, fun z => absurd z g2⟩
        refine fnC_ok (by omega) (by omega) (by omega) hl x71 (fun z y => ?_) (fun z zz y => ?_) (fun z w g1 g2 g3 y => ?_)
        · have fr : FR [] [] [47, 48, 50, 51] [] x (wa (wa (wa (wa x 47 g (A x 7 p.toNat)) 48 g (A x 41 c.toNat)) 50 g c) 51 g y) := FR.wa (FR.wa (FR.wa (FR.wa FR.rf (by decide)) (by decide)) (by decide)) (by decide)
          have k0 := lk.1 z
          have rc : RG c := ⟨by omega, by omega⟩
          have y47 : A (wa (wa (wa (wa x 47 g (A x 7 p.toNat)) 48 g (A x 41 c.toNat)) 50 g c) 51 g y) 47 g = A x 7 p.toNat := by rw [wa_rne (by decide), wa_rne (by decide), wa_rne (by decide)]; exact wa_eq (ARG1 _ _ _)
          have y48 : A (wa (wa (wa (wa x 47 g (A x 7 p.toNat)) 48 g (A x 41 c.toNat)) 50 g c) 51 g y) 48 g = A x 41 c.toNat := by rw [wa_rne (by decide), wa_rne (by decide)]; exact wa_eq (ARG1 _ _ _)
          have y50 : A (wa (wa (wa (wa x 47 g (A x 7 p.toNat)) 48 g (A x 41 c.toNat)) 50 g c) 51 g y) 50 g = c := by rw [wa_rne (by decide)]; exact wa_eq rc
          have yo : ∀ r i, i ≠ g → A (wa (wa (wa (wa x 47 g (A x 7 p.toNat)) 48 g (A x 41 c.toNat)) 50 g c) 51 g y) r i = A x r i := fun r i hi => by rw [wa_ne hi, wa_ne hi, wa_ne hi, wa_ne hi]
          generalize wa (wa (wa (wa x 47 g (A x 7 p.toNat)) 48 g (A x 41 c.toNat)) 50 g c) 51 g y = Y at *
          have yF : ∀ t, F Y t = F x t := fun t => fr.F (by intro z; cases z)
          refine go Y (FR.tr prx (FR.mo fr (by decide) (by decide) (by decide) (by decide))) ((yF 67).trans x0) (PGN_fr pgx fr (by decide) (by decide)) ((yF 52).trans x52) ?_ ?_
          · rw [y47, yF, x14, xr 7 _ (by decide) (by decide)]; exact at7
          · exact FTY_add (w := x) (p2 := p2) b9 b4 ⟨e5, by omega, by omega⟩ x2 x8 s63 ⟨hp0, x3⟩ (Or.inl ⟨k0, rfl⟩) (fun z => by omega) (fun j => ⟨xr 48 j (by decide) (by decide), xr 50 j (by decide) (by decide)⟩) (EQY_fr fr (by decide) (by decide)) (mks_c (fun t _ => yF t)) (fun j hj => ⟨yo 48 j (by omega), yo 50 j (by omega)⟩) ⟨fun _ => ⟨y48, y50⟩, fun z => by omega⟩ (fun z => by rw [← yF]; exact z) (fun z => by rw [← yF]; exact z)
        · have k0 := lk.2 z
          have fr : FR [] [] [45, 51] [] x (wa (wa x 45 l.toNat c) 51 g y) := FR.wa (FR.wa FR.rf (by decide)) (by decide)
          have fr2 : FR [] [] [51] [] (wa x 45 l.toNat c) (wa (wa x 45 l.toNat c) 51 g y) := FR.wa FR.rf (by decide)
          generalize wa (wa x 45 l.toNat c) 51 g y = Y at *
          have yF : ∀ t, F Y t = F x t := fun t => fr.F (by intro z; cases z)
          refine go Y (FR.tr prx (FR.mo fr (by decide) (by decide) (by decide) (by decide))) ((yF 67).trans x0) (PGN_fr pgx fr (by decide) (by decide)) ((yF 52).trans x52) ?_ ?_
          · rw [fr.A (by decide), yF, x14, xr 47 _ (by decide) (by decide)]; exact (b5 k0).2
          · exact FTY_add (w := wa x 45 l.toNat c) (p2 := p2) b9 b4 ⟨e5, by omega, by omega⟩ x2 x8 s63 ⟨hp0, x3⟩ (Or.inr ⟨k0, rfl⟩) (fun _ => zz) (fun j => ⟨xr 48 j (by decide) (by decide), xr 50 j (by decide) (by decide)⟩) (EQY_fr fr2 (by decide) (by decide)) (mks_c (fun t _ => by rw [yF, F_wa])) (fun j hj => ⟨fr2.A (by decide), fr2.A (by decide)⟩) ⟨fun z => by omega, fun _ => ⟨fr2.A (by decide), fr2.A (by decide)⟩⟩ (fun z => by rw [← yF]; exact z) (fun z => by rw [← yF]; exact z)
        · have k0 := lk.2 z
          have fr0 : FR [] [] [45] [] x (wa x 45 l.toNat c) := FR.wa FR.rf (by decide)
          have fr2 : FR [] [] [51] [] w (wa w 51 g y) := FR.wa FR.rf (by decide)
          have pg2 := PGN_fr (PGN_rule (PGN_fr pgx fr0 (by decide) (by decide)) g1 g3) fr2 (by decide) (by decide)
          generalize wa w 51 g y = Y at *
          have yF : ∀ t, t ≠ 71 → t ≠ 72 → F Y t = F x t := fun t h1 h2 => by rw [fr2.F (by intro z; cases z), g1.F (by simp; exact ⟨h1, h2⟩), F_wa]
          refine go Y (FR.tr (FR.tr (FR.tr prx (FR.mo fr0 (by decide) (by decide) (by decide) (by decide))) (FR.mo g1 (by decide) (by decide) (by decide) (by decide))) (FR.mo fr2 (by decide) (by decide) (by decide) (by decide))) ((yF 67 (by decide) (by decide)).trans x0) pg2 ((yF 52 (by decide) (by decide)).trans x52) ?_ (fun z1 => absurd ((fr2.F (by intro z; cases z)).symm.trans z1) g2)
          rw [fr2.A (by decide), g1.A (by intro z; cases z), wa_rne (by decide), yF 14 (by decide) (by decide), x14, xr 47 _ (by decide) (by decide)]
          exact (b5 k0).2
      · have fx := FLT_of b0 k49 hx
        have hxr : FR PfI [] PfA [34] (cs v) x := hx.1
        have xr : ∀ r i, r ∉ PfA → r ≠ 60 ∧ r ≠ 63 ∧ r ≠ 64 → A x r i = A v r i := fun r i hr h6 => by rw [hxr.A hr, cs_A h6]
        have x14 : F x 14 = F v 14 := by rw [hxr.F (by decide), cs_F (by decide)]
        have x71 := fx.2.2.1
        refine fnC_ok (by omega) (by omega) (by omega) hl (by omega) (fun z y => ?_) (fun z zz y => ?_) (fun z w g1 g2 g3 y => ?_)
        · have fr : FR [] [] [47, 48, 50, 51] [] x (wa (wa (wa (wa x 47 g (A x 7 p.toNat)) 48 g (A x 41 c.toNat)) 50 g c) 51 g y) := FR.wa (FR.wa (FR.wa (FR.wa FR.rf (by decide)) (by decide)) (by decide)) (by decide)
          refine tk7_F hN hT (by omega) tb at' (FLT_fr fx fr (by decide) (by decide)) ?_ (by omega)
          rw [wa_rne (by decide), wa_rne (by decide), wa_rne (by decide), wa_eq (ARG1 _ _ _), F_wa, F_wa, F_wa, F_wa, x14, xr 7 _ (by decide) (by decide)]; exact at7
        · have k0 := lk.2 z
          have fr : FR [] [] [45, 51] [] x (wa (wa x 45 l.toNat c) 51 g y) := FR.wa (FR.wa FR.rf (by decide)) (by decide)
          refine tk7_F hN hT (by omega) tb at' (FLT_fr fx fr (by decide) (by decide)) ?_ (by omega)
          rw [wa_rne (by decide), wa_rne (by decide), F_wa, F_wa, x14, xr 47 _ (by decide) (by decide)]
          exact (b5 k0).2
        · have k0 := lk.2 z
          have fr0 : FR [] [] [45] [] x (wa x 45 l.toNat c) := FR.wa FR.rf (by decide)
          have fr2 : FR [] [] [51] [] w (wa w 51 g y) := FR.wa FR.rf (by decide)
          refine tk7_F hN hT (by omega) tb at' (FLT_fr (FLT_rule (FLT_fr fx fr0 (by decide) (by decide)) g1 g3) fr2 (by decide) (by decide)) ?_ (by omega)
          rw [wa_rne (by decide), g1.A (by intro z; cases z), wa_rne (by decide), F_wa, g1.F (by decide), F_wa, x14, xr 47 _ (by decide) (by decide)]
          exact (b5 k0).2
    · refine k_wrong (s := 2) rfl ⟨by decide, by decide⟩ (by decide) (by omega) (fun w h1 h2 => ok_some.mpr (Or.inr (FLT_pg b0 b2 h1 h2)))
end
