def PRT (u0 : MS) (TN SN : Nat) (bw : Nat → Nat) (σ R0 many : Nat) (B p o n q c f h s wt : Int) (v x : MS) : Prop := F x 67 = 0 ∧ ∃ (p2 n2 q2 c2 f2 h2 : Int) (e : Nat), ST u0 σ p2 o n2 q2 c2 f2 h2 s wt 0 x ∧ KPR σ (wa v 28 R0 e) x ∧ p2 ≤ TN ∧ (DLT bw 3 0 0 p n q c f h p2 n2 q2 c2 f2 h2 ∧ p + 3 ≤ p2 ∧ c + 1 ≤ c2) ∧ (n ≤ e ∧ (e : Int) < n2 ∧ RTD x (25 - o).toNat n.toNat e ∧ A x 29 e = A v 28 R0) ∧ (A x 60 σ = B ∧ A x 45 c.toNat = -1) ∧ PRY TN SN σ R0 many B o (p2 - p + 1) v x e
def pK (N : Nat) (S : SG_M_behind) (G : MS → Int32 → Int32 → Int32 → Int32 → Int32 → Option (MS × Int32)) (v1 v2 v3 v4 v6 : Int32) (w10 : MS) : Option (MS × Int32) := br (decide (v4 = (-1))) (fb_M_parts0_214 N S G w10 (v1) (v2) (v6) (v6)) (ck (inb v4 (ln 45)) (lt (upA w10 45 (upd (w10.2.2.1 45) v4.toNatClampNeg v6)) (fun w11 => fb_M_parts0_214 N S G w11 (v1) (v2) (v3) (v6))))
section
variable {Q : MS → Int32 → Prop} {u0 u v vp vg w x : MS} {N σ TN SN e R0 many : Nat} {bw : Nat → Nat} {p o n q c f h s wt g D d B p1 q1 pg ng qg cg fg hg y yg : Int} {r v1 v3 v4 : Int32} {S : SG_M_behind} {G : MS → Int32 → Int32 → Int32 → Int32 → Int32 → Option (MS × Int32)}
theorem jump_ok {K : MS → Option (MS × Int32)} (h69 : 0 ≤ F v 69 ∧ F v 69 < 4002) (h32 : 0 ≤ F v 32 ∧ F v 32 < 16000) (a : ∀ v1, NDV v v1 26 (F v 69) → OK Q (K (wa (wa v1 25 (F v 32).toNat (-2)) 26 (F v 32).toNat R0))) : OK Q (bnd (fm_M_node N v 26 (v.1 69)) (fun u8 r8 => ck (inb r8 (ln 25)) (lt (upA u8 25 (upd (u8.2.2.1 25) r8.toNatClampNeg (-2))) (fun w9 => ck (inb r8 (ln 26)) (lt (upA w9 26 (upd (w9.2.2.1 26) r8.toNatClampNeg (I R0))) (fun w10 => K w10)))))) := by
  refine k_node (k := 26) (t := F v 69) rfl (by decide) I_F (by omega) (by omega) (fun v1 hv1 => ?_)
  refine k_in (k := 25) (n := 16000) rfl (by decide) h32 (ok_lt.mpr (k_in (k := 26) (n := 16000) rfl (by decide) h32 (ok_lt.mpr ?_)))
  rw [I_tn (by omega) (by omega), wa_e]
  exact a v1 hv1
theorem p127_F (hT : TN ≤ 4000) (hD : D ≤ 2990) (hσ : σ ≤ 26) (hc : 0 ≤ c ∧ c < 1400) (hR : R0 < 16000) (hbn : XNO S.2.2.2.2.1) (hs : FSM u0 TN σ D vg) {t2 v7 : Int32} (a : ∀ x, FSM u0 TN σ (D + 2) x → OK Q (pK N S G v1 (I R0) v3 v4 (I c) x)) : OK Q (fb_M_parts0_127 N S G vg v1 (I R0) v3 v4 (I c) v7 42 (I c) t2) := by
  unfold fb_M_parts0_127
  refine ok_ck.mpr ⟨rfl, k_in (k := 42) (n := 1400) rfl (by decide) hc (ok_lt.mpr ?_)⟩
  rw [I_of t2, wa_e]
  have s1 : FSM u0 TN σ D (wa vg 42 (I c).toNatClampNeg t2.toInt) := FSM_wa hs (by decide)
  refine k_needSign (s := 10) rfl ⟨by decide, by decide⟩ (FSM_p s1 hT) (fun z => absurd z s1.2.1) (fun v3' h3 h4 => ?_)
  have s3 := FSM_67 s1 h3 h4
  refine k_in (k := 43) (n := 1400) rfl (by decide) hc (ok_lt.mpr ?_)
  rw [I_F (k := 32), wa_e]
  have s4 : FSM u0 TN σ D (wa v3' 43 (I c).toNatClampNeg (F v3' 32)) := FSM_wa s3 (by decide)
  rw [hbn _ s4.2.1, bnd_so]
  refine addRoot_F (FEQ_none s4) (by omega) hR (fun x1 hx1 => unbind_F hx1 hT (by omega) hσ (fun x hx => ?_))
  have n0 := hx.2.2.2.2.1
  have p0 := hx.2.2.1
  refine jump_ok (R0 := R0) (K := pK N S G v1 (I R0) v3 v4 (I c)) (by omega) (by omega) (fun x2 hx2 => a _ ?_)
  have := FSM_nd hx hx2.1
  rw [show D + 1 + 1 = D + 2 by omega] at this
  exact FSM_wa (FSM_wa this (by decide)) (by decide)
set_option maxRecDepth 100000 in
theorem p127_ok (tk : TKW u0 TN SN bw) (hD : 0 ≤ D ∧ D ≤ 2900) (ho : 0 ≤ o ∧ o ≤ 25) (hb : XSB u0 TN SN bw D o S.2.2.2.2.1) (hbn : XNO S.2.2.2.2.1) (ev : F v 32 = n ∧ F v 39 = q ∧ F v 46 = c ∧ F v 56 = f ∧ F v 58 = h) (hR : (R0 : Int) < n) (hm : NM TN bw 3 0 0 σ p o n q (c + 1) f h s wt) (hc : 0 ≤ c) (hvp : ST u0 σ p1 o n q1 (c + 1) f h s wt 0 vp) (kvp : KPR σ v vp) (hq1 : q ≤ q1 ∧ 2 * (q1 - q) ≤ p1 - p + 1 ∧ p ≤ p1 ∧ p1 ≤ TN ∧ 2 * q + 1 ≤ p) (pa : PATS vp id id q1.toNat SN (hlo σ vp) B.toNat (nmo σ vp) many (A vp 40 c.toNat)) (a41 : A vp 41 c.toNat = many) (hmany : many ≤ 6) (hB : A v 60 σ = B ∧ 0 ≤ B) (a45 : A vp 45 c.toNat = -1)
    (f67 : F vg 67 = 0) (sg : ST u0 σ pg o ng qg cg fg hg s wt 0 vg) (kg : KPR σ vp vg) (g60 : A vg 60 σ = A vp 60 σ) (lg : LGS σ vg) (hyg : 0 ≤ yg ∧ p + 1 ≤ p1 + yg) (dg : DLT bw 0 yg 0 p1 n q1 (c + 1) f h pg ng qg cg fg hg) (hpg : pg ≤ TN) (hgt : (y = -1 ∧ vg = vp) ∨ (y = n ∧ GTY TN SN σ o (pg - p1 + 1) vp vg)) (ry : RG y)
    (a1 : ∀ x, PRT u0 TN SN bw σ R0 many B p o n q c f h s wt v x → OK Q (pK N S G v1 (I R0) v3 v4 (I c) x)) (a2 : ∀ x, FSM u0 TN σ (D + 2) x → OK Q (pK N S G v1 (I R0) v3 v4 (I c) x)) : OK Q (fb_M_parts0_127 N S G vg v1 (I R0) v3 v4 (I c) (I B) 42 (I c) (I y)) := by
  have hT := tk.1.1
  have bwl := bw_mono tk (i := p.toNat) (m := p1.toNat) (by unfold NM at hm; omega) (by omega)
  have bwm := bw_mono tk (i := p1.toNat) (m := TN) (by omega) (by omega)
  have bwt := tk.2.2.2.2
  have nm1 : NM TN bw 3 0 0 σ p1 o n q1 (c + 1) f h s wt := by unfold NM at hm ⊢; omega
  have nm2 := NM_dlt tk nm1 dg hyg.1 (by omega) hpg
  have fs := NM_fs hm (by omega)
  have fs2 := NM_fs nm2 (by omega)
  have hc2 : c + 1 ≤ 1359 := by unfold NM at hm; omega
  have hn0 : 0 ≤ n ∧ 0 ≤ q ∧ 0 ≤ f ∧ 0 ≤ h := by unfold NM at hm; omega
  obtain ⟨e32, e39, e46, e56, e58⟩ := id ev
  have e69 : F vg 69 = pg := sg.2.1.1
  have e32g : F vg 32 = ng := sg.2.1.2.2.1
  have e46p : F vp 46 = c + 1 := hvp.2.1.2.2.2.2.1
  have kvg := KPR_tr kvp kg
  have cgc : c + 1 ≤ cg := by unfold DLT at dg; omega
  have e46g : F vg 46 = cg := sg.2.1.2.2.2.2.1
  unfold fb_M_parts0_127
  refine ok_ck.mpr ⟨rfl, k_in (k := 42) (n := 1400) rfl (by decide) (by omega) (ok_lt.mpr ?_)⟩
  rw [I_tn (x := c) (by omega) (by omega), wa_e]
  have s1 : ST u0 σ pg o ng qg cg fg hg s wt 0 (wa vg 42 c.toNat y) := ST_wa sg (by decide)
  refine k_needSign (s := 10) rfl ⟨by decide, by decide⟩ (by rw [F_wa]; omega) (fun _ z => ?_) (fun v3' h3 h4 => ?_)
  · have z2 := ST_IS s1 z
    have ltp := tok_lt tk (by omega) (show ¬ (A u0 6 (pg).toNat = 0 ∨ A u0 6 (pg).toNat = 7) by omega)
    have da := DLT_arr (n := ng) (q := qg) (c := cg) (f := fg) (h := hg) tk ⟨by omega, ltp⟩ z2.1 z2.2
    have s2 := ST_nx s1 (by omega)
    have nm3 := NM_dlt tk nm2 da (by omega) (by omega) (by omega)
    refine k_in (k := 43) (n := 1400) rfl (by decide) (by omega) (ok_lt.mpr ?_)
    have e32n : F (nx1 (wa vg 42 c.toNat y)) 32 = F vg 32 := by unfold nx1; rw [wi_ne (by decide), F_wa]
    rw [I_F (k := 32), wa_e, e32n]
    have s3 : ST u0 σ (pg + 1) o ng qg cg fg hg s wt 0 (wa (nx1 (wa vg 42 c.toNat y)) 43 c.toNat (F vg 32)) := ST_wa s2 (by decide)
    have k3 : KPR σ v (wa (nx1 (wa vg 42 c.toNat y)) 43 c.toNat (F vg 32)) := KPR_wc (KPR_w0 (KPR_wc kvg (by decide) (by omega)) (by decide)) (by decide) (by omega)
    have l3 : LGS σ (wa (nx1 (wa vg 42 c.toNat y)) 43 c.toNat (F vg 32)) := fun z => lg z
    refine bau_ok (R0 := R0) (B := B) tk hD ho hb s3 f67 nm3 l3 k3 hB (by unfold DLT at dg; omega) rfl (fun xb hx => ?_) (fun x hx => ?_)
    · obtain ⟨b0, p2, n2, q2, c2, f2, h2, e, b1, b2, b3, b4, b5, b6, b7, b8⟩ := hx
      have nm4 := NM_dlt tk nm3 b5 (by omega) (by omega) b4
      have fs4 := NM_fs nm4 (by omega)
      have x69 : F xb 69 = p2 := b1.2.1.1
      have x32 : F xb 32 = n2 := b1.2.1.2.2.1
      have x46 : F xb 46 = c2 := b1.2.1.2.2.2.2.1
      have cc2 : c + 1 ≤ c2 := by unfold DLT at b5; omega
      have w28 : A (wa (nx1 (wa vg 42 c.toNat y)) 43 c.toNat (F vg 32)) 28 R0 = A v 28 R0 := by
        rw [wa_rne (by decide)]
        show A (wa vg 42 c.toNat y) 28 R0 = _
        rw [wa_rne (by decide)]
        exact kvg.2.1.1 28 R0 (by decide) (by omega)
      have mw : mks (wa (nx1 (wa vg 42 c.toNat y)) 43 c.toNat (F vg 32)) = mks vg := by
        refine mks_c (fun k hk => ?_)
        have : ∀ k, k ∈ [32, 39, 46, 56, 58] → k ≠ 69 := by decide
        rw [F_wa]; unfold nx1; rw [wi_ne (this k hk), F_wa]
      refine jump_ok (R0 := R0) (K := pK N S G v1 (I R0) v3 v4 (I c)) (by omega) (by omega) (fun x2 hx2 => a1 _ ?_)
      have nd := hx2.1
      have s5 := ST_nd b1 nd (by omega) (by omega) (fun z => by omega)
      have s6 : ST u0 σ p2 o (n2 + 1) q2 c2 f2 h2 s wt 0 (wa (wa x2 25 (F xb 32).toNat (-2)) 26 (F xb 32).toNat R0) := ST_wa (ST_wa25 s5 (by rw [nd.2.2.1]; decide)) (by decide)
      have k6 : KPR σ xb (wa (wa x2 25 (F xb 32).toNat (-2)) 26 (F xb 32).toNat R0) := KPR_wn (KPR_wn (KPR_nd KPR_rf nd (by omega)) (by decide) (by omega)) (by decide) (by omega)
      have r0 : RG ((R0 : Nat) : Int) := ⟨by omega, by omega⟩
      have f6 : ∀ k, k ≠ 32 → F (wa (wa x2 25 (F xb 32).toNat (-2)) 26 (F xb 32).toNat R0) k = F xb k := fun k hk => by
        rw [F_wa, F_wa]; exact nd.1.F (by simpa using hk)
      have a6 : ∀ r i, r ∉ [23, 24, 25, 26, 27, 28, 29, 30, 31] → A (wa (wa x2 25 (F xb 32).toNat (-2)) 26 (F xb 32).toNat R0) r i = A xb r i := fun r i hr => by
        have h1 : r ≠ 26 := fun z => hr (by rw [z]; decide)
        have h2 : r ≠ 25 := fun z => hr (by rw [z]; decide)
        rw [wa_rne h1, wa_rne h2]; exact nd.1.A hr
      have j25 : A (wa (wa x2 25 (F xb 32).toNat (-2)) 26 (F xb 32).toNat R0) 25 (F xb 32).toNat = -2 := by rw [wa_rne (by decide)]; exact wa_eq ⟨by decide, by decide⟩
      have j26 : A (wa (wa x2 25 (F xb 32).toNat (-2)) 26 (F xb 32).toNat R0) 26 (F xb 32).toNat = R0 := wa_eq r0
      have kn : KND (wa (wa x2 25 (F xb 32).toNat (-2)) 26 (F xb 32).toNat R0) (F xb 32).toNat 26 := by
        have nw := NEWN_of hx2 (by omega)
        unfold KND
        rw [wa_rne (by decide), wa_rne (by decide), wa_rne (by decide), wa_rne (by decide), wa_rne (by decide), wa_rne (by decide), wa_rne (by decide), wa_rne (by decide)]
        exact ⟨nw.1, nw.2.1, nw.2.2.1, nw.2.2.2.1, nw.2.2.2.2.1⟩
      have on : ONE (mks xb) (mks (wa (wa x2 25 (F xb 32).toNat (-2)) 26 (F xb 32).toNat R0)) (F xb 32).toNat := by
        have := ONE_nd (w := x2) nd (by omega)
        have e : mks (wa (wa x2 25 (F xb 32).toNat (-2)) 26 (F xb 32).toNat R0) = mks x2 := mks_c (fun k _ => by rw [F_wa, F_wa])
        rw [e]; exact this
      have x45 : A xb 45 c.toNat = -1 := by
        have h1 := b3.2.1.2.1 45 c.toNat (by decide) (show c.toNat < (mks (wa (nx1 (wa vg 42 c.toNat y)) 43 c.toNat (F vg 32))) 1 by rw [mw]; show c.toNat < (F vg 46).toNat; omega)
        rw [h1, wa_rne (by decide), wa_rne (by decide)]
        show A (wa vg 42 c.toNat y) 45 c.toNat = _
        rw [wa_rne (by decide), kg.2.1.2.2.1 45 _ (by decide) (by omega)]
        exact a45
      generalize wa (wa x2 25 (F xb 32).toNat (-2)) 26 (F xb 32).toNat R0 = X at *
      refine ⟨(f6 67 (by decide)).trans b0, p2, n2 + 1, q2, c2, f2, h2, e, s6, KPR_tr b2 k6, b4, ⟨?_, ?_, cc2⟩, ⟨?_, by omega, ?_, ?_⟩, ⟨?_, ?_⟩, ?_⟩
      · unfold DLT at dg da b5 ⊢; omega
      · unfold DLT at dg da b5; omega
      · unfold DLT at dg; omega
      · refine RTD_dn (a := ng.toNat) (by unfold DLT at dg; omega) _ _ ?_
        exact RTD_fr _ _ b6.2.2.1 (k6.2.1.1 28 e (by decide) (by omega)) (fun r i hr _ hi => k6.2.1.1 r i (by
          have : ∀ r, r ∈ [28, 29] → r ∈ [23, 24, 25, 26, 27, 28, 29, 30, 31] := by decide
          exact this r hr) (by omega))
      · rw [k6.2.1.1 29 e (by decide) (by omega), b6.2.2.2]; exact w28
      · rw [a6 60 σ (by decide)]; exact b7.1
      · rw [k6.2.1.2.2.1 45 c.toNat (by decide) (by omega)]; exact x45
      · rw [mw] at b3
        refine PTY_of (y := y) (many := many) ev ⟨hn0.1, hn0.2.1, hc, hn0.2.2⟩ hR hvp kvp hq1.1 pa a41 hmany hB kg g60 hgt ry b3 b8 k6 on ⟨kn, j25, j26⟩ (fun z => b7.2.1 z) (fun z => b7.2.2 z) ?_
        unfold DLT at b5 dg
        omega
    · have n0 := hx.2.2.2.2.1
      have p0 := hx.2.2.1
      refine jump_ok (R0 := R0) (K := pK N S G v1 (I R0) v3 v4 (I c)) (by omega) (by omega) (fun x2 hx2 => a2 _ ?_)
      have := FSM_nd hx hx2.1
      rw [show D + 1 + 1 = D + 2 by omega] at this
      exact FSM_wa (FSM_wa this (by decide)) (by decide)
  · have s3 : FSM u0 TN σ D v3' := FSM_of (ST_67 s1 h3) (by omega) (by omega) fs2.1 h4
    refine k_in (k := 43) (n := 1400) rfl (by decide) (by omega) (ok_lt.mpr ?_)
    rw [I_F (k := 32), wa_e]
    have s4 : FSM u0 TN σ D (wa v3' 43 c.toNat (F v3' 32)) := FSM_wa s3 (by decide)
    rw [hbn _ s4.2.1, bnd_so]
    refine addRoot_F (FEQ_none s4) (by omega) (by omega) (fun x1 hx1 => unbind_F hx1 hT (by omega) (by omega) (fun x hx => ?_))
    have n0 := hx.2.2.2.2.1
    have p0 := hx.2.2.1
    refine jump_ok (R0 := R0) (K := pK N S G v1 (I R0) v3 v4 (I c)) (by omega) (by omega) (fun x2 hx2 => a2 _ ?_)
    have := FSM_nd hx hx2.1
    rw [show D + 1 + 1 = D + 2 by omega] at this
    exact FSM_wa (FSM_wa this (by decide)) (by decide)
end
