theorem nar_byte {t : Int} (h : 0 ≤ t ∧ t < 128) : vp_nar .byte ((I t).toInt8.toInt32) = I t := by
  have e : (I t).toInt8.toInt32 = I t := by
    apply Int32.toInt_inj.mp
    rw [Int8.toInt_toInt32, Int32.toInt_toInt8, I_ti (by omega) (by omega)]
    exact Int.bmod_eq_of_le (by omega) (by omega)
  show ((I t).toInt8.toInt32).toInt8.toInt32 = I t
  rw [e, e]
section
variable {u0 u v v1 w x y : MS} {N σ TN SN e q0 q1 q2 q3 : Nat} {bw : Nat → Nat} {p o n q c f h s wt g lv xb xb1 xb2 k t D d z l p1 o1 o2 n1 n2 q1' c1 f1 h1 κ : Int} {r y1 y2 y3 : Int32} {R R1 R2 : Nat → Prop} {M M0 M1 : Nat → Nat} {m m0 J i : Nat} {S : SG_M_behind}
theorem TYC_x2 (ty : TYM SN σ g lv xb v M m 0 1 R) : 2 ≤ xb := by
  obtain ⟨mm, X, Y, s1, -, -, s5, -⟩ := ty
  have := s1.1.2.2.2.2.2.2.2.1
  omega
theorem work292_N (tk : TKW u0 TN SN bw) (hw : WKA u0 TN SN σ bw p o n q c f h s wt g u (nx1 (wi y 83 (wt + J + 1))) (p1 + 1) o1 n2 q1' c1 f1 h1 (J + 1)) (hm : NM TN bw 0 1 0 σ p o n q c f h s wt) (h83 : F y 83 = wt + J) (hD : 0 ≤ D) (hG : ∀ w, WKA u0 TN SN σ bw p o n q c f h s wt g u w (p1 + 1) o1 n2 q1' c1 f1 h1 (J + 1) → OK (WRQ u0 TN SN bw σ D p o n q c f h s wt g u) ((gg_M_worked N S (i + 1)).1 w (I wt) r 1)) : OK (WRQ u0 TN SN bw σ D p o n q c f h s wt g u) (fb_M_worked_292 N S (gg_M_worked N S (i + 1)) y (I wt) r 1) := by
  have hT := tk.1.1
  unfold fb_M_worked_292 fb_M_worked_331
  refine ok_lt.mpr (ok_lt.mpr ?_)
  rw [I_F' h83, lit1q, I_add, wi_e, ← lit1q, nx1_e]
  have fs := NM_fs (WKB_nm tk hm hw.1 (by omega)) (by omega)
  have e69 : F (nx1 (wi y 83 (wt + J + 1))) 69 = p1 + 1 := hw.1.1.2.1.1
  generalize nx1 (wi y 83 (wt + J + 1)) = w at *
  refine k_F (y := 0) rfl ⟨by decide, by decide⟩ (fun _ => ?_) (fun z => absurd hw.1.2.1 z)
  refine k_begins2 (fn := fun w => (gg_M_worked N S (i + 1)).1 w (I wt) r 1) (by omega) (hG w hw) (fun v1 g1 g2 => head_F (FSM_of (ST_67 hw.1.1 g1) (by omega) (by omega) fs.1 g2))
theorem op_push (tk : TKW u0 TN SN bw) (hm : NM TN bw 0 1 0 σ p o n q c f h s wt) (hu : UB σ n wt u) (hw : WKC u0 TN SN σ bw p o n q c f h s wt g u v p1 o1 n1 q1' c1 f1 h1 J e) (hp1 : p1 < TN) {ix : Nat} (hix : wt + J = ix) (hl : 3 ≤ l ∧ l ≤ 6) (htok : A u0 6 p1.toNat = 3 ∨ (A u0 6 p1.toNat = 6 ∧ ((12 ≤ A u0 7 p1.toNat ∧ A u0 7 p1.toNat ≤ 20) ∨ A u0 7 p1.toNat = 22 ∨ A u0 7 p1.toNat = 23))) (b : FR [71, 72] [] [] [] (wa (wa v 79 ix l) 80 ix p1) y) (h72 : F y 72 = F v 72 ∨ F y 72 ≠ 0) (h71 : 0 ≤ F y 71 ∧ F y 71 < 4002) : WKA u0 TN SN σ bw p o n q c f h s wt g u (nx1 (wi y 83 (wt + J + 1))) (p1 + 1) o1 n1 q1' c1 f1 h1 (J + 1) := by
  have hT := tk.1.1
  obtain ⟨hwb, rt, ty⟩ := hw
  have nm1 := WKB_nm tk hm hwb (by omega)
  obtain ⟨s0, f0, k0, hp, wn, en, hoo, l0⟩ := id hwb
  have hw0 : 0 ≤ wt ∧ 0 ≤ n := by unfold NM at hm; omega
  have pb : 0 ≤ p1 ∧ wt + J ≤ 2100 := by unfold NM at nm1; omega
  have bws := bw_mono tk (i := p1.toNat) (m := (p1 + 1).toNat) (by omega) (by omega)
  have sx : ST u0 σ p1 o1 n1 q1' c1 f1 h1 s (wt + J) g (wa (wa v 79 ix l) 80 ix p1) := ST_wa (ST_wa s0 (by decide)) (by decide)
  have kx : KPR σ u (wa (wa v 79 ix l) 80 ix p1) := KPR_ww (KPR_ww k0 (by decide) (by rw [hu.2.1]; omega)) (by decide) (by rw [hu.2.1]; omega)
  have ky : KPR σ (wa (wa v 79 ix l) 80 ix p1) y := by
    rcases h72 with z | z
    · have g : ∀ r i, A y r i = A (wa (wa v 79 ix l) 80 ix p1) r i := fun r i => b.A (by intro z; cases z)
      refine ⟨FRP b (by decide) (by decide) (by decide), ⟨fun r i _ _ => g r i, fun r i _ _ => g r i, fun r i _ _ => g r i, fun r i _ _ => g r i, fun i _ => g 57 i⟩, ⟨fun s i _ _ => g 59 _, fun r s i _ _ _ => g r _, fun s _ => g 60 s, fun s _ => ?_⟩, ⟨fun i _ => g 74 i, fun i _ => g 76 i, fun r i _ _ => g r i⟩, ?_, fun y => ?_, ?_⟩
      · rw [g, g, g]; exact ⟨Int.le_refl _, Int.le_refl _, Int.le_refl _⟩
      · rw [b.F (by decide), b.F (by decide), b.F (by decide), b.F (by decide), b.F (by decide), b.F (by decide), b.F (by decide), b.F (by decide)]
        exact ⟨Int.le_refl _, Int.le_refl _, Int.le_refl _, Int.le_refl _, Int.le_refl _, Int.le_refl _, Int.le_refl _, Int.le_refl _⟩
      · rw [F_wa, F_wa, ← z]; exact y
      · rw [b.F (by decide)]; exact id
    · exact KPR_rule KPR_rf b z
  have sy := ST_rule sx b h71
  have sw := ST_nx (ST_83 (x := wt + J + 1) sy ⟨by omega, by omega⟩) (show 0 ≤ p1 ∧ p1 ≤ 4001 by omega)
  have kw : KPR σ u (nx1 (wi y 83 (wt + J + 1))) := KPR_w0 (KPR_wi (KPR_tr kx ky) (by decide) (by rw [hu.2.1]; omega) ⟨by omega, by omega⟩) (by decide)
  have ay : ∀ r i, A (nx1 (wi y 83 (wt + J + 1))) r i = A (wa (wa v 79 ix l) 80 ix p1) r i := fun r i => b.A (by intro z; cases z)
  have fr : FR [69, 71, 72, 83] [] [79, 80, 81, 82] [] v (nx1 (wi y 83 (wt + J + 1))) := FR.wi (FR.wi (FR.tr (FR.wa (FR.wa FR.rf (by decide)) (by decide)) (FR.mo b (by decide) (by decide) (by decide) (by decide))) (by decide)) (by decide)
  have f72w : F (nx1 (wi y 83 (wt + J + 1))) 72 = F y 72 := by rw [show F (nx1 (wi y 83 (wt + J + 1))) 72 = F (wi y 83 (wt + J + 1)) 72 from wi_ne (by decide), wi_ne (by decide)]
  generalize nx1 (wi y 83 (wt + J + 1)) = w at *
  have a79 : A w 79 ix = l := by rw [ay, wa_rne (by decide), wa_eq ⟨by omega, by omega⟩]
  have a80 : A w 80 ix = p1 := by rw [ay, wa_eq ⟨by omega, by omega⟩]
  have rows : ∀ r i, r ∈ [79, 80, 81, 82] → (i : Nat) < wt + J → A w r i = A v r i := fun r i _ hi => by
    rw [ay, wa_ne (by omega), wa_ne (by omega)]
  have mw : mks w = mks v := fr_mks fr (by decide)
  have e32 : F w 32 = F v 32 := fr.F (by decide)
  refine ⟨push_B hw0 hwb hp1 (by rw [show wt + ((J + 1 : Nat) : Int) = wt + J + 1 by omega]; exact sw) ((fr.F (by decide)).trans f0) kw (by unfold WKN at wn ⊢; omega) rows (fun r j hr _ => ?_) (by omega) (fr.F (by decide)) (Or.inr (Or.inr ?_)) ?_ (fr.A (by decide)), fun z1 z2 z3 => ?_⟩
  · have : ∀ r, r ∈ [23, 28, 29] → r ∉ [79, 80, 81, 82] := by decide
    exact fr.A (this r hr)
  · rw [hix, Int.toNat_natCast, a79, a80]; exact ⟨hl, ⟨by omega, hp1⟩, htok⟩
  · rw [hix, Int.toNat_natCast, a79, if_neg (by omega)]; omega
  · have z1v : F v 72 = 0 := by
      rcases h72 with z | z
      · rw [← z, ← f72w]; exact z1
      · exact absurd (f72w.symm.trans z1) z
    obtain ⟨M, m, ps, t1, t2, t3, t4⟩ := ty z1v (by rw [← fr.F (k := 66) (by decide)]; exact z2) z3
    have x2 := TYC_x2 t4
    have tr : TRN σ wt J v w (mks v) := TRN_fr fr (by decide) rows
    have nw : nmo σ w = nmo σ v := by unfold nmo; rw [fr.A (by decide)]
    refine ⟨p1 + 1, ⟨M, m, ps, STK_tr J _ _ ps t1 hw0.1 (TRN_le tr t2 (Nat.le_refl _)), fun i => by rw [mw]; exact t2 i, Or.inr (Or.inl ⟨?_, ?_, by omega, ?_⟩)⟩, Int.le_refl _⟩
    · rw [hix, Int.toNat_natCast, a79]; exact hl.1
    · rw [hix, Int.toNat_natCast, a79]; exact hl.2
    · rw [mw, nw, show p1 + 1 - ps = p1 - ps + 1 by omega]
      exact PCE_tr (PCE_of t4 (fun i hi => by rw [hi]; exact rt.2.2.2)) tr
theorem and_push {v7 : MS} (tk : TKW u0 TN SN bw) (hm : NM TN bw 0 1 0 σ p o n q c f h s wt) (hu : UB σ n wt u) (hw : WKC u0 TN SN σ bw p o n q c f h s wt g u v p1 o1 n1 q1' c1 f1 h1 J e) (hp1 : p1 < TN) {ix : Nat} (hix : wt + J = ix) (hl : l = 1 ∨ l = 2) (hk : k = 9 ∨ k = 10) (nd : NDV (wa (wa v 79 ix l) 80 ix p1) v7 k p1) (hy : y = wa (wa v7 81 ix n1) 82 ix (A v 60 σ)) : WKA u0 TN SN σ bw p o n q c f h s wt g u (nx1 (wi y 83 (wt + J + 1))) (p1 + 1) o1 (n1 + 1) q1' c1 f1 h1 (J + 1) := by
  have hT := tk.1.1
  obtain ⟨hwb, rt, ty⟩ := hw
  have nm1 := WKB_nm tk hm hwb (by omega)
  have fs1 := NM_fs nm1 (by omega)
  obtain ⟨s0, f0, k0, hp, wn, en, hoo, l0⟩ := id hwb
  have e32 : F v 32 = n1 := s0.2.1.2.2.1
  have hw0 : 0 ≤ wt ∧ 0 ≤ n := by unfold NM at hm; omega
  have wb : n ≤ n1 := by unfold WKN at wn; omega
  have pb : 0 ≤ p1 ∧ wt + J ≤ 2100 := by unfold NM at nm1; omega
  have bws := bw_mono tk (i := p1.toNat) (m := (p1 + 1).toNat) (by omega) (by omega)
  have h60 := (s0.2.2.2.1 σ (Nat.le_refl σ)).1.1
  have k60 := (k0.2.2.1.2.2.2 σ (Nat.le_refl σ)).1
  have sx : ST u0 σ p1 o1 n1 q1' c1 f1 h1 s (wt + J) g (wa (wa v 79 ix l) 80 ix p1) := ST_wa (ST_wa s0 (by decide)) (by decide)
  have kx : KPR σ u (wa (wa v 79 ix l) 80 ix p1) := KPR_ww (KPR_ww k0 (by decide) (by rw [hu.2.1]; omega)) (by decide) (by rw [hu.2.1]; omega)
  have e32x : F (wa (wa v 79 ix l) 80 ix p1) 32 = n1 := by rw [F_wa, F_wa]; exact e32
  have s7 := ST_nd sx nd.1 (by omega) (by omega) (fun z => by omega)
  have k7 : KPR σ u v7 := KPR_nd kx nd.1 (by omega)
  have sy : ST u0 σ p1 o1 (n1 + 1) q1' c1 f1 h1 s (wt + J) g y := by rw [hy]; exact ST_wa (ST_wa s7 (by decide)) (by decide)
  have ky : KPR σ u y := by rw [hy]; exact KPR_ww (KPR_ww k7 (by decide) (by rw [hu.2.1]; omega)) (by decide) (by rw [hu.2.1]; omega)
  have sw := ST_nx (ST_83 (x := wt + J + 1) sy ⟨by omega, by omega⟩) (show 0 ≤ p1 ∧ p1 ≤ 4001 by omega)
  have kw : KPR σ u (nx1 (wi y 83 (wt + J + 1))) := KPR_w0 (KPR_wi ky (by decide) (by rw [hu.2.1]; omega) ⟨by omega, by omega⟩) (by decide)
  have frx : FR [32, 69, 83] [] [23, 24, 25, 26, 27, 28, 29, 30, 31, 79, 80, 81, 82] [] v (nx1 (wi y 83 (wt + J + 1))) := by
    rw [hy]
    exact FR.wi (FR.wi (FR.wa (FR.wa (FR.tr (FR.wa (FR.wa FR.rf (by decide)) (by decide)) (FR.mo nd.1.1 (by decide) (by decide) (by decide) (by decide))) (by decide)) (by decide)) (by decide)) (by decide)
  have ay : ∀ r i, A (nx1 (wi y 83 (wt + J + 1))) r i = A y r i := fun r i => rfl
  have nod : ∀ r i, r ∈ [23, 24, 25, 26, 27, 28, 29, 30, 31] → (i : Nat) < n1 → A (nx1 (wi y 83 (wt + J + 1))) r i = A v r i := fun r i hr hi => by
    have : ∀ r, r ∈ [23, 24, 25, 26, 27, 28, 29, 30, 31] → r ≠ 79 ∧ r ≠ 80 ∧ r ≠ 81 ∧ r ≠ 82 := by decide
    obtain ⟨m1, m2, m3, m4⟩ := this r hr
    rw [ay, hy, wa_rne m4, wa_rne m3, nd.1.2.2.2.2 r i (by omega), wa_rne m2, wa_rne m1]
  have kn : KND (nx1 (wi y 83 (wt + J + 1))) n1.toNat k := by
    have := KND_of nd (by omega)
    rw [e32x] at this
    refine KND_eq this (fun r hr => ?_)
    have m1 : ∀ r, r ∈ [23, 24, 28, 29] → r ≠ 81 ∧ r ≠ 82 := by decide
    rw [ay, hy, wa_rne (m1 r hr).2, wa_rne (m1 r hr).1]
  have mr : ∀ r i, r ∈ [79, 80, 81, 82] → A v7 r i = A (wa (wa v 79 ix l) 80 ix p1) r i := fun r i hr => by
    have : ∀ r, r ∈ [79, 80, 81, 82] → r ∉ [23, 24, 25, 26, 27, 28, 29, 30, 31] := by decide
    exact nd.1.1.A (this r hr)
  have rows : ∀ r i, r ∈ [79, 80, 81, 82] → (i : Nat) < wt + J → A (nx1 (wi y 83 (wt + J + 1))) r i = A v r i := fun r i hr hi => by
    rw [ay, hy, wa_ne (by omega), wa_ne (by omega), mr r i hr, wa_ne (by omega), wa_ne (by omega)]
  have a79 : A (nx1 (wi y 83 (wt + J + 1))) 79 ix = l := by
    rw [ay, hy, wa_rne (by decide), wa_rne (by decide), mr 79 ix (by decide), wa_rne (by decide), wa_eq ⟨by omega, by omega⟩]
  have a81 : A (nx1 (wi y 83 (wt + J + 1))) 81 ix = n1 := by
    rw [ay, hy, wa_rne (by decide), wa_eq ⟨by omega, by omega⟩]
  have a82 : A (nx1 (wi y 83 (wt + J + 1))) 82 ix = A v 60 σ := by
    rw [ay, hy, wa_eq (ARG1 v 60 σ)]
  have on : ONE (mks v) (mks (nx1 (wi y 83 (wt + J + 1)))) n1.toNat := by
    have := ONE_nd nd.1 (by omega)
    rw [e32x] at this
    have m1 : mks (nx1 (wi y 83 (wt + J + 1))) = mks v7 := by
      rw [show mks (nx1 (wi y 83 (wt + J + 1))) = mks (wi y 83 (wt + J + 1)) from wi_mks (by decide), wi_mks (by decide), hy]; rfl
    rw [m1]
    exact this
  have e32w : F (nx1 (wi y 83 (wt + J + 1))) 32 = n1 + 1 := sw.2.1.2.2.1
  generalize nx1 (wi y 83 (wt + J + 1)) = w at *
  have f66 : F w 66 = F v 66 := frx.F (by decide)
  refine ⟨push_B hw0 hwb hp1 (by rw [show wt + ((J + 1 : Nat) : Int) = wt + J + 1 by omega]; exact sw) ((frx.F (by decide)).trans f0) kw (by unfold WKN at wn ⊢; omega) rows (fun r j hr hj => ?_) (by omega) f66 (Or.inr (Or.inl ?_)) ?_ (frx.A (by decide)), fun z1 z2 z3 => ?_⟩
  · have : ∀ r, r ∈ [23, 28, 29] → r ∈ [23, 24, 25, 26, 27, 28, 29, 30, 31] := by decide
    exact nod r j (this r hr) (by omega)
  · rw [hix, Int.toNat_natCast, a79, a81, a82]
    refine ⟨hl, ⟨wb, by omega, ?_, kn.2.2.2.1, kn.2.2.2.2⟩, k60, fun z => l0 (by rw [← f66]; exact z)⟩
    rw [kn.1]; exact hk
  · rw [hix, Int.toNat_natCast, a79, if_neg (by omega)]; omega
  · obtain ⟨M, m, ps, t1, t2, t3, t4⟩ := ty (by rw [← frx.F (k := 72) (by decide)]; exact z1) (by rw [← f66]; exact z2) z3
    have x2 := TYC_x2 t4
    have tr : TRN σ wt J v w (mks v) := by
      have m1 : ∀ r, r ∈ [40, 41, 42, 43, 45] → r ∉ [23, 24, 25, 26, 27, 28, 29, 30, 31, 79, 80, 81, 82] := by decide
      have m2 : ∀ r, r ∈ [33, 35, 36, 37, 38] → r ∉ [23, 24, 25, 26, 27, 28, 29, 30, 31, 79, 80, 81, 82] := by decide
      have m3 : ∀ r, r ∈ [53, 54, 55] → r ∉ [23, 24, 25, 26, 27, 28, 29, 30, 31, 79, 80, 81, 82] := by decide
      refine ⟨frx.F (by decide), ⟨fun r i hr hi => nod r i hr (by have : i < (F v 32).toNat := hi; omega), fun r i hr _ => frx.A (m1 r hr), fun r i hr _ => frx.A (m2 r hr), fun r i hr _ => frx.A (m3 r hr), fun i _ => frx.A (by decide)⟩, ⟨?_, ?_⟩, rows⟩
      · unfold hlo; rw [frx.A (by decide)]; exact Nat.le_refl _
      · rw [frx.A (by decide)]; exact Int.le_refl _
    have nw : nmo σ w = nmo σ v := by unfold nmo; rw [frx.A (by decide)]
    have m0e : mks v 0 = n1.toNat := by show (F v 32).toNat = _; omega
    refine ⟨p1 + 1, ⟨M, m, ps, STK_tr J _ _ ps t1 hw0.1 (TRN_le tr t2 (Nat.le_refl _)), fun i => Nat.le_trans (t2 i) (on.2.2.2.2 i), Or.inr (Or.inr ⟨?_, by omega, ?_, mks v, ?_, by rw [m0e]; exact on, ?_, ?_⟩)⟩, Int.le_refl _⟩
    · rw [hix, Int.toNat_natCast, a79]; exact hl
    · rw [hix, Int.toNat_natCast, a82, nw]; unfold nmo; omega
    · rw [nw, show p1 + 1 - ps = p1 - ps + 1 by omega]
      exact PCE_tr (PCE_of t4 (fun i hi => by rw [hi]; exact rt.2.2.2)) tr
    · rw [hix, Int.toNat_natCast, a81, m0e]; omega
    · rw [m0e]
      rcases hk with hk | hk
      · rw [hk] at kn; exact Or.inl kn
      · rw [hk] at kn; exact Or.inr kn
end
