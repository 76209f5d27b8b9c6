section
variable {u0 u v v1 w x y : MS} {N σ TN SN e sN : Nat} {bw : Nat → Nat} {p o n q c f h s wt g lv k t D d z l p1 p2 o1 n1 n2 q1' q2 c1 c2 f1 f2 h1 h2 : Int} {r y1 y2 y3 : Int32} {S : SG_M_behind} {i : Nat}
theorem EXQ_base (a : EXQ u0 TN SN bw σ lv p o n q c f h s wt g v w r) (k : KPR σ u v) (hm : mks v = mks u) (hn : nmo σ v = nmo σ u) : EXQ u0 TN SN bw σ lv p o n q c f h s wt g u w r := by
  obtain ⟨b0, p2, n2, q2, c2, f2, h2, e, b1, b2, b3, b4, b5, b6, b7, b8⟩ := a
  exact ⟨b0, p2, n2, q2, c2, f2, h2, e, b1, b2, KPR_tr k b3, b4, b5, b6, b7, TYG_u b8 hm hn⟩
theorem simp74 (tk : TKW u0 TN SN bw) (hD : 0 ≤ D ∧ D ≤ 2900) (ho : 1 ≤ o ∧ o ≤ 25) (hb : XSP u0 TN SN bw D 3 0 0 0 o S.1) (hu : ST u0 σ p o n q c f h (sN : Int) wt g u) (hm : NM TN bw 0 1 1 σ p o n q c f h (sN : Int) wt) (a : EXQ u0 TN SN bw σ (o - 1) p o n q c f h ((sN : Int) + 1) wt g u w r) (b : FR [71, 72] [] [] [] w v) (hv : ST u0 σ p2 o n2 q2 c2 f2 h2 ((sN : Int) + 1) wt g v) (kv : KPR σ w v) (hg : g = 0 ∨ F v 72 ≠ 0) (hp : p2 < TN) : OK (fun v r => EXQ u0 TN SN bw σ (o - 1) p o n q c f h (sN : Int) wt g u v r ∨ FEQ u0 TN σ (D + 5) v r) (fb_M_simple_74 N S () v (I p2)) := by
  have hT := tk.1.1
  have fs := NM_fs hm (by omega)
  obtain ⟨b0, p2', n2', q2', c2', f2', h2', e, b1, b2, b3, b4, b5, b6, b7, b8⟩ := a
  have ee : p2' = p2 ∧ n2' = n2 ∧ q2' = q2 ∧ c2' = c2 ∧ f2' = f2 ∧ h2' = h2 := by
    have g1 := b2.2.1
    have g2 := hv.2.1
    have fe : ∀ k, k ∉ [71, 72] → F v k = F w k := fun k hk => b.F hk
    have w69 := fe 69 (by decide)
    have w32 := fe 32 (by decide)
    have w39 := fe 39 (by decide)
    have w46 := fe 46 (by decide)
    have w56 := fe 56 (by decide)
    have w58 := fe 58 (by decide)
    omega
  obtain ⟨rfl, rfl, rfl, rfl, rfl, rfl⟩ := ee
  have av : ∀ r i, A v r i = A w r i := fun r i => b.A (by intro z; cases z)
  have nm2 : NM TN bw 0 1 0 σ p2' o n2' q2' c2' f2' h2' ((sN : Int) + 1) wt := by
    have := NM_dlt tk hm b5 (by omega) (by omega) b4
    unfold NM at this ⊢
    omega
  have fs2 := NM_fs nm2 (by omega)
  unfold fb_M_simple_74
  refine ok_lt.mpr ?_
  rw [nx1_e]
  have s1 := ST_nx hv (show 0 ≤ p2' ∧ p2' ≤ 4001 by omega)
  have k1 : KPR σ w (nx1 v) := KPR_w0 kv (by decide)
  have f1 : F (nx1 v) 67 = 0 := (wi_ne (by decide)).trans ((b.F (by decide)).trans b0)
  have d1 := DLT_1 (n := n2') (q := q2') (c := c2') (f := f2') (h := h2') (m := 0) tk ⟨by omega, hp⟩ (by omega)
  rw [show n2' + 0 = n2' by omega] at d1
  have m1 := NM_mo (k2 := 3) (j2 := 0) (l2 := 0) (NM_dlt tk nm2 d1 (by omega) (by omega) (by omega)) (by omega) (by omega) (by omega)
  have l1 : LGS σ (nx1 v) := fun z => by
    show A v 60 σ ≤ 40
    rw [av]; exact b7 (k1.2.2.2.2.2.2 z)
  have mk1 : mks (nx1 v) = mks w := (wi_mks (by decide)).trans (fr_mks b (by decide))
  have nm1 : nmo σ (nx1 v) = nmo σ w := by unfold nmo; show (A v 60 σ).toNat = _; rw [av]
  have f72 : F (nx1 v) 72 = F v 72 := wi_ne (by decide)
  generalize nx1 v = x at *
  refine ok_bnd.mpr (ok_mono (hb x σ _ _ _ _ _ _ _ _ _ s1 f1 m1 l1) (fun y r2 hy => ?_))
  rw [show o - 0 = o by omega] at hy
  rcases hy with ⟨g0, p4, n4, q4, c4, f4, h4, e4, g1, g2, g3, g4, g5, g6, g7, g8⟩ | hy
  · have nm4 := NM_dlt tk m1 g5 (by omega) (by omega) g4
    have fs4 := NM_fs nm4 (by omega)
    have e32 : F y 32 = n4 := g2.2.1.2.2.1
    refine k_node (k := 11) rfl (by decide) rfl (by omega) (by omega) (fun y9 hy9 => ?_)
    have nd := hy9.1
    have nw := NEWN_of hy9 (show 0 ≤ p2' ∧ p2' < 4002 by omega)
    have k9 : KPR σ y y9 := KPR_nd KPR_rf nd (by omega)
    have s9 := ST_nd g2 nd (by omega) (by omega) (fun z => by omega)
    have dd := DLT_tr (DLT_tr b5 d1) g5
    refine simp97_N rfl hu ⟨(nd.1.F (by decide)).trans g0, p4, n4 + 1, q4, c4, f4, h4, n4.toNat, by rw [e32]; congr 1; omega, s9, KPR_tr b3 (KPR_tr k1 (KPR_tr g3 k9)), g4, ?_, ⟨by unfold DLT at dd; omega, by omega, ?_, ?_⟩, fun z => ?_, ?_⟩
    · unfold DLT at dd ⊢; omega
    · rw [e32] at nw; exact RTD_mo 0 _ _ ⟨by unfold DLT at dd; omega, nw.2.2.2.1⟩ (by omega)
    · rw [e32] at nw; exact nw.2.2.2.2.1
    · rw [nd.1.A (by decide)]; exact g7 (by rw [← z]; exact (nd.1.F (by decide)).symm)
    · rcases hg with hg | hg
      · have t1 : TYG TN SN σ g (o - 1) (p4 - p + 1) u x 0 1 (fun i => i = e) := TYG_mo (TYG_v b8 k1 mk1 nm1) (by unfold DLT at g5; omega) (Int.le_refl _)
        have t2 : TYG TN SN σ g (o - 1) (p4 - p + 1) u y 0 (1 + 1) (fun i => i = e ∨ i = e4) := TYG_app (e := 1) t1 g3 (TYG_mo (lv2 := o - 1) g8 (Int.le_refl _) (by omega)) rfl (Int.le_refl _) (by unfold DLT at b5; omega)
        have t3 : TYG TN SN σ g (o - 1) (p4 - p + 1) y y9 2 1 (fun i => i = (F y 32).toNat) := by
          refine TYG_nd (xx := 2) nd (by omega) g2.2.2.2.1 g7 (fun mm X Y z1 z2 => ?_) (by unfold DLT at g5 b5; omega) (by omega)
          rw [show gq g = 0 by unfold gq; rw [if_pos hg]]
          exact s11 (ONE_nd nd (by omega)) nw ⟨Nat.le_refl _, z1, z2⟩
        refine TYG_ro (TYG_app (e := 0) t2 k9 t3 rfl (Int.le_refl _) (by omega)) (fun i hi => Or.inr (by rw [e32]; exact hi)) (fun i hi => ?_)
        rcases hi with (hi | hi) | hi
        · refine Or.inr ?_
          rw [hi, nd.2.2.2.2 29 e (by rw [e32]; unfold DLT at g5; omega), (KPR_tr k1 g3).2.1.1 29 e (by decide) (by rw [b2.2.1.2.2.1]; omega)]
          exact b6.2.2.2
        · refine Or.inr ?_
          rw [hi, nd.2.2.2.2 29 e4 (by rw [e32]; omega)]
          exact g6.2.2.2
        · rw [e32] at hi; exact Or.inl hi
      · intro z1
        exact absurd ((KPR_tr g3 k9).2.2.2.2.2.1 z1) (by rw [f72]; exact hg)
  · have n0 := hy.1.2.2.2.2.1
    refine k_node (k := 11) rfl (by decide) rfl (by omega) (by omega) (fun y9 hy9 => ?_)
    refine ok_mono (simp97_F (D := D + 1) ⟨FSM_nd hy.1 hy9.1, F y 32, rfl, Or.inr ⟨by omega, by rw [hy9.1.2.1]; omega, hy9.2.2.2.2.1⟩⟩) (fun _ _ z => Or.inr (FEQ_mo z (by omega)))
theorem simple_ok (tk : TKW u0 TN SN bw) (hN : 20000 ≤ N) (hD : 0 ≤ D ∧ D ≤ 2900) (ho : 1 ≤ o ∧ o ≤ 25) (hwk : XSP u0 TN SN bw D 0 1 0 1 o S.2.2.2.2.2.2.2.2.2.2.2.1) (hmt : XMT u0 TN SN bw D o S.2.1) (hb : XSP u0 TN SN bw D 3 0 0 0 o S.1) : XSP u0 TN SN bw (D + 10) 0 1 1 1 o (fm_M_simple N S) := by
  intro u σ p n q c f h s wt g hs hf hm hl
  have hT := tk.1.1
  have fs := NM_fs hm (by omega)
  obtain ⟨sN, rfl⟩ : ∃ sN : Nat, s = sN := ⟨s.toNat, by unfold NM at hm; omega⟩
  have hs26 : sN ≤ 26 := by unfold NM at hm; omega
  have e69 : F u 69 = p := hs.2.1.1
  unfold fm_M_simple fb_M_simple_0
  refine ok_bnd.mpr (ok_mono (save_st (by omega) (by omega) hs26 hs) (fun v _ hv => ?_))
  obtain ⟨sv, kv, svd, fr⟩ := hv
  have fv : F v 67 = 0 := (fr.F (by decide)).trans hf
  have lv : LGS σ v := fun z => by rw [fr.A (by decide)]; exact hl (by rw [← z]; exact (fr.F (by decide)).symm)
  have mv : mks v = mks u := fr_mks fr (by decide)
  have nv : nmo σ v = nmo σ u := by unfold nmo; rw [fr.A (by decide)]
  have nm1 : NM TN bw 0 1 0 σ p o n q c f h ((sN : Int) + 1) wt := by unfold NM at hm ⊢; omega
  have t97F : ∀ (w : MS) (r : Int32), FEQ u0 TN σ D w r → OK (fun v r => EXQ u0 TN SN bw σ (o - 1) p o n q c f h (sN : Int) wt g u v r ∨ FEQ u0 TN σ (D + 10) v r) (fb_M_simple_97 N S () w r) := fun w r hw => ok_mono (simp97_F hw) (fun _ _ z => Or.inr (FEQ_mo z (by omega)))
  refine ok_bnd.mpr (ok_mono (hwk v σ _ _ _ _ _ _ _ _ _ sv fv nm1 lv) (fun w r hw => ?_))
  rcases hw with hw | hw
  · have hw2 := EXQ_base hw kv mv nv
    obtain ⟨b0, p2, n2, q2, c2, f2, h2, e, b1, b2, b3, b4, b5, b6, b7, b8⟩ := id hw
    have e69w : F w 69 = p2 := b2.2.1.1
    have pb : p < p2 := by unfold DLT at b5; omega
    refine k_F (y := 0) rfl ⟨by decide, by decide⟩ (fun _ => ?_) (fun z => absurd b0 z)
    refine k_isSign (s := 11) rfl ⟨by decide, by decide⟩ (by omega) (fun z => ?_) (fun _ => ?_)
    · rw [I_F' e69]
      refine ok_bnd.mpr (ok_mono (hmt u w σ sN _ _ _ _ _ _ _ _ _ _ _ _ _ _ hs hm hl b2 b0 (KPR_tr kv b3) (SVD_kp svd b3 (by rw [sv.2.1.2.2.2.2.2.2.2.1]; omega) (by rw [sv.2.1.2.2.2.2.2.2.2.2.1]; omega) (by omega)) z ⟨pb, b4⟩) (fun x r2 hx => ?_))
      rcases hx with hx | hx
      · exact simp97_N rfl hs hx
      · exact t97F x r2 hx
    · unfold fb_M_simple_39
      refine k_F (y := 0) rfl ⟨by decide, by decide⟩ (fun _ => ?_) (fun z => absurd b0 z)
      refine k_isSign (s := 21) rfl ⟨by decide, by decide⟩ (by omega) (fun z => ?_) (fun _ => simp97_N rfl hs hw2)
      have hp2 : p2 < TN := tok_lt tk (by omega) (by have := (ST_IS b2 z).1; omega)
      rw [I_F' e69w]
      have up : ∀ z, OK (fun v r => EXQ u0 TN SN bw σ (o - 1) p o n q c f h (sN : Int) wt g u v r ∨ FEQ u0 TN σ (D + 5) v r) z → OK (fun v r => EXQ u0 TN SN bw σ (o - 1) p o n q c f h (sN : Int) wt g u v r ∨ FEQ u0 TN σ (D + 10) v r) z := fun z hz => ok_mono hz (fun _ _ y => y.imp id (fun y => FEQ_mo y (by omega)))
      refine up _ (k_F (k := 73) (y := 0) rfl ⟨by decide, by decide⟩ (fun hg => ?_) (fun hg => ?_))
      · rw [b2.2.1.2.2.2.2.2.2.2.2.2.2.1] at hg
        exact simp74 tk hD ho hb hs hm hw2 FR.rf b2 KPR_rf (Or.inl hg) hp2
      · refine k_rule (s := 7) (t := p2) rfl ⟨by decide, by decide⟩ (by decide) rfl (by omega) b2.2.2.1.1 (fun v1 g1 g2 g3 => ?_)
        exact simp74 tk hD ho hb hs hm hw2 g1 (ST_rule b2 g1 g3) (KPR_rule KPR_rf g1 g2) (Or.inr g2) hp2
  · refine k_F (y := 0) rfl ⟨by decide, by decide⟩ (fun z => absurd z hw.1.2.1) (fun _ => ?_)
    unfold fb_M_simple_39
    exact k_F (y := 0) rfl ⟨by decide, by decide⟩ (fun z => absurd z hw.1.2.1) (fun _ => t97F w r hw)
theorem simple_F (hN : 5000 ≤ N) (hD : 0 ≤ D) (hwn : XNO S.2.2.2.2.2.2.2.2.2.2.2.1) : XSF u0 TN D (fm_M_simple N S) := by
  intro u σ p o n q c f h s wt g hs hf hp hn hh hsb
  obtain ⟨sN, rfl⟩ : ∃ sN : Nat, s = sN := ⟨s.toNat, by omega⟩
  unfold fm_M_simple fb_M_simple_0
  refine ok_bnd.mpr (ok_mono (save_st hN hsb.2.2 (by omega) hs) (fun v _ hv => ?_))
  obtain ⟨sv, kv, svd, fr⟩ := hv
  have fv : F v 67 ≠ 0 := by rw [fr.F (by decide)]; exact hf
  rw [hwn v fv, bnd_so]
  refine k_F (y := 0) rfl ⟨by decide, by decide⟩ (fun z => absurd z fv) (fun _ => ?_)
  unfold fb_M_simple_39
  exact k_F (y := 0) rfl ⟨by decide, by decide⟩ (fun z => absurd z fv) (fun _ => simp97_F (FEQ_none (FSM_of sv (by omega) (by omega) hh fv)))
end
