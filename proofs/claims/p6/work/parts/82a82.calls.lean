section
variable {Fv : Int64 → Int64 → Prop} {P P2 : Int64 → Prop} {u v w w2 x y : MS} {PR PR2 N p n n2 opM bnM bxM bx2 ND fr k tp mu CN PN SN UN FN rq q m h mm AN z j : Nat} {ow kd ow2 kd2 ro rn rh cb pc ct pM pE : Nat → Nat} {T : TY} {C : CY}
theorem FVW_fr {is ls as js : List Nat} (hf : FVW Fv u UN FN) (f : FR is ls as js u w) (ha : 54 ∉ as) : FVW Fv w UN FN := by
  refine ⟨hf.1, fun x hx b hb => hf.2.1 x hx b (by rw [FR.A f ha] at hb; exact hb), fun a b h => ?_⟩
  rcases hf.2.2 a b h with h | ⟨x, h1, h2, h3⟩
  · exact Or.inl h
  · exact Or.inr ⟨x, h1, h2, by rw [FR.A f ha]; exact h3⟩
theorem ATQ_erx (a : ATQ Fv P PR T ND p u fr ro rn rh cb pc ct q n ow kd bxM) (h109 : A u 109 p = 0) (hm : MODE u T C ND CN p (ro (fr - 1)) (rn (fr - 1)) (rh (fr - 1)) (sR T pc (fr - 1)) q bxM mu) (hg : PRG u T C pM pE ND CN PN SN UN FN) : ERX Fv P PR T C ND CN p u fr ro rn rh cb pc ct q n ow kd (ro (fr - 1) + tH T q) (rn (fr - 1) + rh (fr - 1) + tM T q) bxM mu := by
  obtain ⟨i, h, a3, a4, a5, a6⟩ := a
  have n4 := (hg.2.2.1 q a4).1.2.2.2.1
  exact ⟨i, h, a4, a5, a6, h109, by omega, Nat.le_refl _, hm⟩
theorem ATQ_fr {is ls as js : List Nat} (a : ATQ Fv P PR T ND p u fr ro rn rh cb pc ct q n ow kd bxM) (f : FR is ls as js u w) (hi : ∀ k, k ∈ [133, 118, 140, 149, 150] → k ∉ is) (ha : ∀ k, k ∈ [23, 89, 92, 94, 95, 98, 99, 100, 101, 102, 103, 104, 105, 106, 108, 109, 145, 146, 147] → k ∉ as) (hj : ∀ k, k ∈ [88, 91, 93, 107, 148] → k ∉ js) : ATQ Fv P PR T ND p w fr ro rn rh cb pc ct q n ow kd bxM := by
  obtain ⟨i, h, a3, a4, a5, a6⟩ := a
  exact ⟨MEI_fr i f (hi _ (by decide)) (hi _ (by decide)) (hi _ (by decide)) (hi _ (by decide)) (hi _ (by decide)) (ha _ (by decide)) (ha _ (by decide)) (ha _ (by decide)) (ha _ (by decide)) (ha _ (by decide)) (ha _ (by decide)) (ha _ (by decide)) (ha _ (by decide)) (hj _ (by decide)) (hj _ (by decide)) (hj _ (by decide)) (hj _ (by decide)) (hj _ (by decide)), FRS_fr h f (ha _ (by decide)) (ha _ (by decide)) (ha _ (by decide)) (ha _ (by decide)) (ha _ (by decide)) (ha _ (by decide)) (ha _ (by decide)) (ha _ (by decide)) (ha _ (by decide)) (ha _ (by decide)), by rw [FR.A f (ha _ (by decide))]; exact a3, a4, a5, by rw [FR.A f (ha _ (by decide))]; exact a6⟩
theorem isb0 : isb 0 = true := by decide
theorem isb1 : isb 1 = true := by decide
theorem i12 (a : ATQ Fv (PQ AN PR) PR T ND p u fr ro rn rh cb pc ct q n ow kd bxM) (h109 : A u 109 p = 0) (hm : MODE u T C ND CN p (ro (fr - 1)) (rn (fr - 1)) (rh (fr - 1)) (sR T pc (fr - 1)) q bxM mu) (hAN : 22 ≤ AN) (hp' : PGM Fv (PQ AN PR) PR T C pM pE ND CN PN SN UN FN u) (hfv : FVW Fv u UN FN) (hw : WLD u T ND UN FN PR p) (hE : F u 149 = F u 150 ∧ F u 151 = 0) (h23 : A u 23 q = 12) (hN : 11000000 ≤ N) : OK (fun y _ => RSW Fv AN T C ND CN UN FN p mu u y) (fm_M_callRun N u (I q) (I 12)) := by
  obtain ⟨i, hF, a98, a4, a5, a6⟩ := id a
  have x4 := MEI_p i
  have hT := PRG_26 hp'.1
  have nd := hp'.1.1.1
  have cn := hp'.1.1.2.1
  have fn := hp'.1.1.2.2.2.2.1
  have nq : q + 1 < ND := (hp'.1.2.2.1 q a4).1.2.2.2.2.2.2.2.2.2.2.2.2.1 (by omega)
  obtain ⟨⟨b, b1, b2, b3, b4, b5⟩, b6⟩ := (hp'.1.2.2.1 q a4).2.2.2.2.2.2.2.2.2.2.1 h23
  unfold fm_M_callRun fb_M_callRun_0
  refine ok_ck.mpr ⟨inb_at (k := 26) (n := 16000) rfl (by omega) (by omega) (by decide), ?_⟩
  rw [show (12 : Int32) = I 12 from rfl, decide_eq_true rfl, br_tq]
  refine ok_ck.mpr ⟨inb_at (k := 27) (n := 16000) rfl (by omega) (by omega) (by decide), ?_⟩
  have r27 := A_r u 27 q
  rw [I_tn (x := (q : Int)) (by omega) (by omega), Int.toNat_natCast, I_A (k := 27), I_A' b1, show (2000 : Int32) = I 2000 from rfl, decL r27.1 r27.2 (by omega) (by omega)]
  refine ok_br.mpr ⟨fun zl => ?_, fun zl => ?_⟩
  · have zl' := of_decide_eq_true zl
    rcases b5 with ⟨k, k1, -⟩ | ⟨g0, g1, g2, g3⟩
    · omega
    obtain ⟨f, hf⟩ : ∃ f : Nat, A u 27 q = f := ⟨(A u 27 q).toNat, by omega⟩
    rw [hf, Int.toNat_natCast] at g3
    obtain ⟨aa, r, c1, c2, c3⟩ := hp'.1.2.2.2.2.1 f (by omega)
    obtain rfl : aa = b := by omega
    have c3' := c3
    obtain ⟨c, d1, d2, d3, d4, d5, d6, d7, d8, d9, d10⟩ := c3'
    have cw := (hp'.1.2.2.2.1 c d2).2.1
    unfold fb_M_callRun_47 fb_M_callRun_63 fb_M_callRun_80
    rw [decide_eq_true (show I 12 = (12 : Int32) from rfl), br_tq]
    refine ok_ck.mpr ⟨inb_at (k := 27) (n := 16000) rfl (by omega) (by omega) (by decide), ?_⟩
    rw [show decide (I 12 = (13 : Int32)) = false from by decide, br_fq, isb0, ck_t]
    refine ok_lt.mpr ?_
    rw [br_fq, I_tn (x := (q : Int)) (by omega) (by omega), Int.toNat_natCast, I_A' hf, show (0 : Int32) = I 0 from rfl, wi_e, litm1q]
    have f1 : FR [166] [] [] [] u (wi u 166 0) := FR.wi FR.rf (by decide)
    have e166 : F (wi u 166 0) 166 = ((0 : Nat) : Int) := by rw [F_wi (by omega) (by omega), if_pos rfl]; rfl
    generalize wi u 166 0 = w at *
    obtain ⟨y1, y2, y3⟩ : tG T q = 0 ∧ F u 152 = 0 ∧ CLG u (sR T pc (fr - 1) + tR T q) 0 mu := by
      rcases hm with y | ⟨y1, c, s, many, hg, hb', mm', r, t1, t2, -⟩
      · exact y
      · omega
    have := callC (N := N) (v4 := (f : Int)) (v5 := -1) (b := aa) (g := 0) (c := c) (r := r) (xx := 0) (ff := f) (h := 0) (mu := mu) (ATQ_fr a f1 (by decide) (by decide) (by decide)) (by rw [FR.A f1 (by decide)]; exact h109) (by rw [FR.F f1 (by decide)]; exact y2) (by unfold CLG; rw [FR.F f1 (by decide), FR.F f1 (by decide)]; exact y3) (PGM_fr hp' f1 (by decide) (by decide)) (WLD_fr hw hT (OTF_fr f1 (by decide)) f1 (by decide) (by decide) (fun z _ => Or.inl (FR.A f1 (by decide)))) y1 (by rw [FR.F f1 (by decide), FR.F f1 (by decide), FR.F f1 (by decide)]; exact hE) e166 (by omega) b2 nq (by omega) b4 (by rw [FR.A f1 (by decide)]; exact b6) (by rw [← d1]; exact CLS_fr c3 f1 (by decide)) d2 (by omega) (by omega) (by omega) (fun z => by omega) (fun _ => ⟨rfl, by rw [FR.A f1 (by decide)]; exact d1⟩) (by omega) (Or.inl ⟨rfl, rfl⟩) (by omega)
    exact ok_mono this (fun y _ hy => RSW.pre (FR.mo f1 (by decide) (by decide) (by decide) (by decide)) hy)
  · have zl' := of_decide_eq_false zl
    rcases b5 with ⟨k, k1, k2, k3, k4⟩ | ⟨-, -, g2, -⟩
    rotate_left
    · omega
    rw [lit1q, I_add, show (q : Int) + 1 = ((q + 1 : Nat) : Int) from by omega]
    refine ok_bnd.mpr (ok_mono (at_node (N := N) (x := q + 1) a h109 hm (by omega) hp'.1) (fun v _ hv => ?_))
    obtain ⟨v1, v2, v3, v4⟩ := hv
    refine ok_ck.mpr ⟨inb_at (k := 27) (n := 16000) rfl (by omega) (by omega) (by decide), ?_⟩
    rw [I_A' (show A v 27 q = 2000 + (k : Int) by rw [FR.A v3 (by decide)]; exact k1), I_sub, show (2000 : Int) + (k : Int) - 2000 = (k : Int) from by omega]
    refine ok_bnd.mpr (ok_mono (preR (N := N) v1 hAN (PGM_fr hp' v3 (by decide) (by decide)) (FVW_fr hfv v3 (by decide)) (WLD_fr hw hT v4 v3 (by decide) (by decide) (fun z _ => Or.inl (FR.A v3 (by decide)))) (by rw [FR.F v3 (by decide), FR.F v3 (by decide)]; exact hE.1) k2 (fun z => by
      by_cases g0 : tG T q = 0
      · exact g0
      · have := k4 g0; omega) (by rw [← k3]; exact b3) nq (by rw [← k3]; exact b4) v2 hN) (fun y _ hy => ok_some.mpr (RSW.pre (FR.mo v3 (by decide) (by decide) (by decide) (by decide)) hy)))
set_option maxRecDepth 100000 in
theorem i13 (a : ATQ Fv (PQ AN PR) PR T ND p u fr ro rn rh cb pc ct q n ow kd bxM) (h109 : A u 109 p = 0) (hm : MODE u T C ND CN p (ro (fr - 1)) (rn (fr - 1)) (rh (fr - 1)) (sR T pc (fr - 1)) q bxM mu) (hp' : PGM Fv (PQ AN PR) PR T C pM pE ND CN PN SN UN FN u) (hfv : FVW Fv u UN FN) (hw : WLD u T ND UN FN PR p) (hE : F u 149 = F u 150 ∧ F u 151 = 0) (h23 : A u 23 q = 13) (hN : 60000 ≤ N) : OK (fun y _ => RSW Fv AN T C ND CN UN FN p mu u y) (fm_M_callRun N u (I q) (I 13)) := by
  obtain ⟨i, hF, a98, a4, a5, a6⟩ := id a
  have x4 := MEI_p i
  have hT := PRG_26 hp'.1
  have nd := hp'.1.1.1
  have cn := hp'.1.1.2.1
  have fn := hp'.1.1.2.2.2.2.1
  have un := hp'.1.1.2.2.2.1
  have nq : q + 1 < ND := (hp'.1.2.2.1 q a4).1.2.2.2.2.2.2.2.2.2.2.2.2.1 (by omega)
  obtain ⟨g0, ⟨b, b1, b2, b3, b4⟩, b6⟩ := (hp'.1.2.2.1 q a4).2.1.2.1 h23
  have hg := i.2.2.2.2.2.2.1
  have n500 : n ≤ 500 := i.2.2.2.2.2.2.2.1
  obtain ⟨y1, y2, y3⟩ : tG T q = 0 ∧ F u 152 = 0 ∧ CLG u (sR T pc (fr - 1) + tR T q) 0 mu := by
    rcases hm with y | ⟨y1, c, s, many, hg, hb', mm', r, t1, t2, -⟩
    · exact y
    · omega
  have e0 := ATQ_erx a h109 hm hp'.1
  clear hm
  unfold fm_M_callRun fb_M_callRun_0 fb_M_callRun_47 fb_M_callRun_63 fb_M_callRun_80
  refine ok_ck.mpr ⟨inb_at (k := 26) (n := 16000) rfl (by omega) (by omega) (by decide), ?_⟩
  rw [show decide (I 13 = (12 : Int32)) = false from by decide, br_fq, br_fq, show decide (I 13 = (13 : Int32)) = true from by decide, br_tq, isb1, ck_t]
  refine ok_lt.mpr ?_
  rw [br_tq, I_tn (x := (q : Int)) (by omega) (by omega), Int.toNat_natCast, I_A' b1, show (1 : Int32) = I 1 from rfl, wi_e]
  have f1 : FR [166] [] [] [] u (wi u 166 1) := FR.wi FR.rf (by decide)
  have e166 : F (wi u 166 1) 166 = ((1 : Nat) : Int) := by rw [F_wi (by omega) (by omega), if_pos rfl]; rfl
  generalize wi u 166 1 = w at *
  have aw := ATQ_fr a f1 (by decide) (by decide) (by decide)
  have iw := aw.1
  have hpw : hp w p = hp u p := by unfold hp; rw [f1.2.2.2 88 (by decide)]
  have ew := ERX_fr e0 f1 (by decide) (by decide) (by decide) iw e0.2.2.2.2.2.2.1 (Nat.le_refl _)
  have pw := PGM_fr hp' f1 (by decide) (by decide)
  have ww := WLD_fr hw hT (OTF_fr f1 (by decide)) f1 (by decide) (by decide) (fun z _ => Or.inl (FR.A f1 (by decide)))
  have g1 : GFR u w := FR.mo f1 (by decide) (by decide) (by decide) (by decide)
  obtain ⟨t1, t2⟩ := top_ok (N := N) (k := b) iw (by omega)
  have er : ∀ (aa : Int) (t : Int64), 0 ≤ aa ∧ aa < 22 → GT n ow kd (PQ AN PR) t → OK (fun y _ => RSW Fv AN T C ND CN UN FN p mu u y) (bnd (fr_M_errorOf N w (I aa) t) (fun u18 _ => some (u18, ()))) := fun aa t haa gt => ok_bnd.mpr (ok_mono (errOf_ok (N := N) ew pw gt haa hN) (fun y _ hy => ok_some.mpr (RSW.pre g1 (RES_rsw hy ww hT i.2.1))))
  rw [show (I ((b : Nat) : Int)) = I (b : Int) from rfl, t1, bnd_so]
  obtain ⟨t, ht⟩ : ∃ t, t = w.2.2.2 91 (46000 * p + (ro (fr - 1) + tH T q - 1 - b)) := ⟨_, rfl⟩
  rw [← ht] at t2 ⊢
  have rt := so_r t
  rw [sortOf_e, bnd_so, show (3 : Int32) = I 3 from rfl, decE rt.1 rt.2 (by omega) (by omega)]
  refine ok_br.mpr ⟨fun z3 => ?_, fun _ => er 17 t (by omega) t2⟩
  have so3 := of_decide_eq_true z3
  have hh : isH t := Or.inl so3
  obtain ⟨bk, parts⟩ := HP_bk iw.2.2.2.2.2.2.1 hh t2
  have bl2 : 2 ≤ blk (hp w p) t := blk_2 so3
  have bn := bk.2.2.2.1
  have vt : va t = (vn t : Int) := by have := bk.1; unfold vn; omega
  obtain ⟨bv, bF⟩ := bk.2.2.1 so3
  have vh : va (hp w p (vn t + 1)) = (vn (hp w p (vn t + 1)) : Int) := by unfold vn at *; omega
  rw [valueOf_e, bnd_so, I_F' iw.2.2.1, vt, cell_e (by omega) (by omega), bnd_so]
  have y193 : ∀ (v4 v5 : Int) (c r xx ff hd aa : Nat), A u 41 c = ((aa : Nat) : Int) ∨ True → aa ≤ 6 → CLS C u CN aa aa 0 0 hd 0 0 r ((c : Nat) : Int) → c < CN → r < 16000 → -1 ≤ v4 ∧ v4 < 1000 → -1 ≤ v5 ∧ v5 < 1400 → (v4 = -1 → v5 = xx ∧ A u 53 xx = ((c : Nat) : Int)) → (v4 ≠ -1 → v4 = ff ∧ A u 50 ff = ((c : Nat) : Int)) → hd ≤ 40 → ((v5 = -1 ∧ hd = 0) ∨ (v5 ≠ -1 ∧ vn (hp w p (vn t + 1)) = hd)) → OK (fun y _ => RSW Fv AN T C ND CN UN FN p mu u y) (fb_M_callRun_193 N () w (I q) (I b) (I v4) (I v5) (I aa)) := fun v4 v5 c r xx ff hd aa _ h6 hc hcn hr hv4 hv5 t5 t4 h40 hfl => by
    unfold fb_M_callRun_193
    rw [decE (by omega) (by omega) (by omega) (by omega)]
    refine ok_br.mpr ⟨fun za => ?_, fun _ => ?_⟩
    · obtain rfl : aa = b := by have := of_decide_eq_true za; omega
      have := callC (N := N) (v4 := v4) (v5 := v5) (b := aa) (g := 1) (c := c) (r := r) (xx := xx) (ff := ff) (h := hd) (mu := mu) aw (by rw [FR.A f1 (by decide)]; exact h109) (by rw [FR.F f1 (by decide)]; exact y2) (by unfold CLG; rw [FR.F f1 (by decide), FR.F f1 (by decide)]; exact y3) pw ww y1 (by rw [FR.F f1 (by decide), FR.F f1 (by decide), FR.F f1 (by decide)]; exact hE) e166 (by omega) b2 nq (by omega) (by rw [show tH T q + 1 - (aa + 1) = tH T q - aa from by omega]; exact b4) (by rw [FR.A f1 (by decide)]; exact b6) (CLS_fr hc f1 (by decide)) hcn hr hv4 hv5 (fun z => by rw [FR.A f1 (by decide)]; exact t5 z) (fun z => by rw [FR.A f1 (by decide)]; exact t4 z) h40 (by
        rw [← ht]
        rcases hfl with q | ⟨q1, q2⟩
        · exact Or.inl q
        · exact Or.inr ⟨q1, rfl, so3, q2⟩) hN
      exact ok_mono this (fun y _ hy => RSW.pre g1 hy)
    · rw [show (0 : Int32) = I 0 from rfl, term_e, bnd_so]
      exact er 18 _ (by omega) (Or.inl ⟨nh_mk (by omega), hp'.2.1.2.2.2.1 _ (by omega) (by omega)⟩)
  have fvw := hfv.2.2 _ _ bF
  rcases fvw with ⟨f, h1, h2, h3⟩ | ⟨xx, h1, h2, h3⟩
  · rw [h2]
    obtain ⟨aa, r, c1, c2, c3⟩ := hp'.1.2.2.2.2.1 f h1
    have c3' := c3
    obtain ⟨c, d1, d2, d3, d4, d5, d6, d7, d8, d9, d10⟩ := c3'
    have cw := (hp'.1.2.2.2.1 c d2).2.1
    have n1 : ¬ (0 : Int) ≤ -1 - (f : Int) := by omega
    have n3 : vn (hp w p (vn t + 1)) = 0 := by omega
    have f1000 : f < 1000 := by omega
    have in48 : inb (I (f : Int)) (ln 48) = true := inb_at (k := 48) (n := 1000) rfl (by omega) (by omega) (by decide)
    have tf : (I (f : Int)).toNatClampNeg = f := by rw [I_tn (by omega) (by omega), Int.toNat_natCast]
    have nf : decide (I (f : Int) = -1) = false := by rw [litm1q, decE (by omega) (by omega) (by omega) (by omega)]; exact decide_eq_false (by omega)
    have y := y193 (f : Int) (-1) c r 0 f 0 aa (Or.inr trivial) c2 (by rw [← d1]; exact c3) d2 (by omega) (by omega) (by omega) (fun z => by omega) (fun _ => ⟨rfl, d1⟩) (by omega) (Or.inl ⟨rfl, rfl⟩)
    obtain ⟨w1, w2⟩ := w64_n (x := (f : Int)) (by omega) (by omega)
    have l0 : decide (0 ≤ lg_cmp (-1 - (I (f : Int)).toInt64) 0) = false := decide_eq_false (fun z => n1 (w1 ▸ lg_ge0.mp z))
    unfold fb_M_callRun_147 fb_M_callRun_163
    rw [l0, br_fq, br_fq, w2, nf, br_fq, in48, ck_t, tf, I_A' (show A w 48 f = ((aa : Nat) : Int) by rw [FR.A f1 (by decide)]; exact c1)]
    exact y
  · rw [h2]
    obtain ⟨aa, hd, r, v1, v2, v3, v4, v5, c3⟩ := hp'.1.2.2.2.2.2 xx h1
    have c3' := c3
    obtain ⟨c, d1, d2, d3, d4, d5, d6, d7, d8, d9, d10⟩ := c3'
    have cw := (hp'.1.2.2.2.1 c d2).2.1
    have n1 : (0 : Int) ≤ (xx : Int) := by omega
    have n3 : vn (hp w p (vn t + 1)) = hd := by omega
    have in53 : inb (I (xx : Int)) (ln 53) = true := inb_at (k := 53) (n := 1400) rfl (by omega) (by omega) (by decide)
    have in41 : inb (I (c : Int)) (ln 41) = true := inb_at (k := 41) (n := 1400) rfl (by omega) (by omega) (by decide)
    have tx : (I (xx : Int)).toNatClampNeg = xx := by rw [I_tn (by omega) (by omega), Int.toNat_natCast]
    have tc : (I (c : Int)).toNatClampNeg = c := by rw [I_tn (by omega) (by omega), Int.toNat_natCast]
    have y := y193 (-1) (xx : Int) c r xx 0 hd aa (Or.inr trivial) v5 (by rw [← d1]; exact c3) d2 (by omega) (by omega) (by omega) (fun _ => ⟨rfl, d1⟩) (fun z => absurd rfl z) v2 (Or.inr ⟨by omega, n3⟩)
    have w1 := w64_i (x := (xx : Int)) (by omega) (by omega)
    have l0 : decide (0 ≤ lg_cmp (I (xx : Int)).toInt64 0) = true := decide_eq_true (lg_ge0.mpr (by rw [w1]; exact n1))
    unfold fb_M_callRun_147 fb_M_callRun_163
    rw [l0, br_tq, br_tq, Int32.toInt32_toInt64, show (-(I 1) : Int32) = I (-1) from rfl, show decide (I (-1) = (-1 : Int32)) = true from rfl, br_tq, in53, ck_t, tx, I_A' (show A w 53 xx = ((c : Nat) : Int) by rw [FR.A f1 (by decide)]; exact d1), in41, ck_t, tc, I_A' (show A w 41 c = ((aa : Nat) : Int) by rw [FR.A f1 (by decide)]; exact d3)]
    exact y
end
