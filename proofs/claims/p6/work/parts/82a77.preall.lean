section
variable {Fv : Int64 → Int64 → Prop} {P P2 : Int64 → Prop} {u v w w2 x y b : MS} {PR PR2 N p n n2 opM bnM bxM bx2 ND fr k tp mu CN PN SN UN FN rq q m h mm AN z j : Nat} {ow kd ow2 kd2 ro rn rh cb pc ct pM pE : Nat → Nat} {T : TY} {C : CY}
theorem unwR (e : ERX Fv (PQ AN PR) PR T C ND CN p u fr ro rn rh cb pc ct q n ow kd (ro (fr - 1) + tH T q) (rn (fr - 1) + rh (fr - 1) + tM T q) bxM mu) (hp' : PGM Fv (PQ AN PR) PR T C pM pE ND CN PN SN UN FN u) (hw : WLD u T ND UN FN PR p) (hq : tB T q + 1 ≤ tH T q) (hm : m < ND) (hx : NX T q m (tH T q) (tM T q)) (h98 : A u 98 (60 * p + (fr - 1)) = ((m : Nat) : Int)) (hN : 60000 ≤ N) : OK (fun v _ => RSW Fv AN T C ND CN UN FN p mu u v) (fm_M_unwatchRun N u) := by
  have i := e.1
  have x4 := MEI_p i
  have hH := (hp'.1.2.2.1 q e.2.2.1).1.1
  have hf := e.2.1.1
  have hro := (e.2.1.2.2.1 (fr - 1) (by omega)).2.2.2.2.1
  have hT := PRG_26 hp'.1
  have e' := e
  rw [show ro (fr - 1) + tH T q = ro (fr - 1) + (tH T q - 1) + 1 from by omega] at e'
  unfold fm_M_unwatchRun fb_M_unwatchRun_0
  refine ok_bnd.mpr (ok_mono (takeE (N := N) e' (by omega)) (fun v t hv => ?_))
  obtain ⟨v1, gt, v3, v4⟩ := hv
  rw [sortOf_e, bnd_so]
  refine ok_br.mpr ⟨fun _ => ?_, fun _ => ok_bnd.mpr (ok_mono (err_ok (N := N) (a := 11) v1 (PGM_fr hp' v3 (by decide) (by decide)) (by omega) hN) (fun y _ hy => ok_some.mpr (RES_via v3 v4 hy hw hT i.2.1 (by decide) (by decide) (by decide) (by decide) (by decide) (by decide))))⟩
  have wtv : WTQ v PR := WT_fr hw.2.1 v3 (by decide) (by decide) (by decide)
  have lp : ∀ (M j : Nat) (w : MS), FR [125] [] [122, 123, 124] [] v w → WTQ w PR → (j : Int) ≤ F w 125 → (F w 125).toNat - j < M → OK (fun y _ => RSW Fv AN T C ND CN UN FN p mu u y) (gg_M_unwatchRun N M w t (I j)) := by
    intro M
    induction M with
    | zero => intro j w _ _ _ h; omega
    | succ M ih =>
      intro j w fw wt hj hM
      obtain ⟨c, hc⟩ : ∃ c : Nat, F w 125 = c := ⟨(F w 125).toNat, by have := wt.1; omega⟩
      have c200 := wt.2.1
      show OK _ (fb_M_unwatchRun_22 N (gg_M_unwatchRun N M) w t (I j))
      unfold fb_M_unwatchRun_22 fb_M_unwatchRun_64
      rw [I_F' hc, decI (by omega) (by omega) (by omega) (by omega)]
      refine ok_br.mpr ⟨fun _ => ?_, fun zz => ?_⟩
      · rw [truth1, bnd_so]
        have fu : FR [125] [] [92, 122, 123, 124] [] u w := FR.tr (FR.mo v3 (by decide) (by decide) (by decide) (by decide)) (FR.mo fw (by decide) (by decide) (by decide) (by decide))
        have ou : OTF p u w := OTF.tr v4 (OTF_fr fw (by decide))
        have iw := MEI_fr v1.1 fw (by decide) (by decide) (by decide) (by decide) (by decide) (by decide) (by decide) (by decide) (by decide) (by decide) (by decide) (by decide) (by decide) (by decide) (by decide) (by decide) (by decide) (by decide)
        have ew := ERX_fr v1 fw (by decide) (by decide) (by decide) iw (by omega) (Nat.le_refl _)
        have ww : WLD w T ND UN FN PR p := WLD_otf hw hT ou (fun k hk i => FR.A fu (by revert hk; unfold KP; simp; omega)) (fun z _ => Or.inl (FR.A fu (by decide))) (LK_fr hw.1 fu (by decide) (by decide)) wt (by rw [FR.F fu (by decide)]; exact hw.2.2.1) (fun i => by rw [FR.A fu (by decide)]; exact hw.2.2.2.1 i) (fun i => by rw [FR.A fu (by decide)]; exact hw.2.2.2.2.2.1 i)
        exact ok_bnd.mpr (ok_mono (putR (N := N) ew hm hx (by rw [FR.A fu (by decide)]; exact h98) (by omega) rfl (GT_atom hp'.2.1 (by omega)) (by omega)) (fun y _ hy => ok_some.mpr (RSW.pre (FR.mo fu (by decide) (by decide) (by decide) (by decide)) (RES_rsw hy ww hT i.2.1))))
      · have zz' := of_decide_eq_false zz
        have nxt : OK (fun y _ => RSW Fv AN T C ND CN UN FN p mu u y) (gg_M_unwatchRun N M w t (I j + 1)) := by
          rw [lit1q, I_add, show (j : Int) + 1 = ((j + 1 : Nat) : Int) from by omega]
          exact ih (j + 1) w fw wt (by omega) (by omega)
        refine ok_ck.mpr ⟨inb_at (k := 122) (n := 4000) rfl (by omega) (by omega) (by decide), ?_⟩
        rw [valueOf_e, bnd_so]
        refine ok_br.mpr ⟨fun _ => ok_ck.mpr ⟨inb_at (k := 123) (n := 4000) rfl (by omega) (by omega) (by decide), ok_br.mpr ⟨fun _ => ?_, fun _ => nxt⟩⟩, fun _ => nxt⟩
        refine ok_bnd.mpr (ok_mono (removeWatch_ok (N := N) (k := j) wt (by omega) (by omega)) (fun w5 _ h5 => ?_))
        obtain ⟨q1, q2, q3⟩ := h5
        exact ih j w5 (FR.tr fw q1) q3 (by omega) (by omega)
  rw [show (0 : Int32) = I ((0 : Nat) : Int) from rfl]
  have w1 := wtv.1
  have w2 := wtv.2.1
  exact lp N 0 v FR.rf wtv (by omega) (by omega)
theorem npre_v : npre 0 = 0 ∧ npre 1 = 1 ∧ npre 5 = 1 ∧ npre 6 = 1 ∧ npre 7 = 1 ∧ npre 9 = 1 ∧ npre 10 = 1 ∧ npre 11 = 1 ∧ npre 12 = 0 ∧ npre 17 = 0 := by decide
theorem truth_any {a : Int32} : ∃ c : Int, 0 ≤ c ∧ c < 22 ∧ fm_M_truth N u a = some (u, mk 1 c) := by
  by_cases h : a = 0
  · subst h; exact ⟨1, by omega, by omega, rfl⟩
  · refine ⟨0, by omega, by omega, ?_⟩
    unfold fm_M_truth fb_M_truth_0
    rw [decide_eq_false h, br_fq]; rfl
theorem isK112 : isK 112 6 = true := by decide
set_option maxRecDepth 100000 in
theorem preR {k : Nat} (e : ERX Fv (PQ AN PR) PR T C ND CN p u fr ro rn rh cb pc ct q n ow kd (ro (fr - 1) + tH T q) (rn (fr - 1) + rh (fr - 1) + tM T q) bxM mu) (hAN : 22 ≤ AN) (hp' : PGM Fv (PQ AN PR) PR T C pM pE ND CN PN SN UN FN u) (hfv : FVW Fv u UN FN) (hw : WLD u T ND UN FN PR p) (hE : F u 149 = F u 150) (hk : k < 30) (hG : k < 18 → tG T q = 0) (hq : tB T q + npre k ≤ tH T q) (hm : m < ND) (hx : NX T q m (tH T q + 1 - npre k) (tM T q)) (h98 : A u 98 (60 * p + (fr - 1)) = ((m : Nat) : Int)) (hN : 11000000 ≤ N) : OK (fun v _ => RSW Fv AN T C ND CN UN FN p mu u v) (fm_M_predefinedRun N u (I k)) := by
  have i := e.1
  have x4 := MEI_p i
  have hH := (hp'.1.2.2.1 q e.2.2.1).1.1
  have hf := e.2.1.1
  have hro := (e.2.1.2.2.1 (fr - 1) (by omega)).2.2.2.2.1
  have hBq := e.2.2.2.2.2.2.1
  have hT := PRG_26 hp'.1
  obtain ⟨v0, v1, v5, v6, v7, v9, v10, v11, v12, v17⟩ := npre_v
  have up : ∀ (kk : Nat) (kn : Int), npre kk = 1 → kk = k → 0 ≤ kn ∧ kn ≤ 2 → OK (fun v _ => RSW Fv AN T C ND CN UN FN p mu u v) (bnd (fm_M_take N u) (fun u16 r16 => fb_M_predefinedRun_149 N () u16 r16 (I kn))) := fun kk kn n1 ek hkn => by
    subst ek
    have e' := e
    rw [show ro (fr - 1) + tH T q = ro (fr - 1) + (tH T q - 1) + 1 from by omega] at e'
    refine ok_bnd.mpr (ok_mono (takeE (N := N) e' (by omega)) (fun v t hv => ?_))
    obtain ⟨v1, gt, v3, v4⟩ := hv
    unfold fb_M_predefinedRun_149 fb_M_predefinedRun_292
    exact ok_bnd.mpr (ok_mono (ups_ok (N := N) v1 (PGM_fr hp' v3 (by decide) (by decide)) gt hkn (by omega)) (fun y _ hy => ok_some.mpr (RES_via v3 v4 hy hw hT i.2.1 (by decide) (by decide) (by decide) (by decide) (by decide) (by decide))))
  have put0 : ∀ t, npre k = 0 → GT n ow kd (PQ AN PR) t → OK (fun v _ => RES Fv (PQ AN PR) PR T C ND CN p mu u v) (fm_M_put N u t) := fun t n0 gt => by
    rw [n0] at hx
    exact putR (N := N) e hm hx h98 (by omega) rfl gt (by omega)
  unfold fm_M_predefinedRun fb_M_predefinedRun_0
  have dk : ∀ c : Int, 0 ≤ c → c < 100 → decide (I (k : Int) = I c) = decide ((k : Int) = c) := fun c h1 h2 => decE (by omega) (by omega) (by omega) (by omega)
  rw [show (18 : Int32) = I 18 from rfl, decL (by omega) (by omega) (by omega) (by omega)]
  refine ok_br.mpr ⟨fun z18 => ?_, fun z18 => ok_bnd.mpr (ok_mono (testR (N := N) e hp' ⟨by have := of_decide_eq_false z18; omega, hk⟩ hq hm hx h98 (by omega)) (fun y _ hy => ok_some.mpr (RES_rsw hy hw hT i.2.1)))⟩
  have k18 : k < 18 := by have := of_decide_eq_true z18; omega
  have g0 := hG k18
  unfold fb_M_predefinedRun_292
  have pr : (k = 2 ∨ k = 3 ∨ k = 4 ∨ k = 8 ∨ k = 16) → OK (fun v _ => RSW Fv AN T C ND CN UN FN p mu u v) (bnd (fm_M_processRun N u (I k)) (fun u6 _ => some (u6, ()))) := fun h => ok_bnd.mpr (ok_mono (procR (N := N) e hp' hw hE g0 h hq hm hx h98 (by omega)) (fun y _ hy => ok_some.mpr hy))
  have nm : (k = 13 ∨ k = 14 ∨ k = 15) → OK (fun v _ => RSW Fv AN T C ND CN UN FN p mu u v) (bnd (fm_M_nameRun N u (I k)) (fun u6 _ => some (u6, ()))) := fun h => ok_bnd.mpr (ok_mono (nameR (N := N) e hp' hw h hq hm hx h98 (by omega)) (fun y _ hy => ok_some.mpr hy))
  rw [show (0 : Int32) = I 0 from rfl, show (1 : Int32) = I 1 from rfl, show (2 : Int32) = I 2 from rfl, show (3 : Int32) = I 3 from rfl, show (4 : Int32) = I 4 from rfl, show (5 : Int32) = I 5 from rfl, show (6 : Int32) = I 6 from rfl, show (7 : Int32) = I 7 from rfl, show (8 : Int32) = I 8 from rfl, show (9 : Int32) = I 9 from rfl, show (10 : Int32) = I 10 from rfl, show (11 : Int32) = I 11 from rfl, show (12 : Int32) = I 12 from rfl, show (13 : Int32) = I 13 from rfl, show (14 : Int32) = I 14 from rfl, show (15 : Int32) = I 15 from rfl, show (16 : Int32) = I 16 from rfl, show (17 : Int32) = I 17 from rfl]
  rw [dk 0 (by omega) (by omega), dk 1 (by omega) (by omega), dk 2 (by omega) (by omega), dk 3 (by omega) (by omega), dk 4 (by omega) (by omega), dk 5 (by omega) (by omega), dk 6 (by omega) (by omega), dk 7 (by omega) (by omega), dk 8 (by omega) (by omega), dk 9 (by omega) (by omega), dk 10 (by omega) (by omega), dk 11 (by omega) (by omega), dk 12 (by omega) (by omega), dk 13 (by omega) (by omega), dk 14 (by omega) (by omega), dk 15 (by omega) (by omega), dk 16 (by omega) (by omega), dk 17 (by omega) (by omega)]
  refine ok_br.mpr ⟨fun z => ?_, fun z0 => ok_br.mpr ⟨fun z => ?_, fun z1 => ok_br.mpr ⟨fun z => ?_, fun z2 => ok_br.mpr ⟨fun z => ?_, fun z3 => ok_br.mpr ⟨fun z => ?_, fun z4 => ok_br.mpr ⟨fun z => ?_, fun z5 => ok_br.mpr ⟨fun z => ?_, fun z6 => ok_br.mpr ⟨fun z => ?_, fun z7 => ok_br.mpr ⟨fun z => ?_, fun z8 => ok_br.mpr ⟨fun z => ?_, fun z9 => ok_br.mpr ⟨fun z => ?_, fun z10 => ok_br.mpr ⟨fun z => ?_, fun z11 => ok_br.mpr ⟨fun z => ?_, fun z12 => ok_br.mpr ⟨fun z => ?_, fun z13 => ok_br.mpr ⟨fun z => ?_, fun z14 => ok_br.mpr ⟨fun z => ?_, fun z15 => ok_br.mpr ⟨fun z => ?_, fun z16 => ok_br.mpr ⟨fun z => ?_, fun z17 => ?_⟩⟩⟩⟩⟩⟩⟩⟩⟩⟩⟩⟩⟩⟩⟩⟩⟩⟩
  · 
    have ek : k = 0 := by have := of_decide_eq_true z; omega
    rw [I_F' i.2.2.1, term_e, bnd_so]
    exact ok_bnd.mpr (ok_mono (put0 _ (by rw [ek]; exact v0) (Or.inl ⟨nh_mk (by omega), hp'.2.1.2.1 p i.2.1⟩)) (fun y _ hy => ok_some.mpr (RES_rsw hy hw hT i.2.1)))
  · have ek : k = 1 := by have := of_decide_eq_true z; omega
    subst ek
    rw [v1] at hx hq
    exact ok_bnd.mpr (ok_mono (spawnR (N := N) e hAN hp' hfv hw g0 hq hm hx h98 (by omega)) (fun y _ hy => ok_some.mpr hy))
  · exact pr (by have := of_decide_eq_true z; omega)
  · exact pr (by have := of_decide_eq_true z; omega)
  · exact pr (by have := of_decide_eq_true z; omega)
  · have ek : k = 5 := by have := of_decide_eq_true z; omega
    subst ek
    rw [v5] at hx hq
    refine ok_bnd.mpr ?_
    unfold fm_M_processRun fb_M_processRun_0
    rw [br_t_of (decide_eq_true (show I ((5 : Nat) : Int) = 5 from rfl))]
    exact ok_bnd.mpr (ok_mono (unwR (N := N) e hp' hw hq hm hx h98 (by omega)) (fun y _ hy => ok_some.mpr (ok_some.mpr hy)))
  · 
    have ek : k = 6 := by have := of_decide_eq_true z; omega
    have n1 : npre k = 1 := by rw [ek]; exact v6
    have e' := e
    rw [show ro (fr - 1) + tH T q = ro (fr - 1) + (tH T q - 1) + 1 from by omega] at e'
    rw [n1] at hx
    refine ok_bnd.mpr (ok_mono (takeE (N := N) e' (by omega)) (fun v t hv => ?_))
    obtain ⟨a1, gt, a3, a4⟩ := hv
    refine ok_bnd.mpr (ok_mono isTruth_ok (fun x r2 hx' => ?_))
    obtain ⟨x1, -⟩ := hx'
    subst x1
    refine ok_br.mpr ⟨fun _ => ok_bnd.mpr (ok_mono (err_ok (N := N) (a := 11) a1 (PGM_fr hp' a3 (by decide) (by decide)) (by omega) (by omega)) (fun y _ hy => ok_some.mpr (RES_via a3 a4 hy hw hT i.2.1 (by decide) (by decide) (by decide) (by decide) (by decide) (by decide)))), fun _ => ?_⟩
    rw [I_F' a1.1.2.2.1]
    refine ok_ck.mpr ⟨inb_at (k := 112) (n := 24) rfl (by omega) (by omega) (by decide), ?_⟩
    obtain ⟨c, c1, c2, c3⟩ := truth_any (N := N) (u := x) (a := x.2.2.1 112 (I (p : Int)).toNatClampNeg)
    rw [c3, bnd_so]
    refine ok_bnd.mpr (ok_mono (put_ok (N := N) a1.1 (GT_atom hp'.2.1 ⟨c1, c2⟩) (by omega)) (fun y _ hy => ?_))
    obtain ⟨y1, y2⟩ := hy
    have fy : FR [] [] [92] [91] x y := by rw [y1]; exact FR.wa (FR.wj FR.rf (by decide)) (by decide)
    have oy : OTF p x y := OTF_at (k0 := 92) fy (i0 := p) (fun j hj => by rw [y1, A_eq (by omega) (by omega), if_neg hj]; rfl) (Or.inl ⟨by decide, rfl⟩)
    have fin : ∀ a : Int, OK (fun v _ => RSW Fv AN T C ND CN UN FN p mu u v) (some (wa y 112 p a, ())) := fun a => by
      have f2 : FR [] [] [92, 112] [91] u (wa y 112 p a) := FR.wa (FR.tr (FR.mo a3 (by decide) (by decide) (by decide) (by decide)) (FR.mo fy (by decide) (by decide) (by decide) (by decide))) (by decide)
      have f3 : FR [] [] [112] [] y (wa y 112 p a) := FR.wa FR.rf (by decide)
      have i3 := MEI_fr y2 f3 (by decide) (by decide) (by decide) (by decide) (by decide) (by decide) (by decide) (by decide) (by decide) (by decide) (by decide) (by decide) (by decide) (by decide) (by decide) (by decide) (by decide) (by decide)
      have o3 : OTF p u (wa y 112 p a) := OTF.tr a4 (OTF.tr oy (OTF_fr f3 (by decide)))
      exact ok_some.mpr (finX e g0 hm hx f2 (by decide) (by decide) (by decide) h98 (Or.inl (by rw [FR.A f2 (by decide)]; exact e.2.2.2.2.2.1)) (by rw [show ro (fr - 1) + (tH T q + 1 - 1) = ro (fr - 1) + (tH T q - 1) + 1 from by omega]; exact MEI_x i3) (WLD_fr hw hT o3 f2 (by decide) (by decide) (fun z _ => Or.inl (FR.A f2 (by decide)))) (FR.mo f2 (by decide) (by decide) (by decide) (by decide)))
    rw [show fm_M_truth N y (I 1) = some (y, mk 1 0) from truth1, bnd_so]
    unfold fb_M_predefinedRun_251 fb_M_predefinedRun_292
    rw [isK112, ck_t, I_F' y2.2.2.1, inb_at (k := 112) (n := 24) rfl (by omega) (by omega) (by decide), ck_t, ck_t, lt_e, lt_e, I_tn (x := (p : Int)) (by omega) (by omega), Int.toNat_natCast, show vp_nar .boolean (I 1) = I 1 from rfl, show vp_nar .boolean (I 0) = I 0 from rfl, wa_e, wa_e]
    exact ok_br.mpr ⟨fun _ => fin 1, fun _ => fin 0⟩
  · have := up 7 1 v7 (by have := of_decide_eq_true z; omega) (by omega)
    simp only [z, br_tq]
    exact this
  · exact pr (by have := of_decide_eq_true z; omega)
  · have := up 9 2 v9 (by have := of_decide_eq_true z; omega) (by omega)
    simp only [z7, z, br_tq, br_fq]
    exact this
  · have := up 10 0 v10 (by have := of_decide_eq_true z; omega) (by omega)
    simp only [z7, z9, br_fq]
    exact this
  · 
    have ek : k = 11 := by have := of_decide_eq_true z; omega
    have n1 : npre k = 1 := by rw [ek]; exact v11
    have e' := e
    rw [show ro (fr - 1) + tH T q = ro (fr - 1) + (tH T q - 1) + 1 from by omega] at e'
    rw [n1] at hx
    refine ok_bnd.mpr (ok_mono (takeE (N := N) e' (by omega)) (fun v t hv => ?_))
    obtain ⟨a1, gt, a3, a4⟩ := hv
    have hpg := PGM_fr hp' a3 (by decide) (by decide)
    refine ok_bnd.mpr (ok_mono (printRun_ok (N := N) a1.1 hpg.2.2.2.1 hpg.2.2.2.2 PQ_s gt (by rw [FR.F a3 (by decide)]; exact hw.2.2.1) hN) (fun x _ hx' => ?_))
    obtain ⟨b1, b2, b3, b4⟩ := hx'
    have ix := MEI_fr a1.1 b1 (by decide) (by decide) (by decide) (by decide) (by decide) (by decide) (by decide) (by decide) (by decide) (by decide) (by decide) (by decide) (by decide) (by decide) (by decide) (by decide) (by decide) (by decide)
    have ex := ERX_fr a1 b1 (by decide) (by decide) (by decide) ix (by omega) (Nat.le_refl _)
    have fx : FR [128, 144] [] [92, 126, 127, 143] [141] u x := FR.tr (FR.mo a3 (by decide) (by decide) (by decide) (by decide)) (FR.mo b1 (by decide) (by decide) (by decide) (by decide))
    have ox : OTF p u x := OTF.tr a4 (OTF_fr b1 (by decide))
    have wx : WLD x T ND UN FN PR p := WLD_otf hw hT ox (fun k hk i => FR.A fx (by revert hk; unfold KP; simp; omega)) (fun z _ => Or.inl (FR.A fx (by decide))) (LK_fr hw.1 fx (by decide) (by decide)) (WT_fr hw.2.1 fx (by decide) (by decide) (by decide)) ⟨b2, b3⟩ (fun j => by
      rcases b4 j with z | z
      · rw [z, FR.A a3 (by decide)]; exact hw.2.2.2.1 j
      · exact z) (fun j => by rw [FR.A fx (by decide)]; exact hw.2.2.2.2.2.1 j)
    rw [term_e, bnd_so]
    exact ok_bnd.mpr (ok_mono (putR (N := N) ex hm hx (by rw [FR.A fx (by decide)]; exact h98) (by omega) rfl (GT_atom hp'.2.1 (by omega)) (by omega)) (fun y _ hy => ok_some.mpr (RSW.pre (FR.mo fx (by decide) (by decide) (by decide) (by decide)) (RES_rsw hy wx hT i.2.1))))
  · 
    have ek : k = 12 := by have := of_decide_eq_true z; omega
    have n0 : npre k = 0 := by rw [ek]; exact v12
    rw [n0] at hx
    have r1 := F_r u 121
    rw [I_F (k := 121), term_e, bnd_so]
    refine ok_bnd.mpr (ok_mono (put_ok (N := N) i (Or.inl ⟨nh_mk (by omega), hp'.2.1.2.2.1 _ r1.1 r1.2⟩) (by omega)) (fun y _ hy => ok_lt.mpr (ok_some.mpr ?_)))
    obtain ⟨y1, y2⟩ := hy
    have fy : FR [] [] [92] [91] u y := by rw [y1]; exact FR.wa (FR.wj FR.rf (by decide)) (by decide)
    have oy : OTF p u y := OTF_at (k0 := 92) fy (i0 := p) (fun j hj => by rw [y1, A_eq (by omega) (by omega), if_neg hj]; rfl) (Or.inl ⟨by decide, rfl⟩)
    rw [I_F (k := 121), I_add, wi_e]
    have f3 : FR [121] [] [] [] y (wi y 121 (F y 121 + 1)) := FR.wi FR.rf (by decide)
    have f2 : FR [121] [] [92] [91] u (wi y 121 (F y 121 + 1)) := FR.tr (FR.mo fy (by decide) (by decide) (by decide) (by decide)) (FR.mo f3 (by decide) (by decide) (by decide) (by decide))
    have i3 := MEI_ints y2 f3 (by decide)
    have o3 : OTF p u (wi y 121 (F y 121 + 1)) := OTF.tr oy (OTF_fr f3 (by decide))
    exact finX e g0 hm hx f2 (by decide) (by decide) (by decide) h98 (Or.inl (by rw [FR.A f2 (by decide)]; exact e.2.2.2.2.2.1)) (by rw [show ro (fr - 1) + (tH T q + 1 - 0) = ro (fr - 1) + tH T q + 1 from by omega]; exact MEI_x i3) (WLD_fr hw hT o3 f2 (by decide) (by decide) (fun z _ => Or.inl (FR.A f2 (by decide)))) (FR.mo f2 (by decide) (by decide) (by decide) (by decide))
  · exact nm (by have := of_decide_eq_true z; omega)
  · exact nm (by have := of_decide_eq_true z; omega)
  · exact nm (by have := of_decide_eq_true z; omega)
  · exact pr (by have := of_decide_eq_true z; omega)
  · 
    have ek : k = 17 := by have := of_decide_eq_true z; omega
    rw [show fm_M_term N u (I 0) (u.1 120) = some (u, mk 0 (u.1 120).toInt) from term0_e, bnd_so]
    exact ok_bnd.mpr (ok_mono (put0 _ (by rw [ek]; exact v17) (GT_int hp'.2.1)) (fun y _ hy => ok_some.mpr (RES_rsw hy hw hT i.2.1)))
  · have := of_decide_eq_false z0
    have := of_decide_eq_false z1
    have := of_decide_eq_false z2
    have := of_decide_eq_false z3
    have := of_decide_eq_false z4
    have := of_decide_eq_false z5
    have := of_decide_eq_false z6
    have := of_decide_eq_false z7
    have := of_decide_eq_false z8
    have := of_decide_eq_false z9
    have := of_decide_eq_false z10
    have := of_decide_eq_false z11
    have := of_decide_eq_false z12
    have := of_decide_eq_false z13
    have := of_decide_eq_false z14
    have := of_decide_eq_false z15
    have := of_decide_eq_false z16
    have := of_decide_eq_false z17
    omega
end
