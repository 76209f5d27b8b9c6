/-! exit, toward a PROCESS: who it is, what is told -/
set_option maxRecDepth 100000
section
variable {N p q W l : Nat} {u w m : MS} {x t : Int64} {Fv : Int64 → Int64 → Prop} {P : Int64 → Prop} {PR : Nat}
theorem tw29 : hm_Ma_toward N u p (I 29) = bnd (hm_Ma_processAt N u p 1) (fun u65 r65 => bnd (hm_Fr_below N u65 p 0) (fun u71 r71 => bnd (hm_Te_size N u71 (pq p 2) r71) (fun u73 r73 => br (decide (r73 ≤ 500)) (br (decide (r65 = none)) (bnd (hm_Ma_wrong N u73 p 11) (fun u61 _ => some (u61, ()))) (hb_Ma_toward_95 N () u73 p (I 29) 2 r65)) (br (decide (r65 = none)) (bnd (hm_Ma_wrong N u73 p 11) (fun u61 _ => some (u61, ()))) (bnd (hm_Ma_wrong N u73 p 11) (fun u61 _ => some (u61, ()))))))) := rfl
theorem prd8 : fm_M_predefinedRun N w (I 8) = bnd (fm_M_processRun N w (I 8)) (fun u6 _ => some (u6, ())) := rfl
theorem prs8 : fm_M_processRun N w (I 8) = bnd (fm_M_top N w 0) (fun u31 r31 => bnd (fm_M_top N u31 1) (fun u30 r30 => fb_M_processRun_45 N () u30 (I 8) r31 r30)) := rfl
theorem prt8 : fb_M_processRun_45 N () w (I 8) x t = bnd (fm_M_sortOf N w t) (fun u28 r28 => br (decide (r28 = 4)) (bnd (fm_M_copySize N u28 (u28.1 133) x) (fun u27 r27 => br (decide (500 < r27)) (bnd (fr_M_error N u27 11) (fun u26 _ => some (u26, ()))) (bnd (fm_M_valueOf N u27 t) (fun u25 r25 => ck (inb (u25.1 133) (ln 92)) (fb_M_processRun_151 N () u25 (I 8) x r25 92 (u25.1 133) (u25.2.2.1 92 (u25.1 133).toNatClampNeg) 2))))) (bnd (fr_M_error N u28 11) (fun u26 _ => some (u26, ())))) := by
  have d1 : decide ((1 : Int32) = 0) = false := rfl
  have d2 : decide ((0 : Int32) = 0) = true := rfl
  have d3 : decide (I 8 = 4) = false := rfl
  have d4 : decide (I 8 = 8) = true := rfl
  have d5 : decide True = true := rfl
  unfold fb_M_processRun_45 fb_M_processRun_61 fb_M_processRun_83 fb_M_processRun_104 fb_M_processRun_108 fb_M_processRun_109
  simp only [d1, d3, d4, d5, br_t, br_f]
theorem pat_41 (be : hm_Fr_below N m p 1 = some (m, t)) (e4 : so t = 4) (hq : va t = ((q : Nat) : Int)) (dwc : DWc Fv P PR m) (hq2 : q < PR) : hm_Ma_processAt N m p 1 = some (m, some q) := by
  unfold hm_Ma_processAt hb_Ma_processAt_0
  rw [be, bnd_so, e_tag, bnd_so, e4, show decide (I 4 = 4) = true from rfl, br_t, valI, hq, find_e dwc hq2, bnd_so]
  rfl
theorem pat_01 (be : hm_Fr_below N m p 1 = some (m, t)) (e4 : so t ≠ 4) : hm_Ma_processAt N m p 1 = some (m, none) := by
  unfold hm_Ma_processAt hb_Ma_processAt_0
  rw [be, bnd_so, e_tag, bnd_so, show decide (I (so t) = 4) = false from by rw [show (4 : Int32) = I 4 from rfl, decE (so_r _).1 (so_r _).2 (by omega) (by omega)]; exact decide_eq_false e4, br_f]
  rfl
end
section
variable {α β : Type} {b : Int → Nat → Nat → Prop} {Fv Fv' : Int64 → Int64 → Prop} {P P' : Int64 → Prop} {N PR p U B W Y l : Nat} {ow kd ow' kd' : Nat → Nat} {m w1 : MS} {Q : MS → α → MS → β → Prop} {K1 : MS → Option (MS × α)} {K2 : MS → Option (MS × β)}
theorem exit_hd (hp1 : p < 24) (dwc : DWc Fv P PR m) (hP4 : so (m.2.2.2 (pq p 35) W) = 4 → 0 ≤ va (m.2.2.2 (pq p 35) W) ∧ va (m.2.2.2 (pq p 35) W) < ((PR : Nat) : Int)) (h133 : F w1 133 = ((p : Nat) : Int)) (hW : W + 2 ≤ 46000) (hl : F m (pq p 45) = ((l : Nat) : Int)) (hl2 : W + 2 ≤ l ∧ l ≤ 1000000) (pl : PLs b p m w1 U B (W + 2) Y) (pt : PTQ m p U ow kd Fv P B (W + 2) Y) (hF : FVc Fv) (xc : CX w1 p (hp w1 p) U ow' kd' Fv' P' (W + 2) B Y) (hN : 6000 ≤ N)
    (kT : ∀ (q : Nat) m2 w2, q < PR → FR [] [] [] [45] m m2 → FR [] [] [] [141] w1 w2 → (so (m.2.2.2 (pq p 35) W) = 4 ∧ va (m.2.2.2 (pq p 35) W) = ((q : Nat) : Int)) → (∃ s : Nat, s ≤ 500 ∧ (∃ f, SZc (m.2.2.2 (pq p 2)) U ow kd Fv P f (m.2.2.2 (pq p 35) (W + 1)) s) ∧ ∃ f, SZ (hp w1 p) U ow' kd' Fv' P' f (w1.2.2.2 91 (46000 * p + (W + 1))) s) → PP Q (bnd (hb_Ma_toward_95 N () m2 p (I 29) 2 (some q)) (fun u _ => K1 u)) (bnd (fb_M_processRun_151 N () w2 (I 8) (w1.2.2.2 91 (46000 * p + (W + 1))) (I ((q : Nat) : Int)) 92 (I ((p : Nat) : Int)) (I ((W + 2 : Nat) : Int)) 2) (fun u _ => K2 u)))
    (kX : ∀ m2 w2, FR [] [] [] [45] m m2 → FR [] [] [] [141] w1 w2 → PP Q (K1 (tld m2 1 (-1) (mk 1 11))) (bnd (fr_M_error N w2 11) (fun u _ => K2 u))) : PP Q (bnd (hm_Ma_toward N m p (I 29)) (fun u _ => K1 u)) (bnd (fm_M_predefinedRun N w1 (I 8)) (fun u _ => K2 u)) := by
  have rt := pl.2.2.1.2.2 W (by omega)
  have tp : TPb b U ow kd P U ow' kd' P' (m.2.2.2 (pq p 35) (W + 1)) (w1.2.2.2 91 (46000 * p + (W + 1))) := ⟨pl.2.2.1.2.2 (W + 1) (by omega), pt.2.2.1.2 (W + 1) (by omega), xc.2.2.2.2.2.2.2.1 (W + 1) (by omega)⟩
  have be0 : hm_Fr_below N m p 0 = some (m, m.2.2.2 (pq p 35) (W + 1)) := by
    have := below_e (N := N) (x := 0) (k := 0) (W := W + 2) (l := l) pl.2.2.1.1 hl hl2.1 hl2.2 rfl (by omega)
    rw [show W + 2 - 1 - 0 = W + 1 by omega] at this
    exact this
  have be1 : hm_Fr_below N m p 1 = some (m, m.2.2.2 (pq p 35) W) := by
    have := below_e (N := N) (x := 1) (k := 1) (W := W + 2) (l := l) pl.2.2.1.1 hl hl2.1 hl2.2 rfl (by omega)
    rw [show W + 2 - 1 - 1 = W by omega] at this
    exact this
  rw [tw29, prd8, prs8]
  refine r_bb (r_bb ?_)
  refine r_bnd (pk_mo (show PK _ (fm_M_top N w1 0) from top_r (N := N) (k := 0) hp1 h133 pl.2.2.1.2.1 (by omega) (by omega)) (fun w4 r e => ?_))
  obtain ⟨rfl, rfl⟩ := e
  rw [show 46000 * p + (W + 2 - 1 - 0) = 46000 * p + (W + 1) by omega]
  refine r_bb ?_
  refine r_bnd (pk_mo (show PK _ (fm_M_top N w4 1) from top_r (N := N) (k := 1) hp1 h133 pl.2.2.1.2.1 (by omega) (by omega)) (fun w5 r e => ?_))
  obtain ⟨rfl, rfl⟩ := e
  rw [show 46000 * p + (W + 2 - 1 - 1) = 46000 * p + W by omega]
  generalize hx : w5.2.2.2 91 (46000 * p + W) = x at rt
  generalize hx1 : w5.2.2.2 91 (46000 * p + (W + 1)) = x1 at tp kT
  generalize ht : m.2.2.2 (pq p 35) W = t at rt be1 hP4 kT
  generalize ht1 : m.2.2.2 (pq p 35) (W + 1) = t1 at tp be0 kT
  rw [prt8, sortOf_e, bnd_so, RTb_so rt, show decide (I (so t) = 4) = decide (so t = 4) from by rw [show (4 : Int32) = I 4 from rfl, decE (so_r _).1 (so_r _).2 (by omega) (by omega)]]
  by_cases e4 : so t = 4
  · have xt := RTb_n rt (by unfold isH; omega)
    obtain ⟨v0, v1⟩ := hP4 e4
    obtain ⟨q, hq⟩ : ∃ q : Nat, va t = ((q : Nat) : Int) := ⟨(va t).toNat, by omega⟩
    rw [pat_41 be1 e4 hq dwc (by omega), bnd_so, be0, bnd_so, decide_eq_true e4, br_t, I_F' h133]
    refine l_bb (r_bb (pp_bb (pp_mo (size_pp (N := N) (v := pq p 2) (h := m.2.2.2 (pq p 2)) (p := p) (by unfold pq; omega) rfl rfl pt.1.2.2 pt.1.2.1 hF xc.2.1 pt.1.2.1 (by omega) pl.1.2.1 tp hN) (fun m3 r w3 r' e => ?_))))
    obtain ⟨⟨fm3, fw3⟩, z, z1, sz, sz', rfl, rfl⟩ := e
    have x33 : F w3 133 = ((p : Nat) : Int) := by rw [FR.F fw3 (by simp)]; exact h133
    have x92 : A w3 92 p = ((W + 2 : Nat) : Int) := by rw [FR.A fw3 (by simp)]; exact pl.2.2.1.2.1
    rw [show (500 : Int32) = I 500 from rfl, decI (by omega) (by omega) (by omega) (by omega), decL (by omega) (by omega) (by split <;> omega) (by split <;> omega)]
    by_cases hz : z ≤ 500
    · rw [if_pos hz, show decide (((z : Nat) : Int) ≤ 500) = true from decide_eq_true (by omega), br_t, show decide ((500 : Int) < ((z : Nat) : Int)) = false from decide_eq_false (by omega), br_f, show decide ((some q : Option Nat) = none) = false from rfl, br_f, valueOf_e, bnd_so, xt, hq, I_F' x33, tnI (n := p) rfl (by omega), I_A' x92]
      simp only [bb_e, bnd_so]
      refine rb_ck (fun _ => ?_)
      exact kT q m3 w3 (by omega) fm3 fw3 ⟨e4, hq⟩ ⟨z, hz, sz, sz'⟩
    · rw [if_neg hz, show decide (((z : Nat) : Int) ≤ 500) = false from decide_eq_false (by omega), br_f, show decide ((500 : Int) < ((501 : Nat) : Int)) = true from rfl, br_t, show decide ((some q : Option Nat) = none) = false from rfl, br_f, wrong_e9, bnd_so, bnd_so]
      simp only [bb_e, bnd_so]
      exact kX m3 w3 fm3 fw3
  · rw [pat_01 be1 e4, bnd_so, be0, bnd_so, decide_eq_false e4, br_f]
    obtain ⟨f9, s9, sz9⟩ := HP_szc pt.1.2.2 tp.2.1
    have s1 := SZ_max pt.1.2.2 sz9
    have hU := pt.1.2.1
    refine l_bb (l_bnd (pk_mo (pk_ok (size_ok (N := N) (b := pq p 2) (by unfold pq; omega) rfl (by omega) hF.1 (by omega) sz9 hN)) (fun m3 r e => ?_)))
    obtain ⟨fm3, rfl⟩ := e
    have all : bnd (br (decide (I ((s9 : Nat) : Int) ≤ 500)) (br (decide ((none : Option Nat) = none)) (bnd (hm_Ma_wrong N m3 p 11) (fun u61 _ => some (u61, ()))) (hb_Ma_toward_95 N () m3 p (I 29) 2 none)) (br (decide ((none : Option Nat) = none)) (bnd (hm_Ma_wrong N m3 p 11) (fun u61 _ => some (u61, ()))) (bnd (hm_Ma_wrong N m3 p 11) (fun u61 _ => some (u61, ()))))) (fun u _ => K1 u) = K1 (tld m3 1 (-1) (mk 1 11)) := by
      rw [show decide ((none : Option Nat) = none) = true from rfl, br_t, br_t, wrong_e9, bnd_so]
      cases decide (I ((s9 : Nat) : Int) ≤ 500) <;> rfl
    rw [all]
    simp only [bb_e, bnd_so]
    exact kX m3 w5 fm3 FR.rf
end
