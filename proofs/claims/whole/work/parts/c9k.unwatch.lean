/-! what is PREDEFINED: unwatch, watch -/
set_option maxRecDepth 100000
section
variable {N p q : Nat} {u w : MS} {v2 : Int64} {v7 t1 t2 : Int32}
theorem pm5 : hm_Ma_predefined N u p (I 5) = bnd (bnd (hm_Fr_below N u p 0) (fun u11 r11 => bnd (hm_Te_tag N u11 r11) (fun u22 r22 => br (decide (r22 = 2)) (bnd (hm_Wl_removeWatch N u22 (Int32.ofNat p) (r11.toInt32)) (fun u27 _ => bnd (hm_Ma_atom N u27 0) (fun u29 r29 => bnd (hm_Ma_answer N u29 p 1 r29) (fun u30 _ => some (u30, ()))))) (bnd (hm_Ma_wrong N u22 p 11) (fun u31 _ => some (u31, ())))))) (fun u4 _ => hb_Ma_predefined_146 N () u4 p) := rfl
theorem pr5 : fm_M_predefinedRun N w (I 5) = bnd (bnd (fm_M_unwatchRun N w) (fun u32 _ => some (u32, ()))) (fun u9 _ => some (u9, ())) := rfl
theorem unr_e : fm_M_unwatchRun N w = bnd (fm_M_take N w) (fun u5 r5 => bnd (fm_M_sortOf N u5 r5) (fun u6 r6 => br (decide (r6 = 2)) (gg_M_unwatchRun N N u6 r5 0) (bnd (fr_M_error N u6 11) (fun u7 _ => some (u7, ()))))) := rfl
end
section
variable {α β : Type} {b : Int → Nat → Nat → Prop} {Fv Fv' : Int64 → Int64 → Prop} {P P' : Int64 → Prop} {N PR p q i j0 U B W Y l j a n : Nat} {m w w1 m5 wB : MS} {nb : Nat → Nat} {Hs Os : Nat → List Nat} {y : Option (Nat × Nat × Nat)} {Q : MS → α → MS → β → Prop} {K1 : MS → Option (MS × α)} {K2 : MS → Option (MS × β)}
theorem tab_cr (f1 : WFm m m5) (f2 : WFw w wB) (cr : ∃ f, CRs (A m 23) (ROs w) (w.2.2.2 34) f y (a + 2) (n + 1) (Hs j) (Os j)) : ∃ f, CRs (A m5 23) (ROs wB) (wB.2.2.2 34) f y (a + 2) (n + 1) (Hs j) (Os j) := by
  rw [show A m5 23 = A m 23 from by funext k; show (m5.2.2.1 23 k).toInt = _; rw [f1.2.2.1 23 (by simp)]; rfl, ROs_eq (w := w) (fun K h => f2.2.2.1 K (by unfold PRr at h; simp; omega)), f2.2.2.2 34 (by simp)]
  exact cr
/-- no watch any more -/
theorem op_unwatch (hpp : p < PR) (wl : WLs (RRp p) PR Fv P Fv' P' none i j0 m w) (wt : WTs PR m w) (ru : RUs m w p j nb Hs Os y a n) (sc : SCs p m w) (hW : W + 1 ≤ 46000) (hl : F m (pq p 45) = ((l : Nat) : Int)) (hl2 : W + 1 ≤ l ∧ l ≤ 1000000) (pl : PLs b p m w1 U B (W + 1) Y) (g1 : FGw p j w w1) (h98 : A w1 98 (60 * p + j) = ((n + 1 : Nat) : Int)) (cr : ∃ f, CRs (A m 23) (ROs w) (w.2.2.2 34) f y (a + 2) (n + 1) (Hs j) (Os j))
    (c : ∀ mB wB m3 w3, (SFs Fv P Fv' P' PR m3 w3 → WLs (RRp p) PR Fv P Fv' P' none i j0 m3 w3) → WTs PR m3 w3 → PLs b p m3 w3 U B (W + 1) Y → RUs m3 w3 p j nb Hs Os y (a + 2) (n + 1) → WFm m mB → WFw w wB → FGm p mB m3 → FGw p j wB w3 → PP Q (K1 m3) (K2 w3))
    (kX : ∀ w3, PLs b p (wi m (pq p 26) ((W : Nat) : Int)) w3 U B W Y → FGw p j w w3 → (w3.2.2.2 88 = w1.2.2.2 88 ∧ w3.1 140 = w1.1 140) → PP Q (K1 (tld m 1 (-1) (mk 1 11))) (bnd (fr_M_error N w3 11) (fun u _ => K2 u))) : PP Q (bnd (hm_Ma_predefined N m p (I 5)) (fun u _ => K1 u)) (bnd (fm_M_predefinedRun N w1 (I 5)) (fun u _ => K2 u)) := by
  obtain ⟨⟨fa, -⟩, ⟨r2, -⟩, -, ⟨q9, q9w⟩, -, ⟨-, r9, -⟩, r11, -, -⟩ := id ru
  have hj : j < 60 := fa.1.2.2
  have p24 : PR ≤ 24 := wl.1.2.1.1.1.2
  have cb2 : a + 2 + 1 < 24000 := by
    obtain ⟨f9, cr9⟩ := cr
    exact (CR_b cr9).1
  obtain ⟨L, sm, sw, gw⟩ := wt
  have x33 : F w1 133 = ((p : Nat) : Int) := by rw [FR.F g1.1 (by simp)]; exact r11
  have rt := pl.2.2.1.2.2 W (by omega)
  have be : hm_Fr_below N m p 0 = some (m, m.2.2.2 (pq p 35) W) := by
    have := below_e (N := N) (x := 0) (k := 0) (W := W + 1) (l := l) pl.2.2.1.1 hl hl2.1 hl2.2 rfl (by omega)
    rw [show W + 1 - 1 - 0 = W by omega] at this
    exact this
  have pd := PLs_drop (k := 1) (W := W) pl (by omega)
  have g3 : FGw p j w (wa w1 92 p ((W : Nat) : Int)) := FGw.tr g1 FGw.w92
  have x33' : F (wa w1 92 p ((W : Nat) : Int)) 133 = ((p : Nat) : Int) := x33
  have h983 : A (wa w1 92 p ((W : Nat) : Int)) 98 (60 * p + j) = ((n + 1 : Nat) : Int) := by rw [wa_rne (by omega)]; exact h98
  have sw3 : WSw (wa w1 92 p ((W : Nat) : Int)) L := WSw_st sw (g3.1.1 125 (by simp)) (fun k hk => g3.1.2.2.1 k (by simp; omega))
  have tk := take_r (N := N) (W := W) (show p < 24 by omega) x33 pl.2.2.1.2.1 (by omega)
  rw [pm5, pr5, unr_e]
  refine l_bb (r_bb (r_bb (r_bb ?_)))
  refine r_bnd (pk_mo tk (fun w4 r e => ?_))
  obtain ⟨rfl, rfl⟩ := e
  have pdm : ∀ m5, WFm m m5 → PLs b p (wi m5 (pq p 26) ((W : Nat) : Int)) (wa w1 92 p ((W : Nat) : Int)) U B W Y := fun m5 f => PLs_drop (k := 1) (W := W) (PLs_tab pl f) (by omega)
  generalize hw3 : wa w1 92 p ((W : Nat) : Int) = w3 at pd g3 h983 sw3 x33' pdm
  generalize ht : m.2.2.2 (pq p 35) W = t at rt be
  rw [be, bnd_so, e_tag, bnd_so, sortOf_e, bnd_so, RTb_so rt, show decide (I (so t) = 2) = decide (so t = 2) from by rw [show (2 : Int32) = I 2 from rfl, decE (so_r _).1 (so_r _).2 (by omega) (by omega)]]
  by_cases e2 : so t = 2
  · have xt := RTb_n rt (by unfold isH; omega)
    have vr := va_r t
    rw [decide_eq_true e2, br_t, br_t, xt, valI, oI]
    refine lb_bnd (pk_mo (unw_m (N := N) (a := ((p : Nat) : Int)) (c := va t) sm ⟨by omega, by omega⟩ vr) (fun m5 _ h => ?_))
    obtain ⟨sm5, f5⟩ := h
    refine unww_lp (L1 := []) (L2 := L) (w0 := w3) (p := p) (by omega) x33' N w3 FR.rf sw3 (fun wC sC fC => ?_)
    obtain ⟨wB, fB, gB, sB⟩ := tab_sw g3 fC
    rw [show hm_Ma_atom N m5 0 = some (m5, mk 1 0) from rfl, bnd_so, truth1, bnd_so]
    unfold hm_Ma_answer hb_Ma_answer_0
    have pl5 := pdm m5 f5
    have e26 : F m5 (pq p 26) = ((W + 1 : Nat) : Int) := by
      rw [← pl.2.2.1.1]
      exact congrArg Int32.toInt ((tab_n (r := p) f5).1 26 (by omega) (by simp))
    have e45 : F m5 (pq p 45) = ((l : Nat) : Int) := by
      rw [← hl]
      exact congrArg Int32.toInt ((tab_n (r := p) f5).1 45 (by omega) (by simp))
    rw [show (1 : Int32) = I 1 from rfl, drop_e (W := W + 1) (k := 1) (x := 1) e26 rfl (by omega), bnd_so, Nat.add_sub_cancel]
    simp only [bb_e, bnd_so]
    refine pre_pp (l := l) (by omega) (RUs_tab ru f5 fB) (by omega) ⟨by omega, hl2.2⟩ (lit_b (b := b) (v := 1) (Or.inr (Or.inl rfl)) (z := 0) (fun h => by omega) ⟨by omega, by omega⟩) FGm.drop gB (PLs_tabw pl5 fC) (by rw [wi_ne (pq_inj (by omega))]; exact e45) (by rw [FR.A fC (by simp)]; exact h983) (by rw [wi_ne (pq_n (by omega)), FR.F f5 (by simp)]; exact r2) (by omega) (tab_cr f5 fB cr) (fun m8 w8 pl8 ru8 f8 g8 => ?_)
    have gL : ∀ y, y ∈ L.filter (kpW ((p : Nat) : Int) (va t)) → GWs PR y := fun y hy => gw y (List.mem_filter.mp hy).1
    have sB' : WSw wB (L.filter (kpW ((p : Nat) : Int) (va t))) := sB _ (by simpa using sC)
    have b1 : 0 ≤ F m5 950 ∧ F m5 950 ≤ 200 := by
      have := sm5.1
      have := sm5.2.1
      omega
    refine c m5 wB m8 w8 (fun s2 => WL_own (WL_t (WL_tab wl f5 b1 fB sB' gL)) hpp ?_ ?_ s2 (GGm_fg f8) (GGw_fg g8 hj) pl8 (SC_fg (SCs_tab sc f5 fB) f8 g8) ru8) (WTs_st ⟨_, sm5, sB', gL⟩ (f8.1 950 (by simp; unfold pq; omega)) (fun k _ => f8.2.2.1 k (by simp)) (g8.1.1 125 (by simp)) (fun k hk => g8.1.2.2.1 k (by simp; omega))) pl8 ru8 f5 fB f8 g8
    · rw [FR.F f5 (by simp; exact fun c => pq_n (by omega) c.symm), q9]
      omega
    · rw [FR.A fB (by simp), q9w]
      omega
  · rw [decide_eq_false e2, br_f, br_f]
    simp only [bb_e, bnd_so]
    rw [wrong_e9, bnd_so, pre_tl ⟨by omega, by omega⟩ (by omega), bnd_so]
    exact kX w3 pd g3 ⟨by rw [← hw3]; rfl, by rw [← hw3]; rfl⟩
end
