/-! the loops of settle and of allEnds -/
set_option maxRecDepth 100000
section
variable {Fv Fv' : Int64 → Int64 → Prop} {P P' : Int64 → Prop} {N f PR q r o i j d y : Nat} {m w m1 w1 m2 w2 m3 w3 : MS} {t x : Int64} {wr v4 : Int} {cur : Option Nat} {RR : Nat → MS → MS → Prop} {L L2 : List Int} {T : List Int32}
theorem bb_e {α β γ : Type} {a : Option (MS × α)} {g : MS → α → Option (MS × β)} {K : MS → β → Option (MS × γ)} : bnd (bnd a g) K = bnd a (fun u r => bnd (g u r) K) := by
  cases a with
  | none => rfl
  | some x => rfl
/-- before the next end is told -/
def STq (RR : Nat → MS → MS → Prop) (PR : Nat) (Fv : Int64 → Int64 → Prop) (P : Int64 → Prop) (Fv' : Int64 → Int64 → Prop) (P' : Int64 → Prop) (m w : MS) : Prop := ∃ i j : Nat, WLs RR PR Fv P Fv' P' none i j m w ∧ (F m 956 = ((i : Nat) : Int) ∧ F w 149 = ((j : Nat) : Int)) ∧ CNq P P' m w ∧ WTs PR m w
/-- links are told -/
theorem st_B {M : Nat} (hA : ∀ (M2 : Nat) (m w : MS), STq RR PR Fv P Fv' P' m w → PP (fun m2 (_ : Unit) w2 (_ : Unit) => FQs RR PR Fv P Fv' P' m2 w2) ((hg_Wl_settle N M).1 m) (gg_M_allEnds N M2 w))
    (hB : ∀ (M2 M3 v2 : Nat) (m w : MS), CUs RR PR Fv P Fv' P' i j r wr o x m w → LSm m r L → LSw w r (L.drop v2) → v2 ≤ L.length → WTs PR m w → PP (fun m2 (_ : Unit) w2 (_ : Unit) => FQs RR PR Fv P Fv' P' m2 w2) ((hg_Wl_settle N M).2 m r (I ((v2 : Nat) : Int))) (bnd ((gg_M_end N M3).2.1 w (I ((r : Nat) : Int)) (I wr) (I ((o : Nat) : Int)) x) (fun u _ => gg_M_allEnds N M2 u)))
    (M2 M3 v2 : Nat) (m w : MS) (c : CUs RR PR Fv P Fv' P' i j r wr o x m w) (l1 : LSm m r L) (l2 : LSw w r (L.drop v2)) (hv : v2 ≤ L.length) (hw : WTs PR m w) (hN : 3000000 ≤ N) : PP (fun m2 (_ : Unit) w2 (_ : Unit) => FQs RR PR Fv P Fv' P' m2 w2) ((hg_Wl_settle N (M + 1)).2 m r (I ((v2 : Nat) : Int))) (bnd ((gg_M_end N M3).2.1 w (I ((r : Nat) : Int)) (I wr) (I ((o : Nat) : Int)) x) (fun u _ => gg_M_allEnds N M2 u)) := by
  cases M3 with
  | zero => exact pp_nr
  | succ M3 =>
  show PP _ (hb_Wl_settle_40 N (hg_Wl_settle N M) m r (I ((v2 : Nat) : Int))) (bnd (fb_M_end_129 N (gg_M_end N M3) w (I ((r : Nat) : Int)) (I wr) (I ((o : Nat) : Int)) x) (fun u _ => gg_M_allEnds N M2 u))
  have c0 := c
  obtain ⟨W, ⟨hr, hrd, hr9⟩, rq, ⟨n1, n2⟩, c13, c5, rz, ⟨c956, c149⟩, cn⟩ := c
  obtain ⟨⟨d, cx⟩, ⟨dw, lk, wt⟩, pb⟩ := W.1
  have p24 := dw.1.2
  have hd24 := l1.2.1
  have dl : (L.drop v2).length = L.length - v2 := List.length_drop
  unfold hb_Wl_settle_40 fb_M_end_129
  refine rb_ck (fun _ => ?_)
  rw [tnI (n := r) rfl (by omega), I_A' l2.1, I_F' l1.1, lit0, dl]
  refine rb_le ⟨by omega, by omega⟩ ⟨by decide, by decide⟩ (fun z => ?_) (fun z => ?_)
  · -- no more links
    rw [decI (by omega) (by omega) (by omega) (by omega), decide_eq_true (by omega), br_t, lt_e, wi_e]
    generalize hm1 : wi m (pq r 15) 0 = m1
    have f1 : FR [pq r 15] [] [] [] m m1 := by rw [← hm1]; exact FR.wi FR.rf (by simp)
    have fc : FC r [] [] [] [15] [] [14] [] m m1 := by rw [← hm1]; exact FC.wi_q FC.rf (by omega) (by simp)
    have e15 : F m1 (pq r 15) = 0 := by rw [← hm1, F_wi (by omega) (by omega), if_pos rfl]
    have wq := WQ_lk d hr fc (by omega) (by rw [← hm1]; rfl)
    obtain ⟨W1, pg⟩ := WL_cur (k := 15) W ⟨⟨wq.1, CTX_w cx wq.2.1⟩, ⟨dw, lk, wt⟩, pb⟩ hrd (Or.inr rfl) f1
    have i1 : ∀ e l, l < 100 → (e ≠ r ∨ l ≠ 15) → m1.1 (pq e l) = m.1 (pq e l) := fun e l hl h => f1.1 _ (by
      simp
      intro c
      have := pq_e hl (by omega) c
      omega)
    have cu : CUs RR PR Fv P Fv' P' i j r wr o x m1 w := CUs_gen c0 W1 pg (fun k hk h => i1 r k hk (Or.inr h)) (f1.2.1 _ (by simp)) (fun _ _ => rfl) (fun _ _ _ => rfl) (fun e he => ⟨by show (m1.1 (pq e 9)).toInt = 3; rw [i1 e 9 (by omega) (Or.inr (by omega))]; exact he, f1.2.2.2 _ (by simp)⟩) (fun _ _ _ _ => rfl) (fun _ h => h) (fun _ _ => rfl) (f1.1 956 (by simp [pq_n])) rfl
    have h117 : A w 117 r = 0 := by rw [l2.1, dl]; omega
    refine pp_bb (pp_mo (tell_pp cu e15 h117 (WTs_st hw (f1.1 950 (by simp [pq_n])) (fun k _ => f1.2.2.1 k (by simp)) rfl (fun _ _ => rfl)) hN) (fun m2 _ w2 _ h => ?_))
    obtain ⟨⟨cu2, g15, g117⟩, wt2⟩ := h
    obtain ⟨W2, ⟨k1, k2, k3⟩, rq2, ⟨k4, k5⟩, k6, k7, k8, ⟨k9, k10⟩, k11⟩ := cu2
    unfold hb_Wl_settle_104
    rw [I_F' k9, show I ((i : Nat) : Int) + 1 = I ((i + 1 : Nat) : Int) from addN, wi_e, lt_e]
    have f2 : FR [956] [] [] [] m2 (wi m2 956 ((i + 1 : Nat) : Int)) := FR.wi FR.rf (by simp)
    have fc2 : FC 0 [956] [] [] [] [] [] [] m2 (wi m2 956 ((i + 1 : Nat) : Int)) := FC.wi_g FC.rf (by omega) (by simp)
    have e956 : F (wi m2 956 ((i + 1 : Nat) : Int)) 956 = ((i + 1 : Nat) : Int) := by
      have := W2.1.1.1.1.2.2.2.1.1
      have h24 := cEc_le m2 PR
      obtain ⟨n, q1, -⟩ := W2.2.1
      rw [F_wi (by omega) (by omega), if_pos rfl]
    have d2 := W2.1.1.1
    have s3 : SFs Fv P Fv' P' PR (wi m2 956 ((i + 1 : Nat) : Int)) w2 := by
      obtain ⟨⟨d2, cx2⟩, es2, pb2⟩ := W2.1
      refine ⟨⟨DWc_gl d2 fc2 (by simp) (by simp) (fun h0 => ?_) (by simp) (by rw [fc2.Fg (by omega) (by simp)]; exact d2.1.2.2.1) ?_ (by simp), CTX_fr cx2 (f2.1 22 (by simp)) (f2.2.2.1 3 (by simp))⟩, es2, pb2⟩
      · have := (d2.2 0 h0).1
        unfold SMQ at this ⊢
        rw [fc2.Fq (by omega) (by simp), fc2.Fq (by omega) (by simp), fc2.Fq (by omega) (by simp), fc2.Fq (by omega) (by simp)]
        exact this
      · obtain ⟨n, q1, -⟩ := W2.2.1
        rw [e956, q1]
        omega
    have W3 := WL_done W2 s3 f2 ⟨k2, k3, k8, ⟨k4, k5⟩, k6, k7, g15, g117⟩
    have pg3 : PGs m2 w2 (wi m2 956 ((i + 1 : Nat) : Int)) w2 := PGs_fr f2 (FR.rf (is := []) (ls := []) (as := []) (js := [])) (by simp) (by simp) (by simp) (by simp) (by simp) (by simp)
    exact hA M2 _ w2 ⟨i + 1, j + 1, W3, ⟨e956, k10⟩, CNs_pg k11 pg3.1, WTs_st wt2 (f2.1 950 (by simp)) (fun _ _ => rfl) rfl (fun _ _ => rfl)⟩
  · -- one more
    have hv2 : v2 < L.length := by omega
    have ed : L.drop v2 = L[v2] :: L.drop (v2 + 1) := List.drop_eq_getElem_cons hv2
    obtain ⟨nd, gd⟩ := LS_nd l2 (lk.1 r hr)
    rw [ed] at nd gd l2
    obtain ⟨y0, y1, y2⟩ := gd L[v2] (List.Mem.head _)
    obtain ⟨y, ey⟩ : ∃ y : Nat, L[v2] = ((y : Nat) : Int) := ⟨L[v2].toNat, by omega⟩
    have gl : L[v2]? = some ((y : Nat) : Int) := by rw [List.getElem?_eq_getElem hv2, ey]
    rw [ey] at nd gd l2 y0 y1 y2
    have hy : y < PR := by omega
    have yr : y ≠ r := by omega
    rw [decI (by omega) (by omega) (by omega) (by omega), decide_eq_false (by omega), br_f]
    refine l_ck (fun _ => ?_)
    rw [tnI (n := v2) rfl (by omega), I_A' (l1.2.2 v2 _ gl), findc_at d.1 hy, bnd_so, show decide ((some y : Option Nat) = none) = false from rfl, br_f, bo_s]
    refine rb_ck (fun _ => rb_lt ?_)
    have ix : (24 * I ((r : Nat) : Int)).toNatClampNeg = 24 * r + 0 := by
      rw [show (24 : Int32) = I 24 from rfl, I_mul]
      exact tnI (n := 24 * r + 0) (by omega) (by omega)
    rw [ix, I_A' (l2.2.2 0 _ rfl)]
    obtain ⟨Ly, m1l, w1l⟩ := WL_ls W hy yr
    obtain ⟨ndy, -⟩ := LS_nd w1l (lk.1 y hy)
    have rgr : RG ((r : Nat) : Int) := ⟨by omega, by omega⟩
    have rgy : RG ((y : Nat) : Int) := ⟨by omega, by omega⟩
    -- links go, here
    refine rb_bnd (pk_mo (pk_and (rml_w (N := N) (by omega) rgy l2) (pk_ok (removeLink_ok (N := N) (PR := PR) (p := r) (q := y) (by omega) (by omega) (lk.1 r hr) (by omega)))) (fun w1 _ h1 => ?_))
    obtain ⟨⟨lr1, lf1⟩, rm1, kr1⟩ := h1
    have er : (((y : Nat) : Int) :: L.drop (v2 + 1)).filter (fun z => decide (z ≠ ((y : Nat) : Int))) = L.drop (v2 + 1) := by
      have := flt_mid (x := ((y : Nat) : Int)) (L1 := []) (L2 := L.drop (v2 + 1)) (by simp) (List.nodup_cons.mp nd).1
      exact this
    rw [er] at lr1
    have w1y : LSw w1 y Ly := ⟨by rw [lf1.2.1 y yr]; exact w1l.1, w1l.2.1, fun k z hz => by
      have hk : k < Ly.length := by
        apply Classical.byContradiction
        intro c
        rw [List.getElem?_eq_none (by omega)] at hz
        cases hz
      have := w1l.2.1
      rw [lf1.2.2 _ (by omega)]
      exact w1l.2.2 k z hz⟩
    have lky : LKR w1 PR y := by
      have := lk.1 y hy
      unfold LKR at this ⊢
      have e117 : A w1 117 y = A w 117 y := lf1.2.1 y yr
      have h24 := this.2.1
      have e116 : ∀ k : Nat, (k : Int) < A w 117 y → A w1 116 (24 * y + k) = A w 116 (24 * y + k) := fun k hk => lf1.2.2 _ (by omega)
      rw [e117]
      refine ⟨this.1, this.2.1, fun k hk => by rw [e116 k hk]; exact this.2.2.1 k hk, fun k l hk hl e => ?_⟩
      rw [e116 k hk, e116 l hl] at e
      exact this.2.2.2 k l hk hl e
    refine rb_bnd (pk_mo (pk_and (rml_w (N := N) (by omega) rgr w1y) (pk_ok (removeLink_ok (N := N) (PR := PR) (p := y) (q := r) (by omega) (by omega) lky (by omega)))) (fun w2 _ h2 => ?_))
    obtain ⟨⟨ly2, lf2⟩, rm2, kr2⟩ := h2
    -- there
    refine l_bnd (pk_mo (pk_and (rml_m (N := N) m1l rgr) (pk_ok (removeLinkc_ok (N := N) (x := ((r : Nat) : Int)) d hy rgr (by omega)))) (fun m1 _ h3 => ?_))
    obtain ⟨⟨lm1, fm1⟩, wq, e956, fcm⟩ := h3
    have lm1 : LSm m1 y (Ly.filter (fun z => decide (z ≠ ((r : Nat) : Int)))) := by
      rcases lm1 with h | h
      · exact h
      · exact absurd ndy h
    have fw : FR [] [] [116, 117] [] w w2 := FR.tr lf1.1 lf2.1
    have s2 : SFs Fv P Fv' P' PR m1 w2 := ⟨⟨wq.1, CTX_w cx wq.2.1⟩, ⟨DW_fr dw fw (by simp) (by simp) (by simp) (by simp) (by simp) (by simp) (by simp) (by simp) (by simp) (by simp) (by simp) (by simp) (by simp) (by simp) (by simp) (by simp) (by simp), LK_two p24 hr hy (fun c => yr c.symm) lk rm1 kr1 rm2 kr2, WTQ_fr wt fw (by simp) (by simp) (by simp)⟩, pb⟩
    obtain ⟨W2, pg, lm, lw⟩ := WL_link W s2 hrd hy yr fm1 fw (fun k h1 h2 => by rw [lf2.2.1 k h1, lf1.2.1 k h2]) (fun k h1 h2 => by rw [lf2.2.2 k h1, lf1.2.2 k h2]) lm1 ly2 (fun de => by
      have e0 : Ly = [] := by
        have := de.2.2.2.2.2.2.1
        rw [m1l.1] at this
        exact List.length_eq_zero_iff.mp (by omega)
      rw [e0]
      rfl)
    have wa : ∀ K, K ≠ 116 → K ≠ 117 → w2.2.2.1 K = w.2.2.1 K := fun K h1 h2 => fw.2.2.1 K (by simp; omega)
    have f9 : ∀ e, F m1 (pq e 9) = F m (pq e 9) := fun e => by
      by_cases ce : e = y
      · subst ce
        exact FR.F fm1 (by simp; exact pq_inj (by omega))
      · exact congrArg Int32.toInt (lm e ce 9 (by omega)).1
    have cu2 : CUs RR PR Fv P Fv' P' i j r wr o x m1 w2 := CUs_gen c0 W2 pg (fun k hk _ => (lm r (fun c => yr c.symm) k hk).1) (lm r (fun c => yr c.symm) 16 (by omega)).2.1 (fun K hK => by rw [wa K (by omega) (by omega)]) (fun k _ _ => by rw [wa 131 (by omega) (by omega)]) (fun e he => ⟨by rw [f9]; exact he, fm1.2.2.2 _ (by simp)⟩) (fun e _ k _ => by unfold hp; rw [fw.2.2.2 88 (by simp)]) (fun e he => by show (w2.2.2.1 109 e).toInt = 3; rw [wa 109 (by omega) (by omega)]; exact he) (fun e _ => FR.A fw (by simp)) (fm1.1 956 (by simp [pq_n])) (fw.1 149 (by simp))
    have l1' : LSm m1 r L := LSm_st l1 (lm r (fun c => yr c.symm) 15 (by omega)).1 (lm r (fun c => yr c.symm) 14 (by omega)).2.2.1
    have l2' : LSw w2 r (L.drop (v2 + 1)) := ⟨by rw [lf2.2.1 r (fun c => yr c.symm)]; exact lr1.1, lr1.2.1, fun k z hz => by
      have hk : k < (L.drop (v2 + 1)).length := by
        apply Classical.byContradiction
        intro c
        rw [List.getElem?_eq_none (by omega)] at hz
        cases hz
      have := lr1.2.1
      rw [lf2.2.2 _ (by omega)]
      exact lr1.2.2 k z hz⟩
    have wt2 : WTs PR m1 w2 := WTs_st hw (fm1.1 950 (by simp [pq_n])) (fun k hk => fm1.2.2.1 k (by simp; exact pq_n (by omega))) (fw.1 125 (by simp)) (fun k hk => wa k (by omega) (by omega))
    rw [bb_e]
    refine pp_bb (pp_mo (wl_sig (N := N) W2 hy hr (by rw [f9]; exact hrd) (fun c e => by injection e with e; subst e; rw [f9]; exact hrd) cu2.2.2.1 hN) (fun m3 _ w3 _ h4 => ?_))
    obtain ⟨W3, mv⟩ := h4
    unfold hb_Wl_settle_88
    rw [show I ((v2 : Nat) : Int) + 1 = I ((v2 + 1 : Nat) : Int) from addN]
    have lo1 := mv.2.1 r (by rw [f9]; exact hrd)
    have lo2 := mv.2.2.1 r (Or.inr cu2.2.1.2.2)
    exact hB M2 M3 (v2 + 1) m3 w3 (CUs_mv cu2 W3 mv) (LSm_st l1' (lo1 15 (by omega)).1 (lo1 14 (by omega)).2.2.1) (LSw_st l2' lo2) (by omega) (WTs_st wt2 mv.2.2.2.1.2.1 mv.2.2.2.1.1 mv.2.2.2.2.2.1 mv.2.2.2.2.1)
end
