/-! the order of terms, both sides: the loops -/
set_option maxRecDepth 100000
/-- two terms that go together, each good in its heap -/
def TPb (b : Int → Nat → Nat → Prop) (n : Nat) (ow kd : Nat → Nat) (P : Int64 → Prop) (n' : Nat) (ow' kd' : Nat → Nat) (P' : Int64 → Prop) (t x : Int64) : Prop := RTb b t x ∧ GT n ow kd P t ∧ GT n' ow' kd' P' x
theorem addN {a b : Nat} : I ((a : Nat) : Int) + I ((b : Nat) : Int) = I ((a + b : Nat) : Int) := by rw [I_add]; congr 1
section
variable {b : Int → Nat → Nat → Prop} {h h' : Nat → Int64} {n n' n0 n0' N v p na F0 : Nat} {t t2 x x2 : Int64} {ow kd ow' kd' fa : Nat → Nat} {Fv Fv' : Int64 → Int64 → Prop} {P P' : Int64 → Prop} {m w m0 w0 u : MS}
theorem TPb_part (s : ISb b h n0 h' n0') (g : HPc h n ow kd Fv P) (g' : HP h' n' ow' kd' Fv' P') (z : isH t) (q : TPb b n ow kd P n' ow' kd' P' t x) {j : Nat} (h1 : prt t ≤ j) (h2 : j < blk h t) : TPb b n ow kd P n' ow' kd' P' (h (vn t + j)) (h' (vn x + j)) := by
  obtain ⟨r, g1, g2⟩ := q
  have zx := (RTb_isH r).mpr z
  obtain ⟨⟨e1, -⟩, e2, -⟩ := s.1 t x z r
  exact ⟨e2 j h1 h2, (HP_bkc g z g1).2 j h1 h2, (HP_bk g' zx g2).2 j (by rw [RTb_prt r]; exact h1) (by rw [e1]; exact h2)⟩
theorem ord_pp (hv : v ≠ 45 ∧ v ≠ 46) (hh : m0.2.2.2 v = h) (hh' : hp w0 p = h') (g : HPc h n ow kd Fv P) (hn : n ≤ 512) (hF : FVc Fv) (hP : ∀ t, P t → PT m0 t) (hW : WDc m0 1) (g' : HP h' n' ow' kd' Fv' P') (hn' : n' ≤ 500) (hp1 : p < 25) (hme : F w0 133 = p) (hF' : FVH Fv') (s : ISb b h n0 h' n0') (hA : ATf m0 w0 fa na) (hN : 200000 ≤ N) : ∀ f : Nat,
    (∀ (g0 : Nat) (m w : MS) (T cn : Nat) (c : Nat → Nat), FR [] [] [] [45, 46] m0 m → FR [] [] [] [141] w0 w → (∀ i, i < T → TPb b n ow kd P n' ow' kd' P' (m.2.2.2 45 i) (w.2.2.2 141 (2 * i + 1)) ∧ TPb b n ow kd P n' ow' kd' P' (m.2.2.2 46 i) (w.2.2.2 141 (2 * i)) ∧ SZc h n ow kd Fv P F0 (m.2.2.2 45 i) (c i)) → cn + T + smm c 0 T ≤ 2000 → PP (fun m2 r w2 s => (FR [] [] [] [45, 46] m0 m2 ∧ FR [] [] [] [141] w0 w2) ∧ SGN r s) ((hg_Te_order N f).1 m v (I (T : Nat)) (I (cn : Nat))) ((gg_M_order N g0).1 w (I ((2 * T : Nat) : Int)))) ∧
    (∀ (g0 : Nat) (m w : MS) (T cn r : Nat) (c d : Nat → Nat) (t t2 x x2 : Int64), FR [] [] [] [45, 46] m0 m → FR [] [] [] [141] w0 w → (∀ i, i < T → TPb b n ow kd P n' ow' kd' P' (m.2.2.2 45 i) (w.2.2.2 141 (2 * i + 1)) ∧ TPb b n ow kd P n' ow' kd' P' (m.2.2.2 46 i) (w.2.2.2 141 (2 * i)) ∧ SZc h n ow kd Fv P F0 (m.2.2.2 45 i) (c i)) → isH t → so t2 = so t → blk h t2 = blk h t → TPb b n ow kd P n' ow' kd' P' t x → TPb b n ow kd P n' ow' kd' P' t2 x2 → prt t + r ≤ blk h t → (∀ i, prt t ≤ i → i < prt t + r → SZc h n ow kd Fv P F0 (h (vn t + i)) (d i)) → cn + 1 + T + smm c 0 T + (r + smm d (prt t) r) ≤ 2000 → PP (fun m2 r w2 s => (FR [] [] [] [45, 46] m0 m2 ∧ FR [] [] [] [141] w0 w2) ∧ SGN r s) ((hg_Te_order N f).2 m v (I (T : Nat)) (I (cn : Nat)) (I (va t)) (I (va t2)) (I (prt t : Nat)) (I ((prt t : Nat) + (r : Nat) - 1 : Int))) ((gg_M_order N g0).2 w (I ((2 * T : Nat) : Int)) x x2 (I ((prt t : Nat) + (r : Nat) - 1 : Int)))) ∧
    (∀ (g0 : Nat) (m w : MS) (T cn : Nat) (c : Nat → Nat) (y1 y2 : Int32), FR [] [] [] [45, 46] m0 m → FR [] [] [] [141] w0 w → (∀ i, i < T → TPb b n ow kd P n' ow' kd' P' (m.2.2.2 45 i) (w.2.2.2 141 (2 * i + 1)) ∧ TPb b n ow kd P n' ow' kd' P' (m.2.2.2 46 i) (w.2.2.2 141 (2 * i)) ∧ SZc h n ow kd Fv P F0 (m.2.2.2 45 i) (c i)) → cn + 1 + T + smm c 0 T ≤ 2000 → PP (fun m2 r w2 s => (FR [] [] [] [45, 46] m0 m2 ∧ FR [] [] [] [141] w0 w2) ∧ SGN r s) ((hg_Te_order N f).2 m v (I (T : Nat)) (I (cn : Nat)) y1 y2 (I 0) (I (-1))) ((gg_M_order N g0).1 w (I ((2 * T : Nat) : Int)))) := by
  intro f
  induction f with
  | zero => exact ⟨fun _ _ _ _ _ _ _ _ _ _ => pp_nl, fun _ _ _ _ _ _ _ _ _ _ _ _ _ _ _ _ _ _ _ _ _ _ _ => pp_nl, fun _ _ _ _ _ _ _ _ _ _ _ _ => pp_nl⟩
  | succ f ih =>
    obtain ⟨ih1, ih2, ih3⟩ := ih
    refine ⟨fun g0 m w T cn c f1 f2 hs hc => ?_, fun g0 m w T cn r c d t t2 x x2 f1 f2 hs z e1 e2 q1 q2 hr hd hc => ?_, fun g0 m w T cn c y1 y2 f1 f2 hs hc => ?_⟩
    · cases g0 with
      | zero => exact pp_nr
      | succ g0 =>
        show PP _ (hb_Te_order_21 N (hg_Te_order N f) m v (I (T : Nat)) (I (cn : Nat))) (fb_M_order_17 N (gg_M_order N g0) w (I ((2 * T : Nat) : Int)))
        unfold hb_Te_order_21 hb_Te_order_179 fb_M_order_17 fb_M_order_158
        rw [I_lit (n := 1000000000)]
        refine l_le ⟨by decide, by decide⟩ (rgN (by omega)) (fun z => absurd z (by show ¬ (1000000000 : Int) ≤ _; omega)) (fun _ => ?_)
        rw [lit0, decI (by omega) (by omega) (by omega) (by omega), decI (by omega) (by omega) (by omega) (by omega)]
        cases T with
        | zero =>
          rw [decide_eq_true (by omega), br_t, br_t]
          exact pp_end ⟨⟨f1, f2⟩, Iff.rfl, Iff.rfl⟩
        | succ T =>
          have hlast : smm c 0 (T + 1) = smm c 0 T + c T := by show smm c 0 T + c (0 + T) = _; rw [Nat.zero_add]
          obtain ⟨q1, q2, zx⟩ := hs T (by omega)
          rw [decide_eq_false (by omega), br_f, decide_eq_false (by omega), br_f, m1I, I_add, show ((T + 1 : Nat) : Int) + -1 = ((T : Nat) : Int) by omega, lit1, I_sub, show (2 : Int32) = I 2 from rfl, I_sub, show ((2 * (T + 1) : Nat) : Int) - 1 = ((2 * T + 1 : Nat) : Int) by omega, show ((2 * (T + 1) : Nat) : Int) - 2 = ((2 * T : Nat) : Int) by omega]
          refine l_ck (fun _ => l_ck (fun _ => r_ck (fun _ => r_lt (r_ck (fun _ => r_lt ?_)))))
          rw [tnI (n := T) rfl (by omega), tnI (n := 2 * T + 1) rfl (by omega), tnI (n := 2 * T) rfl (by omega)]
          have hm : m.2.2.2 v = h := by rw [FRj f1 (by simp; omega)]; exact hh
          have hw : hp w p = h' := by rw [← hh']; unfold hp; rw [f2.2.2.2 88 (by decide)]
          have hPm : ∀ t, P t → PT m t := fun t ht => by have := hP t ht; unfold PT at this ⊢; rw [FR.F f1 (by simp)]; exact this
          have pa := oal_pp (N := N) (m := m) (w := w) hm hw g hn hPm g' hn' hp1 (by rw [FR.F f2 (by simp)]; exact hme) hF' s (ATf_fr hA f1 f2) q1.1 q2.1 q1.2.1 q2.2.1 q1.2.2 q2.2.2
          have pb := pk_ok (orderAlone_ok (N := N) (b := v) hm hn g hPm (WDc_fr hW f1 (by simp) (by simp)) q1.2.1 q2.2.1 hN)
          obtain ⟨t, et⟩ : ∃ t, m.2.2.2 45 T = t := ⟨_, rfl⟩
          obtain ⟨t2, et2⟩ : ∃ t, m.2.2.2 46 T = t := ⟨_, rfl⟩
          obtain ⟨x, ex⟩ : ∃ t, w.2.2.2 141 (2 * T + 1) = t := ⟨_, rfl⟩
          obtain ⟨x2, ex2⟩ : ∃ t, w.2.2.2 141 (2 * T) = t := ⟨_, rfl⟩
          rw [et, et2, ex, ex2] at pa
          rw [et, et2] at pb
          rw [et, ex] at q1
          rw [et2, ex2] at q2
          rw [et] at zx
          rw [et, et2, ex, ex2]
          refine pp_bb (pp_mo (pp_pl pa pb) (fun m2 r w2 sr q => ?_))
          obtain ⟨⟨⟨e1, e2⟩, sg⟩, -, hr⟩ := q
          subst e1
          subst e2
          by_cases r0 : r = 0
          · have s0 : sr = 0 := sg.2.mp r0
            rw [decide_eq_true (show r = I 0 from r0), br_t, decide_eq_true (show sr = I 0 from s0), br_t]
            obtain ⟨y1, y2⟩ := hr r0
            refine l_ck (fun _ => l_ck (fun _ => l_ck (fun _ => ?_)))
            rw [et, et2]
            by_cases zt : isH t
            · have zt2 : isH t2 := by unfold isH at zt ⊢; rw [← y1]; exact zt
              have bx := (HP_bkc g zt q1.2.1).1
              have bY := (HP_bkc g zt2 q2.2.1).1
              have hbs := blk_same hF bx bY zt y1 y2
              have xx := (RTb_isH q1.1).mpr zt
              have bX := (HP_bk g' xx q1.2.2).1
              have be := (s.1 t x zt q1.1).1.1
              have hp0 := prt_le (h := h) zt
              have hbl := bx.2.2.2.1
              have hbp := blk_pos (h := h) zt
              rw [cellsAt_h hm hn zt bx, bnd_so]
              refine l_ck (fun _ => ?_)
              rw [et, partsOf_e, bnd_so, I_sub, valI, valI, I_sub, inHeap_e.1 xx, bnd_so, decE (by omega) (by omega) (by omega) (by omega), decide_eq_false (by omega), br_f, I_F' (show F w2 133 = p by rw [FR.F f2 (by simp)]; exact hme), sizeOf_e (n := n') (ow := ow') (kd := kd') (Fv := Fv') hp1 hn' xx (by rw [hw]; exact bX), bnd_so, hw, be, I_neg, I_add, I_sub, show ((2 * (T + 1) : Nat) : Int) + -2 = ((2 * T : Nat) : Int) by omega]
              have hpx : (blk h t : Int) - ((blk h t : Int) - (if so t = 5 then 1 else if so t = 3 then 2 else 0)) = ((prt t : Nat) : Int) := by
                unfold isH at zt
                unfold prt
                split <;> split <;> (try split) <;> (try split) <;> omega
              rw [hpx]
              obtain ⟨F1, d, -, k2, k3⟩ := SZ_blkc zx zt
              cases F0 with
              | zero => exact zx.elim
              | succ F0 =>
                rcases zx with ⟨z1, -⟩ | ⟨-, bb, d, z3, z4⟩
                · exact absurd zt z1
                have := ih2 g0 m2 w2 T cn (blk h t - prt t) c d t t2 x x2 f1 f2 (fun i hi => hs i (by omega)) zt y1.symm hbs.symm q1 q2 (by omega) (fun i a b2 => SZ_monoc (z3 i a (by omega))) (by omega)
                rw [show ((prt t : Nat) : Int) + ((blk h t - prt t : Nat) : Int) - 1 = (blk h t : Int) - 1 by omega] at this
                exact this
            · have xx : ¬ isH x := fun y => zt ((RTb_isH q1.1).mp y)
              rw [cellsAt_n zt, bnd_so]
              refine l_ck (fun _ => ?_)
              have hnp : (if so t = 5 then (1 : Int) else if so t = 3 then 2 else 0) = 0 := by
                unfold isH at zt
                rw [if_neg (by omega), if_neg (by omega)]
              rw [et, lit0, partsOf_e, bnd_so, hnp, I_sub, I_sub, inHeap_e.2 xx, bnd_so, decE (by omega) (by omega) (by omega) (by omega), decide_eq_true rfl, br_t, I_neg, I_add, show ((2 * (T + 1) : Nat) : Int) + -2 = ((2 * T : Nat) : Int) by omega]
              rw [show (0 : Int) - (0 - 0) = 0 from rfl, show (0 : Int) - 1 = -1 from rfl]
              exact ih3 g0 m2 w2 T cn c _ _ f1 f2 (fun i hi => hs i (by omega)) (by omega)
          · have s0 : ¬ sr = 0 := fun y => r0 (sg.2.mpr y)
            rw [decide_eq_false (show ¬ r = I 0 from r0), br_f, decide_eq_false (show ¬ sr = I 0 from s0), br_f]
            exact pp_end ⟨⟨f1, f2⟩, sg⟩
    · cases g0 with
      | zero => exact pp_nr
      | succ g0 =>
        show PP _ (hb_Te_order_121 N (hg_Te_order N f) m v (I (T : Nat)) (I (cn : Nat)) (I (va t)) (I (va t2)) (I (prt t : Nat)) (I ((prt t : Nat) + (r : Nat) - 1 : Int))) (fb_M_order_91 N (gg_M_order N g0) w (I ((2 * T : Nat) : Int)) x x2 (I ((prt t : Nat) + (r : Nat) - 1 : Int)))
        unfold hb_Te_order_121 hb_Te_order_173 fb_M_order_91 fb_M_order_158
        have z2 : isH t2 := by unfold isH; rw [e1]; exact z
        have xx := (RTb_isH q1.1).mpr z
        have xx2 := (RTb_isH q2.1).mpr z2
        have bx := (HP_bkc g z q1.2.1).1
        have bY := (HP_bkc g z2 q2.2.1).1
        have bX := (HP_bk g' xx q1.2.2).1
        have bX2 := (HP_bk g' xx2 q2.2.2).1
        have n1 := bx.2.2.2.1
        have n2 := bY.2.2.2.1
        have n3 := bX.2.2.2.1
        have n4 := bX2.2.2.2.1
        have be := (s.1 t x z q1.1).1.1
        have be2 := (s.1 t2 x2 z2 q2.1).1.1
        have hm : m.2.2.2 v = h := by rw [FRj f1 (by simp; omega)]; exact hh
        have hw : hp w p = h' := by rw [← hh']; unfold hp; rw [f2.2.2.2 88 (by decide)]
        rw [partsFrom_e xx, bnd_so, RTb_prt q1.1, decL (by omega) (by omega) (by omega) (by omega)]
        cases r with
        | zero =>
          rw [decide_eq_true (by omega), br_t, br_t, lit1, I_add, show ((cn : Nat) : Int) + 1 = ((cn + 1 : Nat) : Int) by omega]
          exact ih1 g0 m w T (cn + 1) c f1 f2 hs (by omega)
        | succ r =>
          have hsd : smm d (prt t) (r + 1) = smm d (prt t) r + d (prt t + r) := rfl
          have hme2 : F w 133 = p := by rw [FR.F f2 (by simp)]; exact hme
          have eX : ((prt t : Nat) : Int) + ((r + 1 : Nat) : Int) - 1 = ((prt t + r : Nat) : Int) := by omega
          have dX : I ((prt t + r : Nat) : Int) + -1 = I (((prt t : Nat) : Int) + ((r : Nat) : Int) - 1) := by rw [m1I, I_add]; congr 1
          rw [decide_eq_false (by omega), br_f, br_f, valueOf_e, bnd_so, I_F' hme2, eX, dX, vn_e bX2.1, addN, cell_e hp1 (by omega), bnd_so]
          refine r_ck (fun _ => r_lt ?_)
          rw [tnI (n := 2 * T) rfl (by omega), wj_e (u := w), valueOf_e, bnd_so, show (wj w 141 (2 * T) (hp w p (vn x2 + (prt t + r)))).1 133 = I p from I_F' hme2, vn_e bX.1, addN, cell_e hp1 (by omega), bnd_so, show I ((2 * T : Nat) : Int) + 1 = I ((2 * T + 1 : Nat) : Int) from addN]
          refine r_in (rgN (by omega)) (fun hlim => r_lt ?_)
          have hl3 : (ln 141) = 3000 := rfl
          rw [hl3] at hlim
          rw [tnI (n := 2 * T + 1) rfl (by omega), wj_e, show I ((2 * T : Nat) : Int) + 2 = I ((2 * (T + 1) : Nat) : Int) from addN]
          have ew : hp (wj w 141 (2 * T) (hp w p (vn x2 + (prt t + r)))) p = h' := hw
          rw [ew, hw]
          rw [I_lit (n := 2048)]
          refine l_le ⟨by decide, by decide⟩ (rgN (by omega)) (fun y => absurd y (by show ¬ (2048 : Int) ≤ _; omega)) (fun _ => ?_)
          rw [vn_e bx.1, vn_e bY.1, show I ((vn t : Nat) : Int) + I ((prt t + r : Nat) : Int) = I ((vn t + (prt t + r) : Nat) : Int) from addN, show I ((vn t2 : Nat) : Int) + I ((prt t + r : Nat) : Int) = I ((vn t2 + (prt t + r) : Nat) : Int) from addN]
          refine l_ck (fun _ => l_ck (fun _ => l_lt ?_))
          rw [tnI (n := T) rfl (by omega), tnI (n := vn t + (prt t + r)) rfl (by omega), wj_e, hm]
          refine l_ck (fun _ => l_ck (fun _ => l_lt ?_))
          have hm2 : (wj m 45 T (h (vn t + (prt t + r)))).2.2.2 v = h := by
            rw [show (wj m 45 T (h (vn t + (prt t + r)))).2.2.2 v = m.2.2.2 v from if_neg hv.1]; exact hm
          rw [tnI (n := vn t2 + (prt t + r)) rfl (by omega), wj_e, hm2, show I ((T : Nat) : Int) + 1 = I ((T + 1 : Nat) : Int) from addN, ← vn_e bx.1, ← vn_e bY.1]
          have sz := hd (prt t + r) (by omega) (by omega)
          have tp1 := TPb_part s g g' z q1 (j := prt t + r) (by omega) (by omega)
          have tp2 := TPb_part s g g' z2 q2 (j := prt t + r) (by rw [prt_so e1]; omega) (by rw [e2]; omega)
          refine ih2 g0 (wj (wj m 45 T (h (vn t + (prt t + r)))) 46 T (h (vn t2 + (prt t + r)))) (wj (wj w 141 (2 * T) (h' (vn x2 + (prt t + r)))) 141 (2 * T + 1) (h' (vn x + (prt t + r)))) (T + 1) cn r (fun i => if i = T then d (prt t + r) else c i) d t t2 x x2 (FR.wj (FR.wj f1 (by decide)) (by decide)) (FR.wj (FR.wj f2 (by decide)) (by decide)) (fun i hi => ?_) z e1 e2 q1 q2 (by omega) (fun i a b2 => hd i a (by omega)) (by rw [smm_upd]; omega)
          generalize h (vn t + (prt t + r)) = X at *
          generalize h (vn t2 + (prt t + r)) = X2 at *
          generalize h' (vn x + (prt t + r)) = Z at *
          generalize h' (vn x2 + (prt t + r)) = Z2 at *
          have r45 : (wj (wj m 45 T X) 46 T X2).2.2.2 45 i = if i = T then X else m.2.2.2 45 i := by show (wj m 45 T X).2.2.2 45 i = _; exact wj_row
          have r46 : (wj (wj m 45 T X) 46 T X2).2.2.2 46 i = if i = T then X2 else m.2.2.2 46 i := by rw [wj_row]; rfl
          have w1 : (wj (wj w 141 (2 * T) Z2) 141 (2 * T + 1) Z).2.2.2 141 (2 * i + 1) = if 2 * i + 1 = 2 * T + 1 then Z else if 2 * i + 1 = 2 * T then Z2 else w.2.2.2 141 (2 * i + 1) := by rw [wj_row, wj_row]
          have w2 : (wj (wj w 141 (2 * T) Z2) 141 (2 * T + 1) Z).2.2.2 141 (2 * i) = if 2 * i = 2 * T + 1 then Z else if 2 * i = 2 * T then Z2 else w.2.2.2 141 (2 * i) := by rw [wj_row, wj_row]
          rw [r45, r46, w1, w2]
          by_cases e : i = T
          · subst e
            rw [if_pos rfl, if_pos rfl, if_pos rfl, if_neg (by omega), if_pos rfl, if_pos rfl]
            exact ⟨tp1, tp2, sz⟩
          · rw [if_neg e, if_neg e, if_neg (by omega), if_neg (by omega), if_neg (by omega), if_neg (by omega), if_neg e]
            exact hs i (by omega)
    · show PP _ (hb_Te_order_121 N (hg_Te_order N f) m v (I (T : Nat)) (I (cn : Nat)) y1 y2 (I 0) (I (-1))) _
      unfold hb_Te_order_121 hb_Te_order_173
      rw [decL (by omega) (by omega) (by omega) (by omega), decide_eq_true (by omega), br_t, lit1, I_add, show ((cn : Nat) : Int) + 1 = ((cn + 1 : Nat) : Int) by omega]
      exact ih1 g0 m w T (cn + 1) c f1 f2 hs (by omega)
/-- both orders are of one sign -/
theorem order_pp (hv : v ≠ 45 ∧ v ≠ 46) (hh : m.2.2.2 v = h) (hh' : hp w p = h') (g : HPc h n ow kd Fv P) (hn : n ≤ 500) (hF : FVc Fv) (hP : ∀ t, P t → PT m t) (hW : WDc m 1) (g' : HP h' n' ow' kd' Fv' P') (hn' : n' ≤ 500) (hp1 : p < 25) (hme : F w 133 = p) (hF' : FVH Fv') (s : ISb b h n0 h' n0') (hA : ATf m w fa na) (hN : 200000 ≤ N) (q1 : TPb b n ow kd P n' ow' kd' P' t x) (q2 : TPb b n ow kd P n' ow' kd' P' t2 x2) : PP (fun m2 r w2 s => (FR [] [] [] [45, 46] m m2 ∧ FR [] [] [] [141] w w2) ∧ SGN r s) (hm_Te_order N m v t t2) (fm_M_order N w x x2) := by
  obtain ⟨F0, sz, z⟩ := HP_szc g q1.2.1
  have hs := SZ_1000c g hn z
  unfold hm_Te_order hb_Te_order_0 fm_M_order fb_M_order_0
  refine l_ck (fun _ => l_lt (l_ck (fun _ => l_lt (r_ck (fun _ => r_lt (r_ck (fun _ => r_lt ?_)))))))
  rw [show (0 : Int32).toNatClampNeg = 0 from rfl, show (1 : Int32).toNatClampNeg = 1 from rfl, wj_e, wj_e, wj_e, wj_e]
  refine (ord_pp (N := N) (F0 := F0) (m0 := m) (w0 := w) hv hh hh' g (by omega) hF hP hW g' hn' hp1 hme hF' s hA hN N).1 N (wj (wj m 45 0 t) 46 0 t2) (wj (wj w 141 0 x2) 141 1 x) 1 0 (fun _ => sz) (FR.wj (FR.wj FR.rf (by decide)) (by decide)) (FR.wj (FR.wj FR.rf (by decide)) (by decide)) (fun i hi => ?_) (by show 0 + 1 + (0 + sz) ≤ 2000; omega)
  have e : i = 0 := by omega
  subst e
  rw [wj_row, show (wj (wj m 45 0 t) 46 0 t2).2.2.2 45 = (wj m 45 0 t).2.2.2 45 from rfl, wj_row, if_pos rfl, if_pos rfl, J_wj, if_pos rfl, if_pos rfl, J_wj, if_pos rfl, if_neg (by decide), J_wj, if_pos rfl, if_pos rfl]
  exact ⟨q1, q2, z⟩
end
