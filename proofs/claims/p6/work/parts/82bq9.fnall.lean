set_option maxRecDepth 100000
section
variable {α : Type} {m0 w0 m w v u m2 m3 w2 w' mB wB : MS} {K nm Nk W : Nat → Nat} {T p n N q q1 X Y n0 n1 n2 n3 lo lo2 nl π b k d o M D tok f p0 ar bq : Nat} {v1 v2 r : Int32} {a a' a0 : CLT} {l l' : List CLT} {pd : Int32 → Int32 → Nat}
theorem WFE_i {k : Nat} (h : WFE w v) (hk : k ∈ [5, 9, 10, 11, 14, 17, 20, 65, 67, 70, 73, 75, 77, 83]) : v.1 k = w.1 k := h.1 k hk
theorem fn_lp (c : CTZ m0 w0 K T nm Nk) (cA : CTA m0 w0 K T) (c45 : ∀ p, p ≤ T → K p ≠ 45) (cP : CTP N m0 w0 K T pd) (hp0 : K p0 = 2 ∧ p0 < T) (h442 : mB.1 442 = I (f : Nat)) (hf6 : 6 * f ≤ p0) (h70 : wB.1 70 = 0) (h73 : wB.1 73 = 0) (h75 : wB.1 75 = I (bq : Nat)) (hbq : bq ≤ 400) (har6 : ar ≤ 6) : ∀ (M' M : Nat) (m w : MS) (p n nl : Nat) (l : List CLT) (a a0 : CLT) (l' : List CLT) (v5 : Int32), v5 ≠ -1 → l ++ [a] = a0 :: l' → a0.2.1 = p0 → a0.2.2.1 = ar → RLP m0 w0 T p m w → p0 + 5 + l.length ≤ p → m.1 306 = I (n : Nat) → n ≤ 2 * p → KPO n0 mB m → PCG mB m → FCL N K nm m n0 nl n l a → FWI m0 w0 wB w f p0 ar (l ++ [a]) → w.2.2.1 51 f = I (l.length : Nat) → PP (FNZ N m0 w0 K T nm pd f p0 n0 mB wB) (hg_Pa_oneFunction N M m (I (p0 : Nat)) (I (a0.1 : Nat)) (I (a.1 : Nat)) (I (l.length : Nat))) (fb_M_function0_205 N (gg_M_function0 N M') w (I (f : Nat)) v5)
  | M', 0, _, _, _, _, _, _, _, _, _, _, _, _, _, _, _, _, _, _, _, _, _, _, _ => pp_nl
  | 0, M + 1, m, w, p, n, nl, l, a, a0, l', v5, _, _, _, _, h, _, _, _, _, _, _, _, _ => by
    unfold fb_M_function0_205
    refine r_ck (fun _ => r_ck (fun _ => r_lt (r_bnd (fun v r _ => ?_))))
    exact pp_nr
  | M' + 1, M + 1, m, w, p, n, nl, l, a, a0, l', v5, hv5, hl, ha, har, h, hp, hn, hn2, ko, pc, hF, hW, h51 => by
    have T4 := c.1.1.1
    have hc := RLP_c c h
    have pT := h.2.2.2.2.1
    have k46 := hc.1.1.k46 hc.2.2
    have f6 : f ≤ 700 := by omega
    show PP _ (hb_Pa_oneFunction_15 N (hg_Pa_oneFunction N M) m (I (p0 : Nat)) (I (a0.1 : Nat)) (I (a.1 : Nat)) (I (l.length : Nat))) _
    unfold hb_Pa_oneFunction_15 fb_M_function0_205
    rw [show decide ((4000 : Int32) ≤ I (l.length : Nat)) = false from decide_eq_false (fun z => absurd ((I_le (x := (4000 : Int)) (y := (l.length : Nat)) (by omega) (by omega) (by omega) (by omega)).mp z) (by omega)), br_fq, look_e hc (c45 _ pT), bTm_l, I_dn (a := K p) (b := 27) (s := 27) (by omega) (by decide) rfl, tnI (n := f) rfl (by omega), h51, i_suc]
    refine r_ck (fun _ => r_ck (fun _ => r_lt ?_))
    generalize hx1 : upA w 51 (upd (w.2.2.1 51) f (I ((l.length + 1 : Nat) : Int))) = x1
    have xi : x1.1 = w.1 := by rw [← hx1]; rfl
    have xr : ∀ k, k ≠ 51 → x1.2.2.1 k = w.2.2.1 k := fun k hk => by rw [← hx1, upA_no hk]
    have x51 : x1.2.2.1 51 f = I ((l.length + 1 : Nat) : Int) := by rw [← hx1, upA_at, upd_at]
    have x51j : ∀ j, j < f → x1.2.2.1 51 j = w.2.2.1 51 j := fun j hj => by rw [← hx1, upA_at, upd_no (by omega)]
    clear hx1
    have h1 : RLP m0 w0 T p m x1 := ⟨h.1, Kt_tr h.2.1 ⟨fun k _ => by rw [xi], fun k hk => xr k (by rintro rfl; revert hk; decide)⟩, h.2.2.1, by rw [xi]; exact h.2.2.2.1, pT, by rw [xi]; exact h.2.2.2.2.2.1, by rw [xi]; exact h.2.2.2.2.2.2⟩
    have hw := RLP_w c h1
    have h0 := h1.2.2.2.2.2.2
    have hW1 : FWI m0 w0 wB x1 f p0 ar (l ++ [a]) := by
      obtain ⟨a1, a2, a3, a4, a5, a6, a7⟩ := hW
      refine ⟨fun k hk => by rw [xi]; exact a1 k hk, by rw [xi]; exact a2, by rw [xi]; exact a3, CSZ_r a4 (by rw [xi]) (fun k _ _ => xr k (by omega)), by rw [xi]; exact a5, by rw [xr 47 (by decide), xr 48 (by decide), xr 49 (by decide)]; exact a6, fun k k1 k2 j hj => ?_⟩
      by_cases e : k = 51
      · subst e; rw [x51j j hj]; exact a7 51 k1 k2 j hj
      · rw [xr k e]; exact a7 k k1 k2 j hj
    rw [tkS_e (k := 27) (s := 7) hw h0 (by decide) rfl]
    by_cases k27 : K p = 27
    · have pl : p < T := TWK_lt c pT (by omega) (by omega)
      rw [decide_eq_true k27, br_tq, if_pos k27, bnd_s, hc.2.1, i_suc]
      refine l_lt ?_
      show PP _ (bTm (hm_Pa_clause N (advc m p)) _) (fb_M_function0_36 N (gg_M_function0 N M') (adv x1 p) (I (f : Nat)) v5 1)
      have h2 := RLP_ad h1 pl
      have hc2 := RLP_c c h2
      have hw2 := RLP_w c h2
      have h02 := h2.2.2.2.2.2.2
      have aI : ∀ k, k ≠ 69 → (adv x1 p).1 k = x1.1 k := fun k hk => by unfold adv; rw [upI_ne hk]
      have hW2 : FWI m0 w0 wB (adv x1 p) f p0 ar (l ++ [a]) := by
        obtain ⟨a1, a2, a3, a4, a5, a6, a7⟩ := hW1
        exact ⟨fun k hk => by rw [aI k (by rintro rfl; revert hk; decide)]; exact a1 k hk, by rw [aI 66 (by decide)]; exact a2, by rw [aI 72 (by decide)]; exact a3, CSZ_r a4 (aI 32 (by decide)) (fun k _ _ => rfl), by rw [aI 52 (by decide)]; exact a5, a6, a7⟩
      have y51 : (adv x1 p).2.2.1 51 f = I ((l.length + 1 : Nat) : Int) := x51
      generalize adv x1 p = y at h2 hw2 h02 hW2 y51 ⊢
      by_cases k2 : K (p + 1) = 2
      · have pl1 : p + 1 < T := TWK_lt c pl (by omega) (by omega)
        refine f36_pp hw2 h02 k2 (fun w' hR => ?_)
        have n306 : (advc m p).1 306 = I (n : Nat) := by unfold advc; rw [upI_ne (by decide)]; exact hn
        refine pp_bTn (fcl_pp (N := N) (n := n) c cA c45 h2 k2 n306 (by omega) (CSZ_nd hW2.2.2.2.1) (by rw [hW2.1 70 (by decide)]; exact h70) (by rw [hW2.1 73 (by decide)]; exact h73) hR.1 hR.2.1 hR.2.2.1 hR.2.2.2.1 hR.2.2.2.2.1 hR.2.2.2.2.2.1 hR.2.2.2.2.2.2) (fun m2 ρ w2 rr q => ?_) (fun m2 kk w2 rr q => f36_f q)
        obtain ⟨p4, n5, a', q1, q2, ⟨q3, q4, q5, q6, q7⟩, q8, q9, q10, q11, q12, q13, q14, q15, q16, q17, q18, q19⟩ := q
        have ba := CLOb_b hF.2.1
        rw [q1, chn_e ba.2.2, bnd_s]
        generalize hm3 : upA m2 21 (upd (m2.2.2.1 21) a.1 (I (a'.1 : Nat))) = m3
        have e1 : ∀ j, nod m3 j = nod m2 j := fun j => by rw [← hm3]; rfl
        have e2 : ∀ j, j ≠ a.1 → m3.2.2.1 21 j = m2.2.2.1 21 j := fun j hj => by rw [← hm3, upA_at, upd_no hj]
        have e3 : m3.2.2.1 21 a.1 = I (a'.1 : Nat) := by rw [← hm3, upA_at, upd_at]
        have p3 : PCG m2 m3 := by rw [← hm3]; exact PCG_A PCG_rf (by decide)
        have i3 : m3.1 = m2.1 := by rw [← hm3]; rfl
        clear hm3
        have pcm : PCG m m2 := PCG_tr (PCG_I PCG_rf (Or.inr (Or.inr rfl))) q9
        have hF2 := FCL_s (m := m) (m2 := m2) (m3 := m3) hF q8 (Kc_tr (PCG_k pcm) (PCG_k p3)) q10 q11 q7 e1 e2 e3 (PCG_k p3)
        have b1 := CLOb_b hF2.2.1
        have ln1 : (l ++ [a]).length = l.length + 1 := by simp
        have ko3 : KPO n0 mB m3 := fun j hj => by
          have g0 := ko j hj
          have g1 := q8 j (by have := hF.2.2.1; omega)
          have g2 := e2 j (by have := hF.2.2.1; omega)
          exact ⟨(e1 j).trans (g1.1.trans g0.1), g2.trans (g1.2.trans g0.2)⟩
        have t7 : ∀ j, w2.2.2.1 7 j = w0.2.2.1 7 j := fun j => congrFun (q3.2.1.2 7 (by decide)) j
        have w41 : w2.2.2.1 41 rr.toNatClampNeg = I (a'.2.2.1 : Nat) := (q16 ⟨bq, by rw [hR.1 75 (by decide) (by decide), hW2.1 75 (by decide)]; exact h75, hbq⟩).1
        have w47 : w2.2.2.1 47 f = w0.2.2.1 7 p0 := by rw [q17.2 47 (by decide) (by decide), hR.2.1 47 (by decide) (by decide) (by decide)]; exact hW2.2.2.2.2.2.1.1
        have w48 : w2.2.2.1 48 f = I (ar : Nat) := by rw [q17.2 48 (by decide) (by decide), hR.2.1 48 (by decide) (by decide) (by decide)]; exact hW2.2.2.2.2.2.1.2.1
        have a6 : a'.2.2.1 ≤ 6 := by
          obtain ⟨mi, li, ni, q0, q1, q4, sc1, e5, X1, X2, W, R1, R2, Z1, Z2, C1, C2, lp, a1, a2, a3, a4, a5, a6, a7, a8, a9⟩ := q10
          exact a7.2.2.2.2
        have nmE : NMt m0 p0 ar a' ↔ w0.2.2.1 7 (p + 1) = w0.2.2.1 7 p0 ∧ I (a'.2.2.1 : Nat) = I (ar : Nat) := by
          unfold NMt
          rw [q2, cA (p + 1) pl1 (Or.inr k2), cA p0 hp0.2 (Or.inr hp0.1), I_eq (by omega) (by omega) (by omega) (by omega)]
          exact ⟨fun z => ⟨z.1, by rw [z.2]⟩, fun z => ⟨z.1, by have := z.2; omega⟩⟩
        have go : ∀ x : MS, (∀ k, k ≠ 71 → k ≠ 72 → x.1 k = w2.1 k) → (∀ k, k ≠ 45 → x.2.2.1 k = w2.2.2.1 k) → ((x.1 72 = w2.1 72 ∧ NMt m0 p0 ar a') ∨ (x.1 72 ≠ 0 ∧ ¬ NMt m0 p0 ar a')) → PP (FNZ N m0 w0 K T nm pd f p0 n0 mB wB) (hg_Pa_oneFunction N M m3 (I (p0 : Nat)) (I (a0.1 : Nat)) (I (a'.1 : Nat)) (I ((l.length + 1 : Nat) : Int))) (fb_M_function0_205 N (gg_M_function0 N M') x (I (f : Nat)) rr) := fun x x1 x2 x3 => by
          have hW3 := FWI_s (bq := bq) cA hW2 hR q12 q13 q14 q15 q17 x1 x2 x3
          rw [← ln1]
          refine fn_lp c cA c45 cP hp0 h442 hf6 h70 h73 h75 hbq har6 M' M m3 x p4 n5 n (l ++ [a]) a' a0 (l' ++ [a']) rr q19 (by rw [hl]; rfl) ha har ⟨Kc_tr q3.1 (PCG_k p3), Kt_tr q3.2.1 ⟨fun k hk => x1 k (by rintro rfl; revert hk; decide) (by rintro rfl; revert hk; decide), fun k hk => x2 k (by rintro rfl; revert hk; decide)⟩, by rw [i3]; exact q3.2.2.1, by rw [x1 69 (by decide) (by decide)]; exact q3.2.2.2.1, q3.2.2.2.2.1, by rw [i3, x1 70 (by decide) (by decide)]; exact q3.2.2.2.2.2.1, by rw [x1 67 (by decide) (by decide)]; exact q3.2.2.2.2.2.2⟩ (by rw [ln1]; omega) (by rw [i3]; exact q5) q6 ko3 (PCG_tr (PCG_tr pc pcm) p3) hF2 hW3 ?_
          rw [x2 51 (by decide), q17.2 51 (by decide) (by decide), hR.2.1 51 (by decide) (by decide) (by decide), ln1]
          exact y51
        have rul : ∀ x : MS, (∀ k, x.1 k = w2.1 k) → (∀ k, k ≠ 45 → x.2.2.1 k = w2.2.2.1 k) → ¬ NMt m0 p0 ar a' → PP (FNZ N m0 w0 K T nm pd f p0 n0 mB wB) (hg_Pa_oneFunction N M m3 (I (p0 : Nat)) (I (a0.1 : Nat)) (I (a'.1 : Nat)) (I ((l.length + 1 : Nat) : Int))) (fb_M_function0_198 N (gg_M_function0 N M') x (I (f : Nat)) (I ((p + 1 : Nat) : Int)) rr) := fun x x1 x2 x3 => by
          unfold fb_M_function0_198
          refine r_bnd (pk_mo (rule_p (by decide)) (fun v _ hv => ?_))
          exact go v (fun k k1 k2 => (hv.2.1 k k1 k2).trans (x1 k)) (fun k k1 => by rw [hv.2.2]; exact x2 k k1) (Or.inr ⟨hv.1, x3⟩)
        unfold f36r
        rw [decide_eq_false hv5, br_fq, tnI (n := f) rfl (by omega), tnI (n := p + 1) rfl (by omega)]
        refine r_ck (fun _ => r_lt ?_)
        generalize hx : upA w2 45 (upd (w2.2.2.1 45) v5.toNatClampNeg rr) = x
        have xi2 : ∀ k, x.1 k = w2.1 k := fun k => by rw [← hx]; rfl
        have xr2 : ∀ k, k ≠ 45 → x.2.2.1 k = w2.2.2.1 k := fun k hk => by rw [← hx, upA_no hk]
        clear hx
        rw [xr2 7 (by decide), xr2 47 (by decide), t7, w47, xr2 41 (by decide), xr2 48 (by decide), w41, w48]
        refine r_ck (fun _ => r_ck (fun _ => r_br (fun z1 => r_ck (fun _ => r_ck (fun _ => r_br (fun z2 => ?_) (fun z2 => ?_)))) (fun z1 => ?_)))
        · exact go x (fun k _ _ => xi2 k) xr2 (Or.inl ⟨xi2 72, nmE.mpr ⟨of_decide_eq_true z1, of_decide_eq_true z2⟩⟩)
        · exact rul x xi2 xr2 (fun z => (of_decide_eq_false z2) (nmE.mp z).2)
        · exact rul x xi2 xr2 (fun z => (of_decide_eq_false z1) (nmE.mp z).1)
      · refine pp_rf (RFS_T ?_) (fun mm => f36_x hw2 h02 k2)
        show RFS (hb_Pa_clause_0 N () (advc m p))
        unfold hb_Pa_clause_0
        exact RFS_T (need_x (s := 2) hc2 k2 (by decide) rfl)
    · rw [decide_eq_false k27, br_fq, if_neg k27, bnd_s]
      show PP _ _ (fb_M_function0_36 N (gg_M_function0 N M') x1 (I (f : Nat)) v5 0)
      unfold fb_M_function0_36
      rw [show decide ((0 : Int32) = 0) = true from rfl, br_tq]
      exact fn_end c cA cP hp0 h442 hf6 hl ha har har6 h1 (by omega) hn hn2 ko pc hF hW1 x51
theorem fn_pp (c : CTZ m0 w0 K T nm Nk) (cA : CTA m0 w0 K T) (c45 : ∀ p, p ≤ T → K p ≠ 45) (cP : CTP N m0 w0 K T pd) (h : RLP m0 w0 T p m w) (hn : m.1 306 = I (n : Nat)) (hn2 : n ≤ 2 * p) (nd : ND w) (h442 : m.1 442 = I (f : Nat)) (h52 : w.1 52 = I (f : Nat)) (hf6 : 6 * f ≤ p) (h70 : w.1 70 = 0) (h73 : w.1 73 = 0) (h75 : w.1 75 = I (bq : Nat)) (hbq : bq ≤ 400) : PP (FNZ N m0 w0 K T nm pd f p n m w) (hm_Pa_oneFunction N m) (fm_M_function0 N w) := by
  have T4 := c.1.1.1
  have hc := RLP_c c h
  have pT := h.2.2.2.2.1
  have k46 := hc.1.1.k46 hc.2.2
  have f6 : f ≤ 700 := by omega
  show PP _ (hb_Pa_oneFunction_0 N (hg_Pa_oneFunction N N) m) (fb_M_function0_0 N (gg_M_function0 N N) w)
  unfold hb_Pa_oneFunction_0 fb_M_function0_0
  rw [h52, i_suc, tnI (n := f) rfl (by omega), h.2.2.1]
  refine r_lt (r_ck (fun _ => r_lt (r_ck (fun _ => r_lt ?_))))
  generalize hx1 : upA (upA (upI w 52 (I ((f + 1 : Nat) : Int))) 49 (upd ((upI w 52 (I ((f + 1 : Nat) : Int))).2.2.1 49) f ((upI w 52 (I ((f + 1 : Nat) : Int))).1 69))) 51 (upd ((upA (upI w 52 (I ((f + 1 : Nat) : Int))) 49 (upd ((upI w 52 (I ((f + 1 : Nat) : Int))).2.2.1 49) f ((upI w 52 (I ((f + 1 : Nat) : Int))).1 69))).2.2.1 51) f 0) = x1
  have xi : ∀ k, k ≠ 52 → x1.1 k = w.1 k := fun k hk => by
    rw [← hx1]
    show (upI w 52 _).1 k = _
    rw [upI_ne hk]
  have x52 : x1.1 52 = I ((f + 1 : Nat) : Int) := by
    rw [← hx1]
    show (upI w 52 (I ((f + 1 : Nat) : Int))).1 52 = _
    exact upI_at
  have xr : ∀ k, k ≠ 49 → k ≠ 51 → x1.2.2.1 k = w.2.2.1 k := fun k h1 h2 => by
    rw [← hx1, upA_no h2, upA_no h1]
    rfl
  have x49 : x1.2.2.1 49 = upd (w.2.2.1 49) f (I (p : Nat)) := by
    rw [← hx1, upA_no (by decide), upA_at, upI_ne (by decide), h.2.2.2.1]
    rfl
  have x51 : x1.2.2.1 51 = upd (w.2.2.1 51) f 0 := by
    rw [← hx1, upA_at, upA_no (by decide)]
    rfl
  clear hx1
  have h1 : RLP m0 w0 T p m x1 := ⟨h.1, Kt_tr h.2.1 ⟨fun k hk => xi k (by rintro rfl; revert hk; decide), fun k hk => xr k (by rintro rfl; revert hk; decide) (by rintro rfl; revert hk; decide)⟩, h.2.2.1, by rw [xi 69 (by decide)]; exact h.2.2.2.1, pT, by rw [xi 70 (by decide)]; exact h.2.2.2.2.2.1, by rw [xi 67 (by decide)]; exact h.2.2.2.2.2.2⟩
  have hw := RLP_w c h1
  have h0 := h1.2.2.2.2.2.2
  have nd1 : ND x1 := by
    obtain ⟨b, b1, b2⟩ := nd
    exact ⟨b, by rw [xi 32 (by decide)]; exact b1, b2⟩
  by_cases k2 : K p = 2
  · have pl : p < T := TWK_lt c pT (by omega) (by omega)
    have main : ∀ M', PP (FNZ N m0 w0 K T nm pd f p n m w) (bTm (hm_Pa_clause N m) (fun u32 r32 => hg_Pa_oneFunction N N u32 (I (p : Nat)) r32 r32 0)) (fb_M_function0_36 N (gg_M_function0 N M') x1 (I (f : Nat)) (-1) 1) := fun M' => by
      refine f36_pp hw h0 k2 (fun w' hR => ?_)
      refine pp_bTn (fcl_pp (N := N) (n := n) c cA c45 h1 k2 hn hn2 nd1 (by rw [xi 70 (by decide)]; exact h70) (by rw [xi 73 (by decide)]; exact h73) hR.1 hR.2.1 hR.2.2.1 hR.2.2.2.1 hR.2.2.2.2.1 hR.2.2.2.2.2.1 hR.2.2.2.2.2.2) (fun m2 ρ w2 rr q => ?_) (fun m2 kk w2 rr q => f36_f q)
      obtain ⟨p4, n5, a', q1, q2, ⟨q3, q4, q5, q6, q7⟩, q8, q9, q10, q11, q12, q13, q14, q15, q16, q17, q18, q19⟩ := q
      have w41 : w2.2.2.1 41 rr.toNatClampNeg = I (a'.2.2.1 : Nat) := (q16 ⟨bq, by rw [hR.1 75 (by decide) (by decide), xi 75 (by decide)]; exact h75, hbq⟩).1
      have a6 : a'.2.2.1 ≤ 6 := by
        obtain ⟨mi, li, ni, q0, q1, q4, sc1, e5, X1, X2, W, R1, R2, Z1, Z2, C1, C2, lp, a1, a2, a3, a4, a5, a6, a7, a8, a9⟩ := q10
        exact a7.2.2.2.2
      have ba := CLOb_b q10
      unfold f36r
      rw [show decide ((-1 : Int32) = -1) = true from rfl, br_tq, tnI (n := f) rfl (by omega), tnI (n := p) rfl (by omega)]
      refine r_ck (fun _ => r_ck (fun _ => r_lt (r_ck (fun _ => r_ck (fun _ => r_lt (r_ck (fun _ => r_lt ?_)))))))
      generalize hx2 : upA (upA (upA w2 47 (upd (w2.2.2.1 47) f (w2.2.2.1 7 p))) 48 (upd ((upA w2 47 (upd (w2.2.2.1 47) f (w2.2.2.1 7 p))).2.2.1 48) f ((upA w2 47 (upd (w2.2.2.1 47) f (w2.2.2.1 7 p))).2.2.1 41 rr.toNatClampNeg))) 50 (upd ((upA (upA w2 47 (upd (w2.2.2.1 47) f (w2.2.2.1 7 p))) 48 (upd ((upA w2 47 (upd (w2.2.2.1 47) f (w2.2.2.1 7 p))).2.2.1 48) f ((upA w2 47 (upd (w2.2.2.1 47) f (w2.2.2.1 7 p))).2.2.1 41 rr.toNatClampNeg))).2.2.1 50) f rr) = x2
      have yi : x2.1 = w2.1 := by rw [← hx2]; rfl
      have yr : ∀ k, k ≠ 47 → k ≠ 48 → k ≠ 50 → x2.2.2.1 k = w2.2.2.1 k := fun k k1 k2 k3 => by rw [← hx2, upA_no k3, upA_no k2, upA_no k1]
      have y47 : x2.2.2.1 47 = upd (w2.2.2.1 47) f (w2.2.2.1 7 p) := by rw [← hx2, upA_no (by decide), upA_no (by decide), upA_at]
      have y48 : x2.2.2.1 48 = upd (w2.2.2.1 48) f (w2.2.2.1 41 rr.toNatClampNeg) := by rw [← hx2, upA_no (by decide), upA_at, upA_no (by decide), upA_no (by decide)]
      have y50 : ∀ j, j < f → x2.2.2.1 50 j = w2.2.2.1 50 j := fun j hj => by rw [← hx2, upA_at, upd_no (by omega), upA_no (by decide), upA_no (by decide)]
      clear hx2
      have key : FWI m0 w0 w x2 f p a'.2.2.1 [a'] := by
        refine ⟨fun k hk => ?_, ?_, ?_, ?_, ?_, ⟨?_, ?_, ?_⟩, fun k k1 k2 j hj => ?_⟩
        · have n1 : k ≠ 69 ∧ k ≠ 65 ∧ k ≠ 52 := by
            refine ⟨?_, ?_, ?_⟩ <;> (rintro rfl; revert hk; decide)
          rw [yi, q14.1 k (by revert hk; simp only [List.mem_cons, List.not_mem_nil, or_false]; omega), hR.1 k n1.1 n1.2.1, xi k n1.2.2]
        · rw [yi, q12, hR.1 66 (by decide) (by decide), xi 66 (by decide)]
          exact ⟨fun z => ⟨z.1, fun b hb => by rw [List.mem_singleton.mp hb]; exact z.2⟩, fun z => ⟨z.1, z.2 a' List.mem_cons_self⟩⟩
        · rw [yi, q13, hR.1 72 (by decide) (by decide), xi 72 (by decide)]
          exact ⟨fun z => ⟨z.1, fun b hb => by rw [List.mem_singleton.mp hb]; exact ⟨z.2, by unfold NMt; rw [q2]; exact ⟨rfl, rfl⟩⟩⟩, fun z => ⟨z.1, (z.2 a' List.mem_cons_self).1⟩⟩
        · refine CSZ_q (CSZ_l (CSZ_r q15 (by rw [yi]) (fun k _ _ => yr k (by omega) (by omega) (by omega))) (u := w) (by rw [hR.1 32 (by decide) (by decide), xi 32 (by decide)]) (fun k _ _ => by rw [hR.2.1 k (by omega) (by omega) (by omega), xr k (by omega) (by omega)])) (fun x => ?_)
          exact ⟨fun z => ⟨a', List.mem_cons_self, z⟩, fun ⟨b, b1, b2⟩ => by rw [List.mem_singleton.mp b1] at b2; exact b2⟩
        · rw [yi, q17.1, hR.1 52 (by decide) (by decide)]; exact x52
        · rw [y47, upd_at]; exact congrFun (q3.2.1.2 7 (by decide)) p
        · rw [y48, upd_at]; exact w41
        · rw [yr 49 (by decide) (by decide) (by decide), q17.2 49 (by decide) (by decide), hR.2.1 49 (by decide) (by decide) (by decide), x49, upd_at]
        · have hk : k = 47 ∨ k = 48 ∨ k = 49 ∨ k = 50 ∨ k = 51 := by omega
          rcases hk with rfl | rfl | rfl | rfl | rfl
          · rw [y47, upd_no (by omega), q17.2 47 k1 k2, hR.2.1 47 (by decide) (by decide) (by decide), xr 47 (by decide) (by decide)]
          · rw [y48, upd_no (by omega), q17.2 48 k1 k2, hR.2.1 48 (by decide) (by decide) (by decide), xr 48 (by decide) (by decide)]
          · rw [yr 49 (by decide) (by decide) (by decide), q17.2 49 k1 k2, hR.2.1 49 (by decide) (by decide) (by decide), x49, upd_no (by omega)]
          · rw [y50 j hj, q17.2 50 k1 k2, hR.2.1 50 (by decide) (by decide) (by decide), xr 50 (by decide) (by decide)]
          · rw [yr 51 (by decide) (by decide) (by decide), q17.2 51 k1 k2, hR.2.1 51 (by decide) (by decide) (by decide), x51, upd_no (by omega)]
      rw [q1]
      have z51 : x2.2.2.1 51 f = I ((([] : List CLT).length : Nat) : Int) := by
        rw [yr 51 (by decide) (by decide) (by decide), q17.2 51 (by decide) (by decide), hR.2.1 51 (by decide) (by decide) (by decide), x51, upd_at]
        rfl
      refine fn_lp (n0 := n) (mB := m) (wB := w) c cA c45 cP ⟨k2, pl⟩ h442 hf6 h70 h73 h75 hbq a6 M' N m2 x2 p4 n5 n [] a' a' [] rr q19 rfl q2 rfl ⟨q3.1, Kt_tr q3.2.1 ⟨fun k _ => by rw [yi], fun k hk => yr k (by rintro rfl; revert hk; decide) (by rintro rfl; revert hk; decide) (by rintro rfl; revert hk; decide)⟩, q3.2.2.1, by rw [yi]; exact q3.2.2.2.1, q3.2.2.2.2.1, by rw [yi]; exact q3.2.2.2.2.2.1, by rw [yi]; exact q3.2.2.2.2.2.2⟩ (by simpa using q4) q5 q6 q8 q9 ⟨fun b hb => (by cases hb), q10, ⟨Nat.le_refl _, q7⟩, ?_⟩ key z51
      have b15 : 1 ≤ a'.1 ∧ a'.1 ≤ 8015 := by omega
      exact ⟨q11, b15, trivial⟩
    cases N with
    | zero => exact pp_nr
    | succ N => exact main N
  · have : RFS (bTm (hm_Pa_clause N m) (fun u32 r32 => hg_Pa_oneFunction N N u32 (I (p : Nat)) r32 r32 0)) := by
      refine RFS_T ?_
      show RFS (hb_Pa_clause_0 N () m)
      unfold hb_Pa_clause_0
      exact RFS_T (need_x (s := 2) hc k2 (by decide) rfl)
    refine pp_rf this (fun mm => ?_)
    have ff : ∀ M, PK (fun (w2 : MS) (_ : Unit) => FLW w2) ((gg_M_function0 N M).1 x1 (I (f : Nat)) (-1) 1) := fun M => by
      cases M with
      | zero => exact pk_none
      | succ M => exact f36_x hw h0 k2
    exact ff N
end
