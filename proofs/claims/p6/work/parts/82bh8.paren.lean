set_option maxRecDepth 100000
def PTS (N : Nat) (m0 w0 : MS) (K : Nat → Nat) (T : Nat) (nm Nk : Nat → Nat) (own : Bool) (v1 : Int32) (fc : MS → Option (MS × (Int32 ⊕ Nat))) (fw : MS → Int32 → Option (MS × Int32)) : Prop := ∀ (m w : MS) (p n : Nat) (sc : SCT), RLP m0 w0 T p m w → m.1 306 = I (n : Nat) → n ≤ 2 * p → RNs w sc → PP (PAZ N m0 w0 K T nm Nk p n own sc m w) (fc m) (fw w v1)
section
variable {m0 w0 m w v u u0 mf w2 : MS} {K nm Nk W : Nat → Nat} {T p n N q q2 X n2 p2 ν : Nat} {sc sc2 t : SCT} {e : List Nat × List Nat × Nat} {own : Bool} {S : SG_M_rowPattern} {SC : SF_Pa_matched} {v1 v2 lg r : Int32}
theorem WFP_rn (h : RNs w sc) (h65 : v.1 65 = w.1 65) (hr : v.2.2.1 = w.2.2.1) : RNs v sc := RNs_e h h65 (fun _ _ _ => by rw [hr])
theorem pat_gp (c : CTZ m0 w0 K T nm Nk) (h : RLP m0 w0 T p m w) (hn : m.1 306 = I (n : Nat)) (hn2 : n ≤ 2 * p) (hR : RNs w sc) (hk : K p = 20) (ho : m.1 666 < 25) (hS0 : ∀ (u0 u : MS) a0, Kfc u0 u → KfE u0 (S.1 u a0)) (hS1 : ∀ (u0 u : MS) a0, Kfc u0 u → KfE u0 (S.2 u a0)) (hP : PTS N m0 w0 K T nm Nk own v1 (SC.2.2.2.2.2.2.2.2.2.2.2.2.2.2.2.2.2.1) S.2) : PP (PAZ N m0 w0 K T nm Nk p n own sc m w) (hm_Pa_pattern N SC m) (fm_M_patternAt N S w v1) := by
  have hc := RLP_c c h
  have hw := RLP_w c h
  have t4 := c.1.1.1
  have hl : p < T := TWK_lt c h.2.2.2.2.1 (by omega) (by omega)
  have hb : bPK (K p) = true := by rw [hk]; rfl
  have ho2 : w.1 70 < 25 := by rw [← h.2.2.2.2.2.1]; exact ho
  unfold hm_Pa_pattern fm_M_patternAt
  have hr : fb_M_patternAt_0 N S () w v1 = bnd (S.2 (adv (upI w 70 (w.1 70 + 1)) p) v1) (fun u11 r11 => bnd (fm_M_needSign N u11 1) (fun u12 _ => fb_M_patternAt_388 N S () u12 (r11))) := by
    rw [pAt_e hw h.2.2.2.2.2.2, hb, pAt_101, show decide (b2c true = 0) = false from rfl, br_fq, if_neg (by omega), opn_e ho2, bnd_s]
    have hM1 : WP (upI w 70 (w.1 70 + 1)) K T p := WP_e hw (by rw [upI_ne (by decide)]; exact hw.2.1) hw.2.2 rfl rfl
    have h67 : (upI w 70 (w.1 70 + 1)).1 67 = 0 := by rw [upI_ne (by decide)]; exact h.2.2.2.2.2.2
    unfold pAtB
    obtain ⟨a, b, -⟩ := WP_i hM1
    rw [show ln 6 = 4002 from rfl, a, b, srt_dc hM1 srK_2, srt_dc hM1 srK_4, srt_dc hM1 srK_1, srt_dc hM1 srK_5, tkS_e (k := 20) (s := 0) hM1 h67 (by decide) rfl, if_pos hk, decide_eq_false (show ¬ K p = 3 by omega), decide_eq_false (show ¬ K p = 1 by omega), decide_eq_false (show ¬ K p = 2 by omega), decide_eq_false (show ¬ K p = 4 by omega)]
    rfl
  rw [hr, cPt_e hc (by omega), hb, show b2c true = 1 from rfl, opens_e ho, bTm_l, hk, show decide (I ((20 : Nat) : Int) = 20) = true from rfl, br_tq]
  have o1 : (upI m 666 (m.1 666 + 1)).1 665 = I (p : Nat) := by rw [upI_ne (by decide)]; exact hc.2.1
  refine l_lt ?_
  rw [o1, i_suc, hc.2.1]
  generalize hC : upI (upI m 666 (m.1 666 + 1)) 665 (I ((p + 1 : Nat) : Int)) = C
  generalize hD : adv (upI w 70 (w.1 70 + 1)) p = D
  have Ci : ∀ k, k ≠ 665 → k ≠ 666 → C.1 k = m.1 k := fun k h1 h2 => by rw [← hC, upI_ne h1, upI_ne h2]
  have C6 : C.1 666 = m.1 666 + 1 := by rw [← hC, upI_ne (by decide), upI_at]
  have C5 : C.1 665 = I ((p + 1 : Nat) : Int) := by rw [← hC, upI_at]
  have Cr : C.2.2.1 = m.2.2.1 := by rw [← hC]; rfl
  have Di : ∀ k, k ≠ 69 → k ≠ 70 → D.1 k = w.1 k := fun k h1 h2 => by rw [← hD]; unfold adv; rw [upI_ne h1, upI_ne h2]
  have D6 : D.1 70 = w.1 70 + 1 := by rw [← hD]; unfold adv; rw [upI_ne (by decide), upI_at]
  have D5 : D.1 69 = I ((p + 1 : Nat) : Int) := by rw [← hD]; unfold adv; rw [upI_at]
  have Dr : D.2.2.1 = w.2.2.1 := by rw [← hD]; rfl
  have rl : RLP m0 w0 T (p + 1) C D := ⟨⟨fun k hk => by rw [Ci k (by omega) (by omega)]; exact h.1.1 k hk, fun k hk => by rw [Cr]; exact h.1.2 k hk⟩, ⟨fun k hk => by rw [Di k (fun z => by rw [z] at hk; revert hk; decide) (fun z => by rw [z] at hk; revert hk; decide)]; exact h.2.1.1 k hk, fun k hk => by rw [Dr]; exact h.2.1.2 k hk⟩, C5, D5, hl, by rw [C6, D6, h.2.2.2.2.2.1], by rw [Di 67 (by decide) (by decide)]; exact h.2.2.2.2.2.2⟩
  have rn : RNs D sc := WFP_rn hR (Di 65 (by decide) (by decide)) Dr
  refine pp_bT (pp_mo (hP C D (p + 1) n sc rl (by rw [Ci 306 (by decide) (by decide)]; exact hn) (by omega) rn) (fun m2 z w2 r q => ?_))
  cases z with
  | inr k =>
    have q : FLW w2 := q
    have g : KfE w2 (bnd (fm_M_needSign N w2 1) (fun u12 _ => fb_M_patternAt_388 N S () u12 r)) := Kf_bnd (yf_fm_M_needSign q) (fun _ _ z => yf_fb_M_patternAt_388 z (hS0 w2) (hS1 w2))
    exact Kf_pk g
  | inl ε =>
    obtain ⟨p1, n1, ν1, sc1, X, W, a1, a2, a3, a4, a5, a6, a7, a8, a9, a10, a11, a12, a13, a14⟩ := q
    have c1 := RLP_c c a3
    have w1 := RLP_w c a3
    have p1T := a3.2.2.2.2.1
    show PP _ (bnd (hm_Tr_add N m2 5 (I (p : Nat)) ε 0 0) _) (bnd (fm_M_needSign N w2 1) _)
    rw [add_e a4.2.1 (by omega), bnd_s]
    have Ei : ∀ k, k ≠ 306 → (adN m2 n1 5 (I (p : Nat)) ε 0 0).1 k = m2.1 k := fun k hk => adN_i hk
    have En : (adN m2 n1 5 (I (p : Nat)) ε 0 0).1 306 = I ((n1 + 1 : Nat) : Int) := adN_n
    have Er : ∀ k, k < 16 ∨ 21 < k → (adN m2 n1 5 (I (p : Nat)) ε 0 0).2.2.1 k = m2.2.2.1 k := fun k hk => adN_r hk
    have Eo := adN_o (m := m2) (n := n1) (a := 5) (b := I (p : Nat)) (c := ε) (d := 0) (f := 0)
    have Ex := adN_nod (m := m2) (n := n1) (a := 5) (b := I (p : Nat)) (c := ε) (d := 0) (f := 0)
    generalize hE : adN m2 n1 5 (I (p : Nat)) ε 0 0 = E at Ei En Er Eo Ex
    have cE : CP E K T p1 := ⟨⟨c1.1.1, fun j hj => by rw [Er 6 (by decide)]; exact c1.1.2 j hj⟩, by rw [Ei _ (by decide)]; exact c1.2.1, c1.2.2⟩
    by_cases k21 : K p1 = 21
    · have hl1 : p1 < T := TWK_lt c p1T (by omega) (by omega)
      rw [need_e (s := 21) cE k21 (by decide) rfl, bTm_l, ndS_1 (s := 1) w1 a3.2.2.2.2.2.2 (by decide) rfl k21, bnd_s]
      unfold hb_Pa_pattern_162
      refine l_lt (pp_l ?_)
      unfold fb_M_patternAt_388
      refine pk_lt (pk_some ?_)
      generalize hF : advc E p1 = F2
      have Fi : ∀ k, k ≠ 665 → F2.1 k = E.1 k := fun k hk => by rw [← hF]; unfold advc; exact upI_ne hk
      have F5 : F2.1 665 = I ((p1 + 1 : Nat) : Int) := by rw [← hF]; unfold advc; exact upI_at
      have Fr : F2.2.2.1 = E.2.2.1 := by rw [← hF]; rfl
      generalize hG : adv w2 p1 = G2
      have Gi : ∀ k, k ≠ 69 → G2.1 k = w2.1 k := fun k hk => by rw [← hG]; unfold adv; exact upI_ne hk
      have G5 : G2.1 69 = I ((p1 + 1 : Nat) : Int) := by rw [← hG]; unfold adv; exact upI_at
      have Gr : G2.2.2.1 = w2.2.2.1 := by rw [← hG]; rfl
      have pcf : PCF m (upI F2 666 (F2.1 666 - 1)) := by
        refine ⟨fun k hk => ?_, fun k hk => by show F2.2.2.1 k = _; rw [Fr, Er k hk, a7.2 k hk, Cr]⟩
        have hk2 := hk
        simp only [List.mem_cons, List.not_mem_nil, or_false] at hk2
        by_cases z : k = 666
        · rw [z, upI_at, Fi _ (by decide), Ei _ (by decide), a7.1 666 (by decide), C6, i_ps]
        · rw [upI_ne z, Fi _ (by omega), Ei _ (by omega), a7.1 k hk, Ci k (by omega) z]
      have wfp : WFP w (upI G2 70 (G2.1 70 - 1)) := by
        refine ⟨fun k hk => ?_, fun k hk => by show G2.2.2.1 k = _; rw [Gr, a13.2 k hk, Dr]⟩
        have hk2 := hk
        simp only [List.mem_cons, List.not_mem_nil, or_false] at hk2
        by_cases z : k = 70
        · rw [z, upI_at, Gi _ (by decide), a13.1 70 (by decide), D6, i_ps]
        · rw [upI_ne z, Gi _ (by omega), a13.1 k hk, Di k (by omega) z]
      have g1 : ∀ j, p ≤ j → j < p + 1 → K j ≠ 3 := fun j h1 h2 => by rw [show j = p by omega]; omega
      have g2 : ∀ j, p1 ≤ j → j < p1 + 1 → K j ≠ 3 := fun j h1 h2 => by rw [show j = p1 by omega]; omega
      have ko : KPO n1 m2 (upI F2 666 (F2.1 666 - 1)) := fun j hj => by
        have := Eo j hj
        unfold nod at this ⊢
        show (F2.2.2.1 16 j, F2.2.2.1 17 j, F2.2.2.1 18 j, F2.2.2.1 19 j, F2.2.2.1 20 j) = _ ∧ F2.2.2.1 21 j = _
        rw [Fr]
        exact this
      have kc : Kcc m2 (upI F2 666 (F2.1 666 - 1)) := ⟨fun k hk => by rw [upI_ne (by omega), Fi _ (by omega), Ei _ (by omega)], fun k hk => by show F2.2.2.1 k = _; rw [Fr, Er k (by omega)]⟩
      have nd : nod (upI F2 666 (F2.1 666 - 1)) (n1 + 1) = (5, I (p : Nat), ε, 0, 0) ∧ (upI F2 666 (F2.1 666 - 1)).2.2.1 21 (n1 + 1) = 0 := by
        unfold nod at Ex ⊢
        show (F2.2.2.1 16 (n1 + 1), F2.2.2.1 17 (n1 + 1), F2.2.2.1 18 (n1 + 1), F2.2.2.1 19 (n1 + 1), F2.2.2.1 20 (n1 + 1)) = _ ∧ F2.2.2.1 21 (n1 + 1) = _
        rw [Fr]
        exact Ex
      refine ⟨p1 + 1, n1 + 1, n1 + 1, sc1, X, W, rfl, ⟨by omega, Nat.le_refl _⟩, ⟨Kc_tr h.1 (PCF_k pcf), Kt_tr h.2.1 (WFP_k wfp), by rw [upI_ne (by decide)]; exact F5, by rw [upI_ne (by decide)]; exact G5, hl1, by rw [pcf.1 666 (by decide), wfp.1 70 (by decide)]; exact h.2.2.2.2.2.1, by rw [wfp.1 67 (by decide)]; exact h.2.2.2.2.2.2⟩, ⟨by omega, by rw [upI_ne (by decide), Fi _ (by decide)]; exact En, by omega⟩, ?_, nd.2, pcf, WFP_rn (v := upI G2 70 (G2.1 70 - 1)) a8 (by rw [upI_ne (by decide), Gi _ (by decide)]) Gr, a9, HDs_ext (by omega) (by omega) g1 g2 a10, ⟨by omega, a11.2⟩, ?_, wfp, ?_⟩
      · refine KPO_tr (k := n1) ?_ ko (by omega)
        intro j hj
        have := a5 j hj
        unfold nod at this ⊢
        rw [Cr] at this
        exact this
      · rw [upI_ne (by decide), Gi _ (by decide), a12, Di 66 (by decide) (by decide)]
      · rw [a1] at nd
        refine ptn_grp (μ := ν1) (q := p + 1) (q2 := p1) (X := X) nd.1 (by omega) (Nat.le_refl _) (by omega) (by omega) ⟨by omega, by omega, by omega⟩ g1 g2 (fun {m3} kx d cm => a14 d m3 cm (KPX_d ko kc kx (by omega) (by omega) (Nat.le_refl _)))
    · refine pp_rf (RFS_T (need_x (s := 21) cE k21 (by decide) rfl)) (fun mm => ?_)
      refine pk_bnd (pk_mo (ndS_0 (N := N) (s := 1) w1 a3.2.2.2.2.2.2 (by decide) rfl k21) (fun v r2 z => ?_))
      exact Kf_pk (yf_fb_M_patternAt_388 (u0 := v) z (hS0 v) (hS1 v))
end
