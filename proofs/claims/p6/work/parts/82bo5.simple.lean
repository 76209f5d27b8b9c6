set_option maxRecDepth 100000
section
variable {α : Type} {R : MS → α → MS → Int32 → Prop} {A : Option (MS × α)} {m0 w0 m w v u m2 m3 w2 x y z xB xC mF vS : MS} {K nm Nk W W1 W2 WA WB : Nat → Nat} {T p n N q X Y X1 X2 XA n2 n3 lo p2 p4 ν μ a b L L' k d o M D s : Nat} {sc sc1 sc2 sc3 sc4 sc5 t t2 t3 t4 t5 : SCT} {e e2 e3 e4 e5 : List Nat × List Nat × Nat} {gd Rf Rg Zf : Bool} {BC : MS → Prop} {v1 v2 r ξ : Int32} {S : SG_M_behind} {NC : Nat → Prop} {CL CM : Int32 × Int32 × Int32 → Prop}
theorem snd_pp (c : CTZ m0 w0 K T nm Nk) (hB : HBh N m0 w0 K T nm Nk d) (hw : RLP m0 w0 T p m w) (hR : RNs w sc) (hn2 : n ≤ 2 * p) (h70 : w.1 70 = I ((o + 1 : Nat) : Int)) (ho : o + 1 ≤ 25) (hg : decide (w.1 73 = 0) = !gd) (hs : SVG w vS sc.length) (hE : EXZ N m0 w0 K T nm Nk p n gd sc o NC0 m vS m2 (.inl ξ) u r) (uq : u.1 69 = I (q : Nat)) (k36 : K q = 36) (qT : q ≤ T) : PP (EXZ N m0 w0 K T nm Nk p n gd sc o NC1 m w) (hb_Pa_matched_19 N (hrc_Pa_matched N D) () m2 ξ (I (K q : Nat))) (fb_M_simple_39 N (rc_M_behind N d) () u r) := by
  have hl : 1 ≤ sc.length ∧ sc.length ≤ 27 := hR.2.1
  obtain ⟨q', n2, μ, sc2, X, W, Rf, Zf, CL, b1, b2, b3, st, b5, b6, b7, kk, k1, k2, k3, k4, k5⟩ := hE
  have T4 := c.1.1.1
  have qe : q' = q := by
    have := st.1.2.2.2.1.symm.trans uq
    have := (I_eq (x := (q' : Nat)) (y := (q : Nat)) (by omega) (by have := st.1.2.2.2.2.1; omega) (by omega) (by omega)).mp this
    omega
  subst qe
  obtain ⟨i1, i2⟩ := SVG_e hs
  have f7 := st.2.2.2.2.1.2.2.2.2.2.2.1
  have hc := RLP_c c st.1
  have hwp := RLP_w c st.1
  have u67 : u.1 67 = 0 := st.1.2.2.2.2.2.2
  have u70 : u.1 70 = w.1 70 := by rw [f7.1 70 (by decide), i1 70 (by decide) (by decide)]
  have u73 : u.1 73 = w.1 73 := by rw [f7.1 73 (by decide), i1 73 (by decide) (by decide)]
  have ql : q' < T := TWK_lt c qT (by omega) (by omega)
  subst b1
  unfold hb_Pa_matched_19 hb_Pa_matched_41 hb_Pa_matched_69 fb_M_simple_39
  rw [k36, show decide (I ((36 : Nat) : Int) = 30) = false from rfl, br_fq, hc.2.1, i_suc]
  refine l_lt ?_
  rw [br_fq, decide_eq_true u67, br_tq, isS_e (k := 36) (s := 21) hwp (by decide) rfl, bnd_s, if_pos k36, show decide ((1 : Int32) = 0) = false from rfl, br_fq, u73, hg]
  have go : ∀ xC R1, (gd = true → R1 = true) → (gd = false → R1 = Rf) → STQ m0 w0 K T Nk gd m vS p n sc 1 m2 xC q' n2 sc2 X W R1 Zf CL → xC.1 70 = u.1 70 → xC.1 73 = u.1 73 → xC.1 69 = u.1 69 → PP (EXZ N m0 w0 K T nm Nk p n gd sc o NC1 m w) (bTm ((hrc_Pa_matched N D).2.2.2.2.2.2.2.2.2.2.2.2.2.2.1 (advc m2 q') 0) (fun u2 r2 => bnd (hm_Tr_add N u2 21 (I (q' : Nat)) (I (μ : Nat)) r2 0) (fun u3 r3 => some (u3, .inl r3)))) (fb_M_simple_74 N (rc_M_behind N d) () xC (u.1 69)) := fun xC R1 hR1 hR2 sC c70 c73 c69 => by
    have ss := STQ_ad sC ql (by omega)
    have aI : ∀ k, k ≠ 69 → (adv xC q').1 k = xC.1 k := fun k hk => by unfold adv; rw [upI_ne hk]
    unfold fb_M_simple_74
    rw [c69, uq, i_suc]
    refine r_lt ?_
    have sb := ss.2.1
    refine pp_bTn (hB D (advc m2 q') (adv xC q') (q' + 1) n2 _ gd (o + 1) ss.1 ss.2.1.2.1 (by omega) (STQ_rn ss) (STQ_nd ss) (by rw [aI 70 (by decide), c70, u70]; exact h70) (by omega) (by rw [aI 73 (by decide), c73, u73]; exact hg)) (fun m3 v3 u2 r2 hz => ?_) (fun m3 k3 u2 r2 hz => ?_)
    · obtain ⟨p4, n3, xr, sc4, X1, W1, Rf1, Zf1, CL1, d1, d2, d3, st4, d5, d6, d7, d8⟩ := hz
      have nb := st4.2.1
      have := st4.1.2.2.2.2.1
      rw [d1, add_e st4.2.1.2.1 (by omega), bnd_s]
      refine pp_l (pk_bnd (pk_mo (node_s (kd := 11) (N := N) (by decide)) (fun u4 r4 h4 => ?_)))
      refine pk_some ?_
      have s1 := STQ_s (STQ_tr ss st4) h4.1 h4.2.1
      have s2 := STQ_add (a := 21) (b := I (q' : Nat)) (c := I (μ : Nat)) (d := I (xr : Nat)) (f := 0) (STQ_s2 s1 (by omega : 1 + 1 ≤ _))
      have s3 := STQ_fg s2 hs hl.2 hw
      have hn : nod (adN m3 n3 21 (I (q' : Nat)) (I (μ : Nat)) (I (xr : Nat)) 0) (n3 + 1) = (I ((21 : Nat) : Int), I (q' : Nat), I (μ : Nat), I (xr : Nat), 0) := adN_nod.1
      have kc : Kcc m2 m3 := Kc_tr (PCG_k (PCG_I (m := m2) PCG_rf (Or.inr (Or.inr rfl)) : PCG m2 (advc m2 q'))) (PCG_k st4.2.2.2.1)
      have kcF : Kcc m3 (adN m3 n3 21 (I (q' : Nat)) (I (μ : Nat)) (I (xr : Nat)) 0) := PCG_k (PCG_add PCG_rf)
      have sw := st.2.2.2.2.1
      refine ⟨p4, n3 + 1, n3 + 1, sc4, max X X1, mrg (q' + 1) W W1, R1 || Rf1, Zf || Zf1, _, rfl, ⟨by omega, Nat.le_refl _⟩, by omega, s3, adN_nod.2, ?_, PTX_der b7 hn (by omega) (Nat.le_refl _) (by omega) (by decide) (by decide) (by decide) (fun _ z => Or.inl z) (Or.inr (Or.inr k36)), 21, ?_, by decide, fun z => absurd z (by decide), fun _ z => ?_, q', by omega, ?_⟩
      · cases gd with
        | true =>
          rw [hR1 rfl, Bool.true_or]
          exact exn_ng (kd := 21) (by unfold CMK; omega) ⟨by decide, by decide⟩ hn (by omega) (by omega) (Nat.le_refl _) (by omega)
        | false =>
          rw [hR2 rfl]
          refine EXN_bc (fun m => BCo_or) ?_
          exact exn_snd (gd := false) (q := p) (q2 := q') (q3 := q' + 1) (q4 := p4) (sc1 := sc2) (m0 := m2) (l0 := n) (n0 := n2) (m1 := m3) (li := n2) (n1 := n3) hn (by omega) (by omega) (Nat.le_refl _) (by omega) ⟨Nat.le_refl _, by omega, by omega, by omega, Nat.le_refl _⟩ (fun j h1 h2 => absurd h2 (by omega)) (fun j h1 h2 => by rw [show j = q' by omega]; omega) (fun j h1 h2 => absurd h2 (by omega)) (EXN_w (fun j _ h2 => mrg_l (by omega)) b6) (Nat.le_refl _) (KPO_tr st4.2.2.1 adN_o (by omega)) (Kc_tr kc kcF) (by omega) (EXN_w (fun j h1 _ => mrg_r (by omega)) d6) (by omega) adN_o kcF (by omega) BCo_st ⟨sw.2.2.2.1.1, SCX_len sw.2.1, sw.2.2.2.1.2⟩
      · rw [adN_16, upd_at]; rfl
      · by_cases z1 : kk = 1
        · rw [← (k3 z1).2.1, k36]; exact Or.inr (Or.inr rfl)
        · exact Or.inl (k4 z1 z)
      · rw [adN_17, upd_at]
    · have hz : FLW u2 := hz
      refine pk_bnd (pk_mo (node_p (N := N)) (fun u4 r4 h4 => ?_))
      obtain ⟨av, -, -, -, h4, -⟩ := h4
      refine pk_some (fgt_fl ?_)
      show u4.1 67 ≠ 0
      rw [h4 67 (by decide)]
      exact hz
  cases gd with
  | false =>
    show PP _ _ (br true _ _)
    rw [br_tq]
    exact go u Rf (fun z => Bool.noConfusion z) (fun _ => rfl) st rfl rfl rfl
  | true =>
    show PP _ _ (br false _ _)
    rw [br_fq]
    refine r_bnd (pk_mo (rule_p (by decide)) (fun xC _ h => ?_))
    exact go xC true (fun _ => rfl) (fun z => Bool.noConfusion z) (STQ_rule st h.1 h.2.1 h.2.2) (h.2.1 70 (by decide) (by decide)) (h.2.1 73 (by decide) (by decide)) (h.2.1 69 (by decide) (by decide))
theorem s39_fl (h : FLW u) : PK (fun w2 (_ : Int32) => FLW w2) (fb_M_simple_39 N S () u r) := by
  unfold fb_M_simple_39
  rw [decide_eq_false h, br_fq]
  exact pk_some (fgt_fl h)
theorem HSi_s (c : CTZ m0 w0 K T nm Nk) (c45 : ∀ p, p ≤ T → K p ≠ 45) (hW : HWo N m0 w0 K T nm Nk d) (hB : ∀ d', d' ≤ d → HBh N m0 w0 K T nm Nk d') : HSi N m0 w0 K T nm Nk (d + 1) := by
  intro D m w p n sc gd o h hn hn2 hR nd h70 ho hg
  show PP _ _ (fb_M_simple_0 N (rc_M_behind N d) () w)
  have hl : 1 ≤ sc.length ∧ sc.length ≤ 27 := hR.2.1
  unfold fb_M_simple_0
  refine r_bnd (pk_mo (save_p hR) (fun vS _ hs => ?_))
  obtain ⟨i1, i2⟩ := SVG_e hs
  have rS : RNs vS sc := RNs_e hR (i1 65 (by decide) (by decide)) (fun k _ _ => i2 k (by omega) (by omega))
  have nS : ND vS := by
    obtain ⟨a, h1, h2⟩ := nd
    exact ⟨a, by rw [i1 32 (by decide) (by decide)]; exact h1, h2⟩
  have lS : RLP m0 w0 T p m vS := ⟨h.1, Kt_tr h.2.1 ⟨fun k hk => i1 k (by rintro rfl; revert hk; decide) (by rintro rfl; revert hk; decide), fun k hk => i2 k (by rintro rfl; revert hk; decide) (by rintro rfl; revert hk; decide)⟩, h.2.2.1, by rw [i1 69 (by decide) (by decide)]; exact h.2.2.2.1, h.2.2.2.2.1, by rw [i1 70 (by decide) (by decide)]; exact h.2.2.2.2.2.1, by rw [i1 67 (by decide) (by decide)]; exact h.2.2.2.2.2.2⟩
  have w69 : w.1 69 = I (p : Nat) := h.2.2.2.1
  refine pp_bTn (hW D m vS p n sc gd o lS hn hn2 rS nS (by rw [i1 70 (by decide) (by decide)]; exact h70) ho (by rw [i1 73 (by decide) (by decide)]; exact hg)) (fun m2 ξ u r hE => ?_) (fun m2 k u r hE => ?_)
  · cases D with
    | zero => exact pp_nl
    | succ D =>
      show PP _ (hb_Pa_matched_0 N (hrc_Pa_matched N D) () m2 ξ) _
      obtain ⟨q, n2, μ, sc2, X, W, Rf, Zf, CL, b1, b2, b3, st, b5⟩ := id hE
      have hc := RLP_c c st.1
      have hwp := RLP_w c st.1
      have u67 : u.1 67 = 0 := st.1.2.2.2.2.2.2
      have uq := st.1.2.2.2.1
      have qT := st.1.2.2.2.2.1
      have k46 := hc.1.1.k46 hc.2.2
      unfold hb_Pa_matched_0
      rw [look_e hc (c45 _ qT), bTm_l, decide_eq_true u67, br_tq, isS_e (k := 30) (s := 11) hwp (by decide) rfl, bnd_s, I_dn (a := K q) (b := 30) (s := 30) (by omega) (by decide) rfl, I_dn (a := K q) (b := 36) (s := 36) (by omega) (by decide) rfl]
      by_cases z30 : K q = 30
      · rw [decide_eq_true z30, br_tq, if_pos z30, show decide ((1 : Int32) = 0) = false from rfl, br_fq]
        refine pp_map (f := fgt) (fun u r => s97) ?_
        rw [w69]
        cases d with
        | zero => exact pp_nr
        | succ d => exact mat_pp c (hB d (by omega)) h hR hn2 h70 ho hg hs hE uq z30 qT
      · rw [decide_eq_false z30, br_fq, if_neg z30, show decide ((0 : Int32) = 0) = true from rfl, br_tq]
        by_cases z36 : K q = 36
        · rw [decide_eq_true z36, br_tq]
          exact snd_pp c (hB d (Nat.le_refl _)) h hR hn2 h70 ho hg hs hE uq z36 qT
        · rw [decide_eq_false z36, br_fq]
          unfold fb_M_simple_39
          rw [decide_eq_true u67, br_tq, isS_e (k := 36) (s := 21) hwp (by decide) rfl, bnd_s, if_neg z36, show decide ((0 : Int32) = 0) = true from rfl, br_tq, s97]
          exact pp_end (EXZ_fg hE hs hl.2 h)
  · have hE : FLW u := hE
    rw [decide_eq_false hE, br_fq]
    exact s39_fl hE
end
