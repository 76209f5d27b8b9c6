set_option maxRecDepth 100000
section
variable {m0 w0 m w v u mB wB m2 w2 m3 w3 : MS} {K nm Nk W : Nat → Nat} {T p n N q X n2 p0 n0 n3 p2 ν o s L d D k q1 : Nat} {sc sc1 sc2 sc3 t : SCT} {gd Rf Zf : Bool} {l : List Nat} {r v1 v2 v3 v4 v5 : Int32} {CL CM : Int32 × Int32 × Int32 → Prop} {NC : Nat → Prop}
theorem I_n0 {a : Nat} (h : 1 ≤ a) (h2 : a ≤ 8015) : decide (I (a : Nat) = 0) = false := decide_eq_false (fun z => by
  have z : I (a : Nat) = I ((0 : Nat) : Int) := z
  have := (I_eq (x := (a : Nat)) (y := ((0 : Nat) : Int)) (by omega) (by omega) (by omega) (by omega)).mp z
  omega)
theorem lst_ex (c : CTZ m0 w0 K T nm Nk) (c45 : ∀ p, p ≤ T → K p ≠ 45) (hE : HE N m0 w0 K T nm Nk d) (h : RLP m0 w0 T p m w) (hn : m.1 306 = I (n : Nat)) (hn2 : n ≤ 2 * p) (hR : RNs w sc) (nd : ND w) (h70 : w.1 70 = I ((o + 1 : Nat) : Int)) (ho : o + 1 ≤ 25) (hg : decide (w.1 73 = 0) = !gd) (hk : K p = 24) : PP (EXZ N m0 w0 K T nm Nk p n gd sc o NC m w) (hm_Pa_list N (hrc_Pa_matched N D) m 0) (fm_M_row N (rc_M_behind N d) w (I (p : Nat))) := by
  have hc := RLP_c c h
  have hw := RLP_w c h
  have t4 := c.1.1.1
  have hl : p < T := TWK_lt c h.2.2.2.2.1 (by omega) (by omega)
  have h0 := h.2.2.2.2.2.2
  have st : STQ m0 w0 K T Nk gd m w p n sc 2 (advc m p) (adv w p) (p + 1) n sc 0 (fun _ => 32) false false (fun _ => False) := STQ_ad (STQ_0 (Nk := Nk) (K := K) (W := fun _ => 32) (gd := gd) h hn hR nd) hl (by omega)
  have rl := st.1
  have hc1 := RLP_c c rl
  have hw1 := RLP_w c rl
  have k46 := hc1.1.1.k46 hc1.2.2
  have h1 := rl.2.2.2.2.2.2
  have gp : ∀ j, p ≤ j → j < p + 1 → K j ≠ 3 := fun j h1 h2 => by rw [show j = p by omega]; omega
  unfold hm_Pa_list hb_Pa_list_0 fm_M_row fb_M_row_0 fb_M_row_15
  rw [isS_e (k := 22) (s := 2) hw (by decide) rfl, if_neg (by omega), bnd_s, show decide ((0 : Int32) = 0) = true from rfl, br_tq, hc.2.1, hw.2.1, i_suc]
  refine l_lt (r_lt ?_)
  show PP _ (bTm (hm_Pa_look N (advc m p)) _) (br (decide ((adv w p).1 67 = 0)) (bnd (fm_M_isSign N (adv w p) 5) _) _)
  rw [decide_eq_true h1, br_tq, isS_e (k := 25) (s := 5) hw1 (by decide) rfl, bnd_s, look_e hc1 (c45 _ hl), bTm_l, I_dn (a := K (p + 1)) (b := 25) (s := 25) (by omega) (by decide) rfl]
  have fin : ∀ (m2 w2 : MS) (q1 n2 c0 : Nat) (sc2 : SCT) (X : Nat) (W : Nat → Nat) (Rf Zf : Bool) (CL : Int32 × Int32 × Int32 → Prop) (l : List Nat) (G : MS → Int32 → Int32 → Int32 → Int32 → Int32 → Int32 → Option (MS × Int32)) (v4 v5 : Int32), STQ m0 w0 K T Nk gd m w p n sc 2 m2 w2 q1 n2 sc2 X W Rf Zf CL → p + 1 ≤ q1 → (∀ (mf : MS) (r7 : Int32), K q1 = 25 → q1 < T → nod mf (n2 + 1) = (I ((7 : Nat) : Int), I (p : Nat), I ((l.headD 0 : Nat) : Int), r7, I (c0 : Nat)) → KPO n2 m2 mf → Kcc m2 mf → EXN N K nm gd mf n (n2 + 1) (n2 + 1) p (q1 + 1) sc sc2 X W Rf Zf (BCo N CL) ∧ PTX N w0 K T nm Nk mf n (n2 + 1) (n2 + 1) p (q1 + 1) o NC X) → PP (EXZ N m0 w0 K T nm Nk p n gd sc o NC m w) (hb_Pa_list_80 N (hrc_Pa_matched N D) () m2 (I (p : Nat)) (I ((l.headD 0 : Nat) : Int)) (I (c0 : Nat))) (fb_M_row_125 N (rc_M_behind N d) G w2 (I (p : Nat)) 0 5 v4 v5) := fun m2 w2 q1 n2 c0 sc2 X W Rf Zf CL l G v4 v5 s2 hq1 he => by
    have hc2 := RLP_c c s2.1
    have hw2 := RLP_w c s2.1
    have h2 := s2.1.2.2.2.2.2.2
    have nb := s2.2.1
    unfold hb_Pa_list_80
    by_cases k25 : K q1 = 25
    · have hl2 : q1 < T := TWK_lt c s2.1.2.2.2.2.1 (by omega) (by omega)
      rw [need_e (s := 25) hc2 k25 (by decide) rfl, bTm_l]
      refine l_bnd (pk_mo len_s (fun u7 r7 e7 => ?_))
      subst e7
      refine l_bnd ?_
      intro m4 z4 e4
      refine pp_l (pk_mo (r125_p (N := N) (d := d) (G := G) (kc := 25) hw2 h2 (by decide) rfl k25) (fun w3 r3 s3 => ?_))
      exact row_fin (kd := 7) c hn2 (by omega) hl2 (by omega) s2 s3.1 s3.2 (by decide) (by omega) (fun mf hx2 ko kc => he mf r7 k25 hl2 hx2 ko kc) m4 z4 e4
    · refine pp_rf (RFS_T (need_x (s := 25) hc2 k25 (by decide) rfl)) (fun mm => ?_)
      unfold fb_M_row_125 fb_M_row_140
      refine pk_bnd (pk_mo (ndS_0 (N := N) (s := 5) hw2 h2 (by decide) rfl k25) (fun v r2 z => ?_))
      refine Kf_pk (u0 := v) ?_
      have z : Kfc v v := z
      repeat' (first | with_reducible assumption | with_reducible refine Kf_br ?_ ?_ | with_reducible refine Kf_bnd ?_ (fun _ _ _ => ?_) | with_reducible refine Kf_ck ?_ | with_reducible refine Kf_ltm ?_ (fun _ _ => ?_) | with_reducible refine Kf_some ?_ | with_reducible refine Kf_bo (fun _ => ?_) | with_reducible exact yf_fm_M_node (by assumption) | with_reducible exact yf_fm_M_pattern (by assumption) | with_reducible exact yf_fm_M_wrong (by assumption) | with_reducible exact yf_fm_M_rule (by assumption) | with_reducible exact yf_fm_M_isSign (by assumption) | with_reducible exact yf_fm_M_isWord (by assumption) | with_reducible exact yf_fm_M_takeSign (by assumption) | with_reducible exact yf_fm_M_takeWord (by assumption) | with_reducible exact yf_fm_M_needSign (by assumption) | with_reducible exact yf_fm_M_needWord (by assumption) | with_reducible exact yf_fm_M_opens (by assumption) | with_reducible exact yf_fm_M_boundIn (by assumption) | with_reducible exact yf_fr_M_found (by assumption) | with_reducible exact yf_fm_M_bind (by assumption) | with_reducible exact yf_fm_M_isUnderscore (by assumption) | with_reducible exact yf_fm_M_unbind (by assumption) | with_reducible exact yf_fm_M_term (by assumption) | with_reducible exact yf_fm_M_namePattern (by assumption) | with_reducible exact yf_fr_M_patternAt (by assumption) | with_reducible exact yf_fm_M_beginsUnit (by assumption) | with_reducible exact yf_fm_M_save (by assumption) | with_reducible exact yf_fm_M_addRoot (by assumption) | with_reducible exact yf_fm_M_level (by assumption) | with_reducible exact yf_fm_M_reduce (by assumption) | with_reducible exact yf_fm_M_takeBack (by assumption) | with_reducible exact yf_fm_M_forgetSaved (by assumption) | with_reducible exact yf_fr_M_last (by assumption) | with_reducible exact yf_fr_M_clause (by assumption) | with_reducible exact yf_fm_M_predefinedOf (by assumption) | with_reducible exact yf_fm_M_function0 (by assumption) | with_reducible exact yf_fm_M_program (by assumption) | with_reducible exact hF0 _ (by assumption) | with_reducible exact hF1 _ _ (by assumption) | with_reducible exact hF2 _ _ _ (by assumption) | with_reducible exact hF3 _ _ _ (by assumption) | with_reducible exact hF4 _ (by assumption) | with_reducible exact hF5 _ _ (by assumption) | with_reducible exact hF6 _ _ (by assumption) | with_reducible exact hF7 _ _ (by assumption) | with_reducible exact hF8 _ _ (by assumption) | with_reducible exact hF9 _ (by assumption) | with_reducible exact hF10 _ (by assumption) | with_reducible exact hF11 _ (by assumption) | with_reducible exact hF12 _ (by assumption) | with_reducible exact hF13 _ (by assumption) | with_reducible exact hF14 _ (by assumption) | with_reducible exact hF15 _ (by assumption) | with_reducible exact hF16 _ _ (by assumption) | with_reducible refine Kf_ltv (fun _ => ?_) | with_reducible refine Kf_I ?_ (by decide) | with_reducible refine Kf_A ?_ | with_reducible refine Kf_J ?_ | with_reducible refine Kf_L ?_)
  by_cases k25 : K (p + 1) = 25
  · rw [decide_eq_true k25, br_tq, if_pos k25, show decide ((1 : Int32) = 0) = false from rfl, br_fq]
    unfold hb_Pa_list_35
    rw [show decide ((0 : Int32) = 0) = true from rfl, br_tq]
    refine fin (advc m p) (adv w p) (p + 1) n 0 sc 0 (fun _ => 32) false false (fun _ => False) [] _ _ _ st (Nat.le_refl _) (fun mf r7 _ hl2 hx2 ko kc => ⟨?_, ?_⟩)
    · have := exn_lst (N := N) (K := K) (nm := nm) (gd := gd) (lo := n) (m1 := advc m p) (n1 := n) (W := fun _ => 32) (sc := sc) (sc2 := sc) (sc3 := sc) (X3 := 0) (R3 := false) (Z3 := false) (B3 := fun _ => False) (l := []) (q := p + 1) (q2 := p + 1) (q3 := p + 1) (p := p) (p2 := p + 1 + 1) (X := 0) (Rf := false) (Zf := false) (BC := fun _ => False) hx2 (by omega) (Nat.le_refl _) (by omega) ⟨by omega, by omega, by omega, by omega⟩ gp (fun j h1 h2 => by rw [show j = p + 1 by omega]; omega) (by decide) ⟨by omega, rfl⟩ ⟨rfl, rfl, rfl, rfl, rfl, fun _ z => z⟩ ko kc (by omega) (fun _ _ _ => Iff.rfl) (Or.inl ⟨rfl, rfl, rfl, rfl, rfl, rfl, fun _ z => z⟩)
      exact EXN_no (EXN_bc (B2 := fun _ => False) (BC := fun _ => False ∨ False) (fun m => ⟨False.elim, fun z => z.elim id id⟩) this)
    · exact PTX_lst (l := []) (q := p + 1) (r := p + 1) (l4 := 0) hx2 (by omega) (Nat.le_refl _) (by omega) (Or.inl ⟨rfl, rfl, rfl, rfl, rfl⟩) ko kc (by omega) hk k25 hl2 (by omega) ⟨by omega, Nat.le_refl _⟩
  · rw [decide_eq_false k25, br_fq, if_neg k25, show decide ((0 : Int32) = 0) = true from rfl, br_tq]
    cases D with
    | zero => exact pp_nl
    | succ D =>
      show PP _ (bTm (hm_Pa_row N (hrc_Pa_matched N D) (advc m p) 0 8) _) (gg_M_row N (rc_M_behind N d) N (adv w p) (I (p : Nat)) 0 5 0 0 1)
      have e7 : ∀ k, k ≠ 69 → (adv w p).1 k = w.1 k := fun k hk => by unfold adv; exact upI_ne hk
      have go : ∀ M, PP (EXZ N m0 w0 K T nm Nk p n gd sc o NC m w) (bTm (hm_Pa_row N (hrc_Pa_matched N D) (advc m p) 0 (I ((8 : Nat) : Int))) (fun u17 r17 => hb_Pa_list_35 N (hrc_Pa_matched N (D + 1)) () u17 0 (I (p : Nat)) r17)) (bnd ((rc_M_behind N d).2.2.2.2.2.2.2.2.2.2.2.2.2.1 (adv w p)) (fun u _ => rowR N (rc_M_behind N d) (I (p : Nat)) 0 5 M 1 u)) := fun M => by
        refine erow_st (SC := hrc_Pa_matched N D) (RA := fun M k w => rowR N (rc_M_behind N d) (I (p : Nat)) 0 5 M k w) (mx := 8) (gd := gd) (o := o + 1) (sc := sc) (p0 := p + 1) (n0 := n) (by decide) (by decide) c c45 (by omega) rl st.2.1.2.1 (STQ_rn st) (STQ_nd st) (by rw [e7 70 (by decide)]; exact h70) ho (by rw [e7 73 (by decide)]; exact hg) (hE D) ?_ ?_ ?_ ?_ ?_ ?_ (Or.inl (by decide))
        · intro M m2 w2 q1 k l hI k26 hlk hk8
          obtain ⟨n2, sc2, X, W, Rf, Zf, CL, b0, b1, b2, b3, b4, b5⟩ := hI
          obtain ⟨d1, d2, d3⟩ := ERW_hd b2 b0.1
          have nn := b1.2.1
          have q1T := b1.1.2.2.2.2.1
          have s2 := STQ_s2 (s2 := 2) (STQ_tr st b1) (by omega)
          rw [show max 0 X = X by omega, Bool.false_or, Bool.false_or] at s2
          have s2 := STQ_cl (CM := CL) (fun x => ⟨fun z => z.elim False.elim id, Or.inr⟩) s2
          have he := ERW_w (W2 := mrg (p + 1) (fun _ => 32) W) (fun j h _ => mrg_r h) b2
          generalize mrg (p + 1) (fun _ => 32) W = W9 at s2 he
          have hc2 := RLP_c c b1.1
          have hw2 := RLP_w c b1.1
          have h2 := b1.1.2.2.2.2.2.2
          have k462 := hc2.1.1.k46 hc2.2.2
          have tq := ERW_len he
          have sx := s2.2.2.2.2.1
          refine rowR_no hw2 h2 k26 (fun M2 => ?_)
          show PP _ (hb_Pa_list_35 N (hrc_Pa_matched N (D + 1)) () m2 0 (I (p : Nat)) (I ((l.headD 0 : Nat) : Int))) _
          unfold fb_M_row_103 hb_Pa_list_35
          rw [show decide ((0 : Int32) = 0) = true from rfl, br_tq, I_n0 (by omega) (by omega), br_fq, look_e hc2 (c45 _ q1T), bTm_l, I_dn (a := K q1) (b := 29) (s := 29) (by omega) (by decide) rfl, tkS_e (k := 29) (s := 9) hw2 h2 (by decide) rfl]
          by_cases k29 : K q1 = 29
          · have hl2 : q1 < T := TWK_lt c q1T (by omega) (by omega)
            rw [decide_eq_true k29, br_tq, if_pos k29, bnd_s, show decide ((1 : Int32) = 0) = false from rfl, br_fq, hc2.2.1, i_suc]
            refine l_lt ?_
            rw [br_tq]
            have s3 := STQ_ad s2 hl2 (by omega)
            have w7 : ∀ k, k ∈ [70, 73] → (adv w2 q1).1 k = w.1 k := fun k hk => by
              have hk2 : k ≠ 69 := by rintro rfl; revert hk; decide
              unfold adv
              rw [upI_ne hk2, b1.2.2.2.2.1.2.2.2.2.2.2.1.1 k (by simp only [List.mem_cons, List.not_mem_nil, or_false] at hk ⊢; omega)]
              exact e7 k hk2
            show PP _ (bTm ((hrc_Pa_matched N (D + 1)).2.2.2.2.2.2.2.2.2.2.2.2.2.2.1 (advc m2 q1) 1) _) (bnd ((rc_M_behind N d).2.2.2.2.2.2.2.2.2.2.2.2.2.1 (adv w2 q1)) _)
            refine pp_bTn (hE (D + 1) (advc m2 q1) (adv w2 q1) (q1 + 1) n2 sc2 gd (o + 1) s3.1 s3.2.1.2.1 (by omega) (STQ_rn s3) (STQ_nd s3) (by rw [w7 70 (by decide)]; exact h70) ho (by rw [w7 73 (by decide)]; exact hg)) (fun m5 ε w5 r5 q5 => ?_) (fun m5 kk w5 r5 q5 => r125_f q5)
            obtain ⟨p5, n5, μ, sc5, X5, W5, R5, Z5, CL5, a1, a2, a3, a4, a5, a6, a7, a8⟩ := q5
            have nn5 := a4.2.1
            have p5T := a4.1.2.2.2.2.1
            have s5 := STQ_s2 (s2 := 2) (STQ_tr s3 a4) (by omega)
            have sx5 := a4.2.2.2.2.1
            rw [a1]
            unfold hb_Pa_list_78
            refine fin m5 w5 p5 n5 μ sc5 _ _ _ _ _ l _ _ _ s5 (by omega) (fun mf r7 kp5 hl5 hx2 ko kc => ⟨?_, ?_⟩)
            · have ko2 : KPO n2 m2 m5 := a4.2.2.1
              have kc2 : Kcc m2 m5 := Kc_tr (v := advc m2 q1) ⟨fun k hk => by unfold advc; exact upI_ne (by omega), fun _ _ => rfl⟩ (PCG_k a4.2.2.2.1)
              have := exn_lst (N := N) (K := K) (nm := nm) (gd := gd) (W := mrg (q1 + 1) W9 W5) (sc3 := sc5) (X3 := X5) (R3 := R5) (Z3 := Z5) (B3 := BCo N CL5) (l := l) (q := p + 1) (q2 := q1) (q3 := p5) (p := p) (p2 := p5 + 1) hx2 (by omega) (Nat.le_refl _) (by omega) ⟨by omega, by omega, by omega, by omega⟩ gp (fun j h1 h2 => by rw [show j = p5 by omega]; omega) sx.2.2.2.1.2 ⟨tq.2.1, tq.2.2⟩ (ERW_k (m2 := m2) (m3 := m5) (by omega) kc2 ko2 (ERW_w (fun j _ h => mrg_l (by omega)) he)) ko kc (by omega) BCo_st (Or.inr ⟨by omega, a2.2, q1 + 1, n2, n5, m5, by omega, Nat.le_refl _, ⟨by omega, by omega⟩, fun j h1 h2 => by rw [show j = q1 by omega]; omega, ⟨fun _ _ _ => ⟨rfl, fun _ => rfl⟩, Kc_rf⟩, EXN_w (fun j h _ => mrg_r h) a6⟩)
              exact EXN_bc (fun m => BCo_or) this
            · have ko2 : KPO n2 m2 m5 := a4.2.2.1
              have kc2 : Kcc m2 m5 := Kc_tr (v := advc m2 q1) ⟨fun k hk => by unfold advc; exact upI_ne (by omega), fun _ _ => rfl⟩ (PCG_k a4.2.2.2.1)
              exact PTX_lst (l := l) (q := q1) (r := p5) (l4 := n2) (m1 := m5) (n1 := n5) hx2 (by omega) (Nat.le_refl _) (by omega) (Or.inr ⟨_, PXR_k (by omega) kc2 ko2 b5, by omega, k25, Or.inr ⟨k29, by omega, ⟨by omega, a2.1, a2.2⟩, _, a7, rfl⟩⟩) ko kc (by omega) hk kp5 hl5 (by omega) ⟨by omega, by omega⟩
          · rw [decide_eq_false k29, br_fq, if_neg k29, bnd_s, show decide ((0 : Int32) = 0) = true from rfl, br_tq]
            refine fin m2 w2 q1 n2 0 sc2 X W9 Rf Zf CL l _ _ _ s2 (by omega) (fun mf r7 kq hl2 hx2 ko kc => ⟨?_, ?_⟩)
            · have := exn_lst (N := N) (K := K) (nm := nm) (gd := gd) (W := W9) (sc3 := sc2) (X3 := 0) (R3 := false) (Z3 := false) (B3 := fun _ => False) (l := l) (q := p + 1) (q2 := q1) (q3 := q1) (p := p) (p2 := q1 + 1) hx2 (by omega) (Nat.le_refl _) (by omega) ⟨by omega, by omega, by omega, by omega⟩ gp (fun j h1 h2 => by rw [show j = q1 by omega]; omega) sx.2.2.2.1.2 ⟨tq.2.1, tq.2.2⟩ he ko kc (by omega) (fun _ _ _ => Iff.rfl) (Or.inl ⟨rfl, rfl, rfl, rfl, rfl, rfl, fun _ z => z⟩)
              rw [show max X 0 = X by omega, Bool.or_false, Bool.or_false] at this
              exact EXN_bc (fun m => ⟨Or.inl, fun z => z.elim id False.elim⟩) this
            · exact PTX_lst (l := l) (q := q1) (r := q1) (l4 := 0) hx2 (by omega) (Nat.le_refl _) (by omega) (Or.inr ⟨_, b5, by omega, k25, Or.inl ⟨rfl, rfl, rfl⟩⟩) ko kc (by omega) hk kq hl2 (by omega) ⟨by omega, Nat.le_refl _⟩
        · exact fun M k q1 w2 a hw2 h2 k26 hk1 hk8 ha => rowR_yes hw2 h2 k26 hk8 ha
        · exact fun M k q1 w2 _ hw2 h2 k26 hk8 => rowR_max hw2 k26 hk8
        · exact fun M k w z => rowR_f z
        · intro m p φ _ cp k26
          have f : ∀ φ2 : Int32, RFS (hb_Pa_list_80 N (hrc_Pa_matched N (D + 1)) () m φ2 φ 0) := fun φ2 => by
            unfold hb_Pa_list_80
            exact RFS_T (need_x (k := 25) (s := 25) cp (by omega) (by decide) rfl)
          unfold hb_Pa_list_35
          rw [look_e cp (by omega), bTm_l, k26, show decide (I ((26 : Nat) : Int) = 29) = false from rfl, br_fq]
          cases decide (φ = 0) with
          | true => rw [br_tq]; exact RFS_T (need_x (k := 25) (s := 25) cp (by omega) (by decide) rfl)
          | false => rw [br_fq]; exact f _
        · exact fun _ _ _ _ z => z
      have key : ∀ M, PP (EXZ N m0 w0 K T nm Nk p n gd sc o NC m w) (bTm (hm_Pa_row N (hrc_Pa_matched N D) (advc m p) 0 (I ((8 : Nat) : Int))) (fun u17 r17 => hb_Pa_list_35 N (hrc_Pa_matched N (D + 1)) () u17 0 (I (p : Nat)) r17)) (gg_M_row N (rc_M_behind N d) M (adv w p) (I (p : Nat)) 0 5 0 0 1) := fun M => by
        cases M with
        | zero => exact pp_nr
        | succ M =>
          show PP _ _ (fb_M_row_50 N (rc_M_behind N d) (gg_M_row N (rc_M_behind N d) M) (adv w p) (I (p : Nat)) 0 5 0 0 1)
          unfold fb_M_row_50
          rw [show decide ((1 : Int32) = 0) = false from rfl, br_fq, decide_eq_true h1, br_tq]
          exact go M
      exact key N
end
