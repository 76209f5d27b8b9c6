set_option maxRecDepth 100000
section
variable {α : Type} {R : MS → α → MS → Int32 → Prop} {A : Option (MS × α)} {m0 w0 m w v u m2 m3 w2 x y z xB xC mF vS mB wB : MS} {K nm Nk W W1 W2 WA WB : Nat → Nat} {T p n N q X Y X1 X2 XA n2 n3 lo p2 p4 ν μ a b L L' k d o M D s : Nat} {sc sc1 sc2 sc3 sc4 sc5 t t2 t3 t4 t5 : SCT} {e e2 e3 e4 e5 : List Nat × List Nat × Nat} {gd Rf Rg Zf : Bool} {BC : MS → Prop} {v1 v2 r ξ : Int32} {S : SG_M_behind} {NC : Nat → Prop} {CL CM : Int32 × Int32 × Int32 → Prop}
theorem STW_23 (h : STW Nk K p p2 sc sc2 X W Rf Zf CL w v) {j c : Nat} (h32 : w.1 32 = I (c : Nat)) (hc : c ≤ 100000) (hj : j < c) : v.2.2.1 23 j = w.2.2.1 23 j := by
  obtain ⟨f1, f2, f3, f4, f5, f6, f7, A0, B0, f8, f9, f10⟩ := h
  have e0 : A0 = c := by
    have := f8.1.symm.trans h32
    have := (I_eq (x := (A0 : Nat)) (y := (c : Nat)) (by omega) (by omega) (by omega) (by omega)).mp this
    omega
  subst e0
  exact (f10 j hj).1
theorem cat_pp (c : CTZ m0 w0 K T nm Nk) (hE : HE N m0 w0 K T nm Nk d) (hm : m.1 666 = w.1 70) {mi wi : MS} (emi : mi = upI m 666 (m.1 666 + 1)) (ewi : wi = upI w 70 (w.1 70 + 1)) (h : RLP m0 w0 T p mi wi) (hn : mi.1 306 = I (n : Nat)) (hn2 : n ≤ 2 * p) (hR : RNs wi sc) (nd : ND wi) (h70 : wi.1 70 = I ((o + 1 : Nat) : Int)) (ho : o + 1 ≤ 25) (hg : decide (wi.1 73 = 0) = !gd) (k9 : K p = 9) : PP (EXZ N m0 w0 K T nm Nk p n gd sc o NC1 m w) (bTm ((hrc_Pa_matched N D).2.2.2.2.2.2.2.2.2.2.2.2.2.2.1 (advc mi p) 1) (fun u10 r10 => bnd (hm_Tr_add N u10 19 (I (p : Nat)) r10 0 0) (fun u11 r11 => hb_Pa_expression_84 N (hrc_Pa_matched N D) () u11 r11))) (br (decide (wi.1 73 = 0)) (fb_M_expression_60 N (rc_M_behind N d) () wi) (bnd (fm_M_rule N wi 7 (wi.1 69)) (fun u13 _ => fb_M_expression_60 N (rc_M_behind N d) () u13))) := by
  have hl : 1 ≤ sc.length ∧ sc.length ≤ 27 := hR.2.1
  have T4 := c.1.1.1
  have pl : p < T := TWK_lt c h.2.2.2.2.1 (by omega) (by omega)
  have w69 := h.2.2.2.1
  cases sc with
  | nil => exact absurd hl.1 (by decide)
  | cons e t =>
  have e1400 : e.1.length ≤ 1400 := by
    have := hR.2.2.2.1
    have a := this.2.2.2.1
    have b := this.2.2.2.2.1
    omega
  have go : ∀ xC R1, (gd = true → R1 = true) → (gd = false → R1 = false) → STQ m0 w0 K T Nk gd mi wi p n (e :: t) 0 mi xC p n (e :: t) 0 (fun _ => 32) R1 false (fun _ => False) → xC.1 70 = wi.1 70 → xC.1 73 = wi.1 73 → xC.1 69 = wi.1 69 → PP (EXZ N m0 w0 K T nm Nk p n gd (e :: t) o NC1 m w) (bTm ((hrc_Pa_matched N D).2.2.2.2.2.2.2.2.2.2.2.2.2.2.1 (advc mi p) 1) (fun u10 r10 => bnd (hm_Tr_add N u10 19 (I (p : Nat)) r10 0 0) (fun u11 r11 => hb_Pa_expression_84 N (hrc_Pa_matched N D) () u11 r11))) (fb_M_expression_60 N (rc_M_behind N d) () xC) := fun xC R1 hR1 hR2 sC c70 c73 c69 => by
    unfold fb_M_expression_60
    refine r_bnd (pk_mo (node_s (kd := 19) (N := N) (by decide)) (fun u2 r2 h2 => ?_))
    obtain ⟨b1, b2, -, av, ⟨b3, b3'⟩, b4, b5, b6, b7⟩ := h2
    have s1 := STQ_s sC b1 b2
    rw [b2, c69, w69, i_suc]
    have s2 := STQ_ad s1 pl (by omega)
    have rn := STQ_rn s2
    have e65 : (adv u2 p).1 65 = I (t.length : Nat) := rn.1
    have n65 : ((adv u2 p).1 65).toNatClampNeg = t.length := by rw [e65]; exact tnI (n := t.length) rfl (by have : t.length + 1 ≤ 27 := hl.2; omega)
    have e60 : (adv u2 p).2.2.1 60 ((adv u2 p).1 65).toNatClampNeg = I (e.1.length : Nat) := by rw [n65]; exact rn.2.2.1.1.1
    refine r_lt (r_ck (fun _ => ?_))
    show PP _ _ (lt ((adv u2 p).2.2.1 60 ((adv u2 p).1 65).toNatClampNeg) (fun y4 => ck (inb r2 (ln 26)) (lt (upA (adv u2 p) 26 (upd ((adv u2 p).2.2.1 26) r2.toNatClampNeg y4)) _)))
    rw [e60]
    refine r_lt (r_ck (fun _ => r_lt ?_))
    rw [b7]
    have k23 : (adv u2 p).2.2.1 23 av ≠ 12 ∧ (adv u2 p).2.2.1 23 av ≠ 15 := by
      show u2.2.2.1 23 av ≠ 12 ∧ u2.2.2.1 23 av ≠ 15
      rw [b6]; decide
    have sm := SMS_B (k := 26) (x := I (e.1.length : Nat)) (SMS_rf (w := adv u2 p)) (Or.inr (Or.inl rfl)) k23
    generalize hw5 : upA (adv u2 p) 26 (upd ((adv u2 p).2.2.1 26) av (I (e.1.length : Nat))) = w5 at sm ⊢
    have i5 : ∀ k, k ≠ 69 → w5.1 k = u2.1 k := fun k hk => by rw [← hw5]; show (adv u2 p).1 k = _; unfold adv; rw [upI_ne hk]
    have w5_69 : w5.1 69 = (adv u2 p).1 69 := by rw [← hw5]; rfl
    have w5_23 : w5.2.2.1 23 av ≠ 12 ∧ w5.2.2.1 23 av ≠ 15 := by rw [← hw5, upA_no (by decide)]; exact k23
    clear hw5
    have s3 := STQ_s s2 sm w5_69
    have sb := s3.2.1
    have u73 : u2.1 73 = xC.1 73 := b1.1 73 (by decide)
    have u70 : u2.1 70 = xC.1 70 := b1.1 70 (by decide)
    refine pp_bTn (hE D (advc mi p) w5 (p + 1) n _ gd (o + 1) s3.1 s3.2.1.2.1 (by omega) (STQ_rn s3) (STQ_nd s3) (by rw [i5 70 (by decide), u70, c70]; exact h70) (by omega) (by rw [i5 73 (by decide), u73, c73]; exact hg)) (fun m3 v3 u6 r6 hz => ?_) (fun m3 k3 u6 r6 hz => ?_)
    · obtain ⟨p4, n3, xr, sc4, X1, W1, Rf1, Zf1, CL1, d1, d2, d3, st4, d5, d6, d7, d8⟩ := hz
      have nb := st4.2.1
      have := st4.1.2.2.2.2.1
      rw [d1, add_e st4.2.1.2.1 (by omega), bnd_s]
      have sx := st4.2.2.2.2.1.2.1
      cases sc4 with
      | nil => exact sx.elim
      | cons e4 t4 =>
      refine pp_l (pk_bnd (pk_mo (unb_p (STQ_rn st4) e1400) (fun u7 _ un => ?_)))
      refine pk_bnd (pk_mo (node_s (kd := 20) (N := N) (by decide)) (fun u8 r8 h8 => pk_ck (fun _ => pk_lt (pk_some ?_))))
      have hnd : nod (adN m3 n3 19 (I (p : Nat)) (I (xr : Nat)) 0 0) (n3 + 1) = (I ((19 : Nat) : Int), I (p : Nat), I (xr : Nat), 0, 0) := adN_nod.1
      have kcF : Kcc m3 (adN m3 n3 19 (I (p : Nat)) (I (xr : Nat)) 0 0) := PCG_k (PCG_add PCG_rf)
      have s4 := STQ_tr s3 st4
      have s5 := STQ_cut (b := e.1.length) s4 (Nat.le_refl _) un (fun g z => by rw [hR1 g] at z; cases z)
      have s6 := STQ_s s5 h8.1 h8.2.1
      have x32 : w5.1 32 = I ((av + 1 : Nat) : Int) := by rw [i5 32 (by decide)]; exact b5
      have k6 : u6.2.2.1 23 av = w5.2.2.1 23 av := STW_23 st4.2.2.2.2.1 x32 (by omega) (by omega)
      have k8 : u8.2.2.1 23 av ≠ 12 ∧ u8.2.2.1 23 av ≠ 15 := by
        have st6 := st4.2.2.2.2.1
        obtain ⟨f1, f2, f3, f4, f5, f6, f7, A0, B0, f8, f9, f10⟩ := st6
        have hA : A0 = av + 1 := by
          have := f8.1.symm.trans x32
          have := (I_eq (x := (A0 : Nat)) (y := ((av + 1 : Nat) : Int)) (by omega) (by omega) (by omega) (by omega)).mp this
          omega
        obtain ⟨B1, y1, y2, y3⟩ := un.2.2.2.2 B0 f8.2.1 (by omega)
        obtain ⟨B2, z1, z2, z3⟩ := h8.1.2.2 B1 y1.1 (by omega)
        have a1 := (y2 av (by omega)).1
        have a2 := (z2 av (by omega)).1
        rw [a2, a1, k6]
        exact w5_23
      have s7 := STQ_s s6 (SMS_B (k := 25) (x := u8.1 32) (SMS_rf (w := u8)) (Or.inl rfl) k8) rfl
      have s8 := STQ_add (a := 19) (b := I (p : Nat)) (c := I (xr : Nat)) (d := 0) (f := 0) (STQ_s2 s7 (by omega : 1 + 1 ≤ _))
      subst emi
      subst ewi
      refine EXZ_70 (r := r8) ?_ hm
      refine ⟨p4, n3 + 1, n3 + 1, _, _, _, _, _, CL1, rfl, ⟨by omega, Nat.le_refl _⟩, by omega, STQ_cl (fun x => ⟨fun z => z.elim False.elim id, Or.inr⟩) s8, adN_nod.2, ?_, PTX_no hnd (by omega) (Nat.le_refl _) (by omega) (by decide) (by decide) (by decide) (by rw [k9]; rfl), 19, ?_, by decide, fun z => absurd z (by decide), fun _ z => ?_, p, by omega, ?_⟩
      · cases gd with
        | true =>
          rw [hR1 rfl, Bool.true_or]
          exact exn_ng (kd := 19) (by unfold CMK; omega) ⟨by decide, by decide⟩ hnd (by omega) (by omega) (Nat.le_refl _) (by omega)
        | false =>
          rw [hR2 rfl, Bool.false_or, Bool.false_or, Nat.zero_max]
          exact exn_cat (gd := false) (q := p + 1) (q2 := p4) hnd (by omega) (by omega) (Nat.le_refl _) (by omega) ⟨by omega, by omega, Nat.le_refl _⟩ (fun j h1 h2 => by rw [show j = p by omega]; omega) (fun j h1 h2 => absurd h2 (by omega)) (EXN_w (fun j h1 _ => mrg_r (by omega)) d6) (by omega) adN_o kcF (by omega) sx BCo_st
      · rw [adN_16, upd_at]; rfl
      · rw [k9] at z; cases z
      · rw [adN_17, upd_at]
    · have hz : Kfc u6 u6 := hz
      refine Kf_pk (u0 := u6) ?_
      unfold fb_M_expression_137
      obtain ⟨hF0, hF1, hF2, hF3, hF4, hF5, hF6, hF7, hF8, hF9, hF10, hF11, hF12, hF13, hF14, hF15, hF16⟩ := yf_rc_M_behind (u0 := u6) (N := N) d
      repeat' (first | with_reducible assumption | with_reducible refine Kf_br ?_ ?_ | with_reducible refine Kf_bnd ?_ (fun _ _ _ => ?_) | with_reducible refine Kf_ck ?_ | with_reducible refine Kf_ltm ?_ (fun _ _ => ?_) | with_reducible refine Kf_some ?_ | with_reducible refine Kf_bo (fun _ => ?_) | with_reducible exact yf_fm_M_node (by assumption) | with_reducible exact yf_fm_M_pattern (by assumption) | with_reducible exact yf_fm_M_wrong (by assumption) | with_reducible exact yf_fm_M_rule (by assumption) | with_reducible exact yf_fm_M_isSign (by assumption) | with_reducible exact yf_fm_M_isWord (by assumption) | with_reducible exact yf_fm_M_takeSign (by assumption) | with_reducible exact yf_fm_M_takeWord (by assumption) | with_reducible exact yf_fm_M_needSign (by assumption) | with_reducible exact yf_fm_M_needWord (by assumption) | with_reducible exact yf_fm_M_opens (by assumption) | with_reducible exact yf_fm_M_boundIn (by assumption) | with_reducible exact yf_fr_M_found (by assumption) | with_reducible exact yf_fm_M_bind (by assumption) | with_reducible exact yf_fm_M_isUnderscore (by assumption) | with_reducible exact yf_fm_M_unbind (by assumption) | with_reducible exact yf_fm_M_term (by assumption) | with_reducible exact yf_fm_M_namePattern (by assumption) | with_reducible exact yf_fr_M_patternAt (by assumption) | with_reducible exact yf_fm_M_beginsUnit (by assumption) | with_reducible exact yf_fm_M_save (by assumption) | with_reducible exact yf_fm_M_addRoot (by assumption) | with_reducible exact yf_fm_M_level (by assumption) | with_reducible exact yf_fm_M_reduce (by assumption) | with_reducible exact yf_fm_M_takeBack (by assumption) | with_reducible exact yf_fm_M_forgetSaved (by assumption) | with_reducible exact yf_fr_M_last (by assumption) | with_reducible exact yf_fr_M_clause (by assumption) | with_reducible exact yf_fm_M_predefinedOf (by assumption) | with_reducible exact yf_fm_M_function0 (by assumption) | with_reducible exact yf_fm_M_program (by assumption) | with_reducible exact hF0 _ (by assumption) | with_reducible exact hF1 _ _ (by assumption) | with_reducible exact hF2 _ _ _ (by assumption) | with_reducible exact hF3 _ _ _ (by assumption) | with_reducible exact hF4 _ (by assumption) | with_reducible exact hF5 _ _ (by assumption) | with_reducible exact hF6 _ _ (by assumption) | with_reducible exact hF7 _ _ (by assumption) | with_reducible exact hF8 _ _ (by assumption) | with_reducible exact hF9 _ (by assumption) | with_reducible exact hF10 _ (by assumption) | with_reducible exact hF11 _ (by assumption) | with_reducible exact hF12 _ (by assumption) | with_reducible exact hF13 _ (by assumption) | with_reducible exact hF14 _ (by assumption) | with_reducible exact hF15 _ (by assumption) | with_reducible exact hF16 _ _ (by assumption) | with_reducible refine Kf_ltv (fun _ => ?_) | with_reducible refine Kf_I ?_ (by decide) | with_reducible refine Kf_A ?_ | with_reducible refine Kf_J ?_ | with_reducible refine Kf_L ?_)
  rw [hg]
  cases gd with
  | false =>
    show PP _ _ (br true _ _)
    rw [br_tq]
    exact go wi false (fun z => Bool.noConfusion z) (fun _ => rfl) (STQ_0 h hn hR nd) rfl rfl rfl
  | true =>
    show PP _ _ (br false _ _)
    rw [br_fq]
    refine r_bnd (pk_mo (rule_p (by decide)) (fun xC _ hx => ?_))
    exact go xC true (fun _ => rfl) (fun z => Bool.noConfusion z) (STQ_rule (STQ_0 h hn hR nd) hx.1 hx.2.1 hx.2.2) (hx.2.1 70 (by decide) (by decide)) (hx.2.1 73 (by decide) (by decide)) (hx.2.1 69 (by decide) (by decide))
theorem HE_s (c : CTZ m0 w0 K T nm Nk) (c45 : ∀ p, p ≤ T → K p ≠ 45) (hS : HSi N m0 w0 K T nm Nk d) (hE : HE N m0 w0 K T nm Nk d) : HE N m0 w0 K T nm Nk (d + 1) := by
  intro D m w p n sc gd o h hn hn2 hR nd h70 ho hg
  cases D with
  | zero => exact pp_nl
  | succ D =>
    show PP _ (hb_Pa_expression_0 N (hrc_Pa_matched N D) () m 1) (fb_M_expression_0 N (rc_M_behind N d) () w)
    have hc := RLP_c c h
    have hwp := RLP_w c h
    have h0 := h.2.2.2.2.2.2
    have k46 := hc.1.1.k46 hc.2.2
    unfold hb_Pa_expression_0 fb_M_expression_0 hb_Pa_expression_27 hb_Pa_expression_23 hb_Pa_expression_28
    rw [look_e hc (c45 _ h.2.2.2.2.1), bTm_l, bU_e k46, bnd_s, decide_eq_true h0, br_tq, bU_m hwp, bnd_s, I_dn (a := K p) (b := 9) (s := 9) (by omega) (by decide) rfl, show decide ((1 : Int32) = 0) = false from rfl]
    have flt : ∀ {v : MS} {F : MS → Unit → Option (MS × Int32)}, (∀ u r, FLW u → PK (fun w2 (_ : Int32) => FLW w2) (F u r)) → ¬ w.1 70 < 25 → PK (fun v2 (_ : Int32) => FLW v2) (bnd (fm_M_opens N w) F) := fun {v F} hF zz => pk_bnd (pk_mo (opn_x zz) (fun u r y => hF u r y))
    have go : (bUK (K p) = true ∨ K p = 9) → PP (EXZ N m0 w0 K T nm Nk p n gd sc o NC1 m w) (bTm (hm_Pa_opens N m 1) (fun u3 r3 => br (decide (K p = 9)) (lt (upI u3 665 (u3.1 665 + 1)) (fun w8 => bTm ((hrc_Pa_matched N D).2.2.2.2.2.2.2.2.2.2.2.2.2.2.1 w8 1) (fun u10 r10 => bnd (hm_Tr_add N u10 19 (u3.1 665) r10 0 0) (fun u11 r11 => hb_Pa_expression_84 N (hrc_Pa_matched N D) () u11 r11)))) (bTm ((hrc_Pa_matched N D).2.2.2.2.2.2.2.2.2.2.2.2.2.1 u3) (fun u5 r5 => bTm ((hrc_Pa_matched N D).1 u5 r5) (fun u6 r6 => hb_Pa_expression_84 N (hrc_Pa_matched N D) () u6 r6))))) (fb_M_expression_31 N (rc_M_behind N d) () w) := fun hb => by
      unfold fb_M_expression_31
      by_cases z : o < 25
      · have zz := (lt25 h70 (by omega)).mpr z
        have rl := RLP_70 h
        have hw2 := RLP_w c rl
        rw [opens_e (by rw [h.2.2.2.2.2.1]; exact zz), bTm_l, opn_e zz, bnd_s, isV_e (k := 9) (s := 4) hw2 (by decide) rfl, bnd_s]
        by_cases z9 : K p = 9
        · rw [decide_eq_true z9, br_tq, if_pos z9, show decide ((1 : Int32) = 0) = false from rfl, br_fq, rl.2.2.1, i_suc]
          obtain ⟨av, hav, hav2⟩ := nd
          exact cat_pp (D := D) c hE h.2.2.2.2.2.1 rfl rfl rl (by rw [upI_ne (by decide)]; exact hn) hn2 (RNs_e hR (upI_ne (by decide)) (fun _ _ _ => rfl)) ⟨av, by rw [upI_ne (by decide)]; exact hav, hav2⟩ (by rw [upI_at, h70]; exact i_suc) (by omega) (by rw [upI_ne (by decide)]; exact hg) z9
        · rw [decide_eq_false z9, br_fq, if_neg z9, show decide ((0 : Int32) = 0) = true from rfl, br_tq]
          exact sim_pp hS h hn hn2 hR nd h70 z hg
      · have zz : ¬ w.1 70 < 25 := fun y => z ((lt25 h70 (by omega)).mp y)
        refine pp_rf (RFS_T (opens_x hc (by rw [h.2.2.2.2.2.1]; exact zz))) (fun m' => ?_)
        refine pk_bnd (pk_mo (opn_x zz) (fun v r y => ?_))
        refine Kf_pk (u0 := v) ?_
        have y2 : Kfc v v := y
        obtain ⟨hF0, hF1, hF2, hF3, hF4, hF5, hF6, hF7, hF8, hF9, hF10, hF11, hF12, hF13, hF14, hF15, hF16⟩ := yf_rc_M_behind (u0 := v) (N := N) d
        repeat' (first | with_reducible assumption | with_reducible refine Kf_br ?_ ?_ | with_reducible refine Kf_bnd ?_ (fun _ _ _ => ?_) | with_reducible refine Kf_ck ?_ | with_reducible refine Kf_ltm ?_ (fun _ _ => ?_) | with_reducible refine Kf_some ?_ | with_reducible refine Kf_bo (fun _ => ?_) | with_reducible exact yf_fm_M_node (by assumption) | with_reducible exact yf_fm_M_pattern (by assumption) | with_reducible exact yf_fm_M_wrong (by assumption) | with_reducible exact yf_fm_M_rule (by assumption) | with_reducible exact yf_fm_M_isSign (by assumption) | with_reducible exact yf_fm_M_isWord (by assumption) | with_reducible exact yf_fm_M_takeSign (by assumption) | with_reducible exact yf_fm_M_takeWord (by assumption) | with_reducible exact yf_fm_M_needSign (by assumption) | with_reducible exact yf_fm_M_needWord (by assumption) | with_reducible exact yf_fm_M_opens (by assumption) | with_reducible exact yf_fm_M_boundIn (by assumption) | with_reducible exact yf_fr_M_found (by assumption) | with_reducible exact yf_fm_M_bind (by assumption) | with_reducible exact yf_fm_M_isUnderscore (by assumption) | with_reducible exact yf_fm_M_unbind (by assumption) | with_reducible exact yf_fm_M_term (by assumption) | with_reducible exact yf_fm_M_namePattern (by assumption) | with_reducible exact yf_fr_M_patternAt (by assumption) | with_reducible exact yf_fm_M_beginsUnit (by assumption) | with_reducible exact yf_fm_M_save (by assumption) | with_reducible exact yf_fm_M_addRoot (by assumption) | with_reducible exact yf_fm_M_level (by assumption) | with_reducible exact yf_fm_M_reduce (by assumption) | with_reducible exact yf_fm_M_takeBack (by assumption) | with_reducible exact yf_fm_M_forgetSaved (by assumption) | with_reducible exact yf_fr_M_last (by assumption) | with_reducible exact yf_fr_M_clause (by assumption) | with_reducible exact yf_fm_M_predefinedOf (by assumption) | with_reducible exact yf_fm_M_function0 (by assumption) | with_reducible exact yf_fm_M_program (by assumption) | with_reducible exact hF0 _ (by assumption) | with_reducible exact hF1 _ _ (by assumption) | with_reducible exact hF2 _ _ _ (by assumption) | with_reducible exact hF3 _ _ _ (by assumption) | with_reducible exact hF4 _ (by assumption) | with_reducible exact hF5 _ _ (by assumption) | with_reducible exact hF6 _ _ (by assumption) | with_reducible exact hF7 _ _ (by assumption) | with_reducible exact hF8 _ _ (by assumption) | with_reducible exact hF9 _ (by assumption) | with_reducible exact hF10 _ (by assumption) | with_reducible exact hF11 _ (by assumption) | with_reducible exact hF12 _ (by assumption) | with_reducible exact hF13 _ (by assumption) | with_reducible exact hF14 _ (by assumption) | with_reducible exact hF15 _ (by assumption) | with_reducible exact hF16 _ _ (by assumption) | with_reducible exact yf_fb_M_expression_137 (by assumption) hF0 hF1 hF2 hF3 hF4 hF5 hF6 hF7 hF8 hF9 hF10 hF11 hF12 hF13 hF14 hF15 hF16 | with_reducible exact yf_fb_M_expression_60 (by assumption) hF0 hF1 hF2 hF3 hF4 hF5 hF6 hF7 hF8 hF9 hF10 hF11 hF12 hF13 hF14 hF15 hF16 | with_reducible exact yf_fb_M_expression_31 (by assumption) hF0 hF1 hF2 hF3 hF4 hF5 hF6 hF7 hF8 hF9 hF10 hF11 hF12 hF13 hF14 hF15 hF16 | with_reducible exact yf_fb_M_expression_0 (by assumption) hF0 hF1 hF2 hF3 hF4 hF5 hF6 hF7 hF8 hF9 hF10 hF11 hF12 hF13 hF14 hF15 hF16 | with_reducible refine Kf_ltv (fun _ => ?_) | with_reducible refine Kf_I ?_ (by decide) | with_reducible refine Kf_A ?_ | with_reducible refine Kf_J ?_ | with_reducible refine Kf_L ?_)
    cases hb : bUK (K p) with
    | false =>
      rw [show decide (b2c false = 0) = true from rfl, br_tq, br_tq, br_fq]
      by_cases z9 : K p = 9
      · rw [decide_eq_true z9, br_tq, isV_e (k := 9) (s := 4) hwp (by decide) rfl, bnd_s, if_pos z9, show decide ((1 : Int32) = 0) = false from rfl, br_fq]
        have := go (Or.inr z9)
        rw [decide_eq_true z9] at this
        exact this
      · rw [decide_eq_false z9, br_fq, isV_e (k := 9) (s := 4) hwp (by decide) rfl, bnd_s, if_neg z9, show decide ((0 : Int32) = 0) = true from rfl, br_tq]
        refine pp_rf (RFS_T (opens_0 hc)) (fun m' => ?_)
        exact pk_bnd (fun v r z => pk_some (wrong_s (u0 := w) (by decide) v r z))
    | true =>
      rw [show decide (b2c true = 0) = false from rfl, br_fq, br_fq]
      exact go (Or.inl hb)
end
