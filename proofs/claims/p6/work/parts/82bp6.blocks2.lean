set_option maxRecDepth 100000
section
variable {α : Type} {R : MS → Int32 ⊕ Nat → MS → Int32 → Prop} {A : Option (MS × α)} {m0 w0 m w v u m2 m3 w2 x y z mF mB wB mp mg : MS} {K nm Nk W W1 W2 WA WB : Nat → Nat} {T p n N q q1 X Y X1 X2 XA n0 n1 n2 n3 lo lo2 l1 l2 np ng p0 p2 p4 ν μ π a b L L' k d o oo M D s kd j j2 : Nat} {sc sc1 sc2 sc3 sc4 sc5 t t2 t3 t4 t5 : SCT} {e e2 e3 e4 e5 : List Nat × List Nat × Nat} {gd Rf Rg Zf R1 Z1 own cs : Bool} {BC : MS → Prop} {v1 v2 v3 v4 v5 v6 v1c r ξ φ ca cb cc : Int32} {S : SG_M_behind} {NC : Nat → Prop} {CL CM CL1 : Int32 × Int32 × Int32 → Prop} {l lp lg : List Nat}
theorem bnd_id {o : Option (MS × Int32)} : bnd o (fun u r => some (u, r)) = o := by
  cases o with
  | none => rfl
  | some o => rfl
theorem node_25 {kd tk : Int32} : PK (fun v r => v.2.2.1 25 r.toNatClampNeg = -1) (fm_M_node N w kd tk) := by
  refine pk_mo (pk_and (node_p (N := N) (w := w) (kd := kd) (tk := tk)) (Q2 := fun v r => v.2.2.1 25 (w.1 32).toNatClampNeg = -1) ?_) (fun v r h => ?_)
  · show PK _ (fb_M_node_0 N () w kd tk)
    unfold fb_M_node_0
    refine pk_ck (fun _ => pk_lt (pk_ck (fun _ => pk_lt (pk_ck (fun _ => pk_lt (pk_ck (fun _ => pk_lt (pk_ck (fun _ => pk_lt (pk_ck (fun _ => pk_lt (pk_ck (fun _ => pk_lt (pk_ck (fun _ => pk_lt (pk_lt (pk_some ?_)))))))))))))))))
    show (upA _ 30 _).2.2.1 25 _ = -1
    rw [upA_no (by decide), upA_no (by decide), upA_no (by decide), upA_no (by decide), upA_no (by decide), upA_at]
    exact upd_at
  · obtain ⟨⟨a, h1, -⟩, h2⟩ := h
    rw [h1.1] at h2
    rw [h1.2.2.1]
    exact h2
theorem prt_x (h : CP m K T p) (c45 : K p ≠ 45) (hb : bPK (K p) = false) : ∀ D, (hrc_Pa_matched N D).2.2.2.2.2.2.2.1 m 1 = none ∨ RFS ((hrc_Pa_matched N D).2.2.2.2.2.2.2.1 m 1)
  | 0 => Or.inl rfl
  | D + 1 => by
    show hb_Pa_parts_0 N (hrc_Pa_matched N D) (hg_Pa_parts N (hrc_Pa_matched N D) N) m 1 = none ∨ RFS (hb_Pa_parts_0 N (hrc_Pa_matched N D) (hg_Pa_parts N (hrc_Pa_matched N D) N) m 1)
    unfold hb_Pa_parts_0
    rw [show decide ((1 : Int32) = 0) = false from rfl, br_fq]
    cases D with
    | zero => exact Or.inl rfl
    | succ D =>
      show bTm (bTm ((hrc_Pa_matched N D).2.2.2.2.2.2.2.2.2.2.2.2.2.2.2.2.2.1 m) _) _ = none ∨ RFS (bTm (bTm ((hrc_Pa_matched N D).2.2.2.2.2.2.2.2.2.2.2.2.2.2.2.2.2.1 m) _) _)
      cases D with
      | zero => exact Or.inl rfl
      | succ D =>
        refine Or.inr (RFS_T (RFS_T ?_))
        show RFS (hb_Pa_pattern_0 N (hrc_Pa_matched N D) () m)
        unfold hb_Pa_pattern_0
        have k46 := h.1.1.k46 h.2.2
        rw [look_e h c45, bTm_l, bP_e k46, bnd_s, hb]
        exact RFS_T (opens_0 h)
theorem pp_x {β : Type} {R : MS → Int32 ⊕ Nat → MS → β → Prop} {a : Option (MS × (Int32 ⊕ Nat))} {b : Option (MS × β)} {f : MS → Int32 → Option (MS × (Int32 ⊕ Nat))} (h : a = none ∨ RFS a) (h2 : ∀ m, PK (fun v r => R m (.inr 3) v r) b) : PP R (bTm a f) b := by
  rcases h with h | h
  · rw [h]; exact pp_nl
  · exact pp_rf (RFS_T h) h2
theorem rcv_pp (c : CTZ m0 w0 K T nm Nk) (c45 : ∀ p, p ≤ T → K p ≠ 45) (hE : HE N m0 w0 K T nm Nk d) (hB : HBo N m0 w0 K T nm Nk d) (hPa : HPa N m0 w0 K T nm Nk true d) (h : RLP m0 w0 T p m w) (hn : m.1 306 = I (n : Nat)) (hn2 : n ≤ 2 * p) (hR : RNs w (e :: t)) (nd : ND w) (h70 : w.1 70 = I ((o + 1 : Nat) : Int)) (ho : o + 1 ≤ 25) (h73 : w.1 73 = 0) (k17 : K p = 17) : PP (EXB N m0 w0 K T nm Nk p n (e :: t) o m w) (hb_Pa_receive_0 N (hrc_Pa_matched N D) () m) (fb_M_receive_0 N (rc_M_behind N d) () (adv w p) (I (p : Nat)) (I (e.1.length : Nat))) := by
  have T4 := c.1.1.1
  have pl : p < T := TWK_lt c h.2.2.2.2.1 (by omega) (by omega)
  have e1400 := e1400_p hR
  have s0 := STQ_0 (K := K) (Nk := Nk) (gd := false) (W := fun _ => 32) h hn hR nd
  have s1 := STQ_ad s0 pl (by omega)
  have aI : ∀ k, k ≠ 69 → (adv w p).1 k = w.1 k := fun k hk => by unfold adv; rw [upI_ne hk]
  have hcm := RLP_c c h
  unfold hb_Pa_receive_0 fb_M_receive_0
  rw [hcm.2.1, i_suc]
  refine l_lt ?_
  refine r_bnd (pk_mo (KDN_nd (v1 := 26) (by decide)) (fun u1 r23 h1 => ?_))
  obtain ⟨n1, h169, a23, e1, e1', k1⟩ := h1
  have s2 := STQ_s s1 n1 h169
  refine r_bnd (pk_mo (pk_and (KDN_nd (v1 := 27) (by decide)) (node_25 (N := N))) (fun u2 r24 h2 => ?_))
  obtain ⟨⟨n2', h269, a24, e2, e2', k2⟩, h25⟩ := h2
  have s3 := STQ_s s2 n2' h269
  have k3 := KDN_s n2' k1
  rw [e2'] at h25
  rw [e2', e1, e2]
  refine r_ck (fun _ => r_lt ?_)
  obtain ⟨sb1, kb1⟩ := KDN_b (k' := 27) (ξ := I (e.1.length : Nat)) k2 k3 (Or.inr (Or.inr rfl))
  have kc1 := (KDN_b (k' := 27) (ξ := I (e.1.length : Nat)) k2 k2 (Or.inr (Or.inr rfl))).2
  have s4 := STQ_s s3 sb1 rfl
  have g1 : (upA u2 27 (upd (u2.2.2.1 27) a24 (I (e.1.length : Nat)))).1 = u2.1 := rfl
  have f1 : (upA u2 27 (upd (u2.2.2.1 27) a24 (I (e.1.length : Nat)))).2.2.1 25 a24 = -1 := by rw [upA_no (by decide)]; exact h25
  generalize upA u2 27 (upd (u2.2.2.1 27) a24 (I (e.1.length : Nat))) = x1 at sb1 kb1 kc1 s4 g1 f1 ⊢
  refine r_ck (fun _ => r_lt ?_)
  have sm2 : SMS x1 (upA x1 31 (upd (x1.2.2.1 31) a24 (-1))) := SMS_A SMS_rf (by unfold SMX; omega) (by omega)
  have s5 := STQ_s s4 sm2 rfl
  have kb2 := KDN_s sm2 kb1
  have kc2 := KDN_s sm2 kc1
  have g2 : (upA x1 31 (upd (x1.2.2.1 31) a24 (-1))).1 = x1.1 := rfl
  have f2 : (upA x1 31 (upd (x1.2.2.1 31) a24 (-1))).2.2.1 25 a24 = -1 := by rw [upA_no (by decide)]; exact f1
  generalize upA x1 31 (upd (x1.2.2.1 31) a24 (-1)) = x2 at sm2 kb2 kc2 s5 g2 f2 ⊢
  have x70 : x2.1 70 = I ((o + 1 : Nat) : Int) := by rw [g2, g1, n2'.1 70 (by decide), n1.1 70 (by decide), aI 70 (by decide)]; exact h70
  have x73 : x2.1 73 = 0 := by rw [g2, g1, n2'.1 73 (by decide), n1.1 73 (by decide), aI 73 (by decide)]; exact h73
  have hc := RLP_c c s5.1
  have hw := RLP_w c s5.1
  have h0 := s5.1.2.2.2.2.2.2
  have qT := s5.1.2.2.2.2.1
  have k46 := hc.1.1.k46 hc.2.2
  obtain ⟨ca, j1, j1', j3, j4⟩ := id kc2
  show PP _ (bTm (hm_Pa_look N (advc m p)) _) _
  rw [look_e hc (c45 _ qT), bTm_l, isV_e (k := 5) (s := 0) hw (by decide) rfl, bnd_s, I_dn (a := K (p + 1)) (b := 5) (s := 5) (by omega) (by decide) rfl]
  by_cases k5 : K (p + 1) = 5
  · rw [decide_eq_true k5, br_tq, if_pos k5, show decide ((1 : Int32) = 0) = false from rfl, br_fq]
    unfold hb_Pa_receive_32 fb_M_receive_67
    rw [look_e hc (c45 _ qT), bTm_l, I_dn (a := K (p + 1)) (b := 5) (s := 5) (by omega) (by decide) rfl, decide_eq_true k5, br_tq, decide_eq_true h0, br_tq, isV_e (k := 5) (s := 0) hw (by decide) rfl, bnd_s, if_pos k5, show decide ((1 : Int32) = 0) = false from rfl, br_fq, hc.2.1, i_suc]
    have go := rc_af (D := D) (o := o) (l := []) (s := 0 + 2) c hE hB s5 hn2 (by omega) k5 x70 ho x73 e1400 kb2 kc2 ⟨rfl, rfl, rfl, rfl, rfl, fun _ => BCo_no⟩ rfl k17
    refine l_lt (r_ck (fun _ => r_br (fun _ => go) (fun _ => go)))
  · rw [decide_eq_false k5, br_fq, if_neg k5, show decide ((0 : Int32) = 0) = true from rfl, br_tq, isV_e (k := 11) (s := 6) hw (by decide) rfl, bnd_s]
    by_cases k11 : K (p + 1) = 11
    · rw [if_pos k11, show decide ((1 : Int32) = 0) = false from rfl, br_fq]
      refine pp_x (prt_x hc (c45 _ qT) (by rw [k11]; rfl) D) (fun mm => ?_)
      unfold fb_M_receive_67
      rw [decide_eq_true h0, br_tq, tnI (n := a24) rfl (by omega), f2, show decide ((-1 : Int32) = -1) = true from rfl, br_tq, isV_e (k := 5) (s := 0) hw (by decide) rfl, bnd_s, if_neg k5, show decide ((0 : Int32) = 0) = true from rfl, br_tq]
      refine pk_ck (fun _ => pk_bnd (fun v r z => ?_))
      have hz : Kfc v v := wrong_s (u0 := x2) (by decide) v r z
      refine Kf_pk (u0 := v) ?_
      obtain ⟨hF0, hF1, hF2, hF3, hF4, hF5, hF6, hF7, hF8, hF9, hF10, hF11, hF12, hF13, hF14, hF15, hF16⟩ := yf_rc_M_behind (u0 := v) (N := N) d
      repeat' (first | with_reducible assumption | with_reducible refine Kf_br ?_ ?_ | with_reducible refine Kf_bnd ?_ (fun _ _ _ => ?_) | with_reducible refine Kf_ck ?_ | with_reducible refine Kf_ltm ?_ (fun _ _ => ?_) | with_reducible refine Kf_some ?_ | with_reducible refine Kf_bo (fun _ => ?_) | with_reducible exact yf_fm_M_node (by assumption) | with_reducible exact yf_fm_M_pattern (by assumption) | with_reducible exact yf_fm_M_wrong (by assumption) | with_reducible exact yf_fm_M_rule (by assumption) | with_reducible exact yf_fm_M_isSign (by assumption) | with_reducible exact yf_fm_M_isWord (by assumption) | with_reducible exact yf_fm_M_takeSign (by assumption) | with_reducible exact yf_fm_M_takeWord (by assumption) | with_reducible exact yf_fm_M_needSign (by assumption) | with_reducible exact yf_fm_M_needWord (by assumption) | with_reducible exact yf_fm_M_opens (by assumption) | with_reducible exact yf_fm_M_boundIn (by assumption) | with_reducible exact yf_fr_M_found (by assumption) | with_reducible exact yf_fm_M_bind (by assumption) | with_reducible exact yf_fm_M_isUnderscore (by assumption) | with_reducible exact yf_fm_M_unbind (by assumption) | with_reducible exact yf_fm_M_term (by assumption) | with_reducible exact yf_fm_M_namePattern (by assumption) | with_reducible exact yf_fr_M_patternAt (by assumption) | with_reducible exact yf_fm_M_beginsUnit (by assumption) | with_reducible exact yf_fm_M_save (by assumption) | with_reducible exact yf_fm_M_addRoot (by assumption) | with_reducible exact yf_fm_M_level (by assumption) | with_reducible exact yf_fm_M_reduce (by assumption) | with_reducible exact yf_fm_M_takeBack (by assumption) | with_reducible exact yf_fm_M_forgetSaved (by assumption) | with_reducible exact yf_fr_M_last (by assumption) | with_reducible exact yf_fr_M_clause (by assumption) | with_reducible exact yf_fm_M_predefinedOf (by assumption) | with_reducible exact yf_fm_M_function0 (by assumption) | with_reducible exact yf_fm_M_program (by assumption) | with_reducible exact hF0 _ (by assumption) | with_reducible exact hF1 _ _ (by assumption) | with_reducible exact hF2 _ _ _ (by assumption) | with_reducible exact hF3 _ _ _ (by assumption) | with_reducible exact hF4 _ (by assumption) | with_reducible exact hF5 _ _ (by assumption) | with_reducible exact hF6 _ _ (by assumption) | with_reducible exact hF7 _ _ (by assumption) | with_reducible exact hF8 _ _ (by assumption) | with_reducible exact hF9 _ (by assumption) | with_reducible exact hF10 _ (by assumption) | with_reducible exact hF11 _ (by assumption) | with_reducible exact hF12 _ (by assumption) | with_reducible exact hF13 _ (by assumption) | with_reducible exact hF14 _ (by assumption) | with_reducible exact hF15 _ (by assumption) | with_reducible exact hF16 _ _ (by assumption) | with_reducible exact yf_fb_M_receive_237 (by assumption) hF0 hF1 hF2 hF3 hF4 hF5 hF6 hF7 hF8 hF9 hF10 hF11 hF12 hF13 hF14 hF15 hF16 | with_reducible exact yf_fb_M_receive_98 (by assumption) hF0 hF1 hF2 hF3 hF4 hF5 hF6 hF7 hF8 hF9 hF10 hF11 hF12 hF13 hF14 hF15 hF16 | with_reducible exact yf_fb_M_receive_67 (by assumption) hF0 hF1 hF2 hF3 hF4 hF5 hF6 hF7 hF8 hF9 hF10 hF11 hF12 hF13 hF14 hF15 hF16 | with_reducible exact yf_fb_M_receive_0 (by assumption) hF0 hF1 hF2 hF3 hF4 hF5 hF6 hF7 hF8 hF9 hF10 hF11 hF12 hF13 hF14 hF15 hF16 | with_reducible refine Kf_ltv (fun _ => ?_) | with_reducible refine Kf_I ?_ (by decide) | with_reducible refine Kf_A ?_ | with_reducible refine Kf_J ?_ | with_reducible refine Kf_L ?_)
    · rw [if_neg k11, show decide ((0 : Int32) = 0) = true from rfl, br_tq]
      refine pp_bTn (hPa D (advc m p) x2 (p + 1) n e t (o + 1) _ s5.1 s5.2.1.2.1 (by omega) (STQ_rn s5) (STQ_nd s5) x70 ho x73) (fun m3 φ u29 r29 hz => ?_) (fun m3 kk u29 r29 hz => ?_)
      · obtain ⟨rn, l, q, n3, sc3, X3, W3, R3, Z3, CL3, d1, d2, d3, stp, d5, d6, d7⟩ := hz
        have f7 := stp.2.2.2.2.1.2.2.2.2.2.2.1
        have nb3 := stp.2.1
        rw [d1]
        have kb3 := KDN_st stp.2.2.2.2.1 kb2
        have kc3 := KDN_st stp.2.2.2.2.1 kc2
        have s6 := STQ_tr s5 stp
        refine r_ck (fun _ => r_lt ?_)
        obtain ⟨sb4, kb4⟩ := KDN_b (k' := 25) (ξ := r29) kc3 kb3 (Or.inl rfl)
        have kc4 := (KDN_b (k' := 25) (ξ := r29) kc3 kc3 (Or.inl rfl)).2
        have s7 := STQ_s s6 sb4 rfl
        have g4 : (upA u29 25 (upd (u29.2.2.1 25) a24 r29)).1 = u29.1 := rfl
        have f4 : (upA u29 25 (upd (u29.2.2.1 25) a24 r29)).2.2.1 25 a24 = r29 := by rw [upA_at, upd_at]
        generalize upA u29 25 (upd (u29.2.2.1 25) a24 r29) = x3 at sb4 kb4 kc4 s7 g4 f4 ⊢
        have y70 : x3.1 70 = I ((o + 1 : Nat) : Int) := by rw [g4, f7.1 70 (by decide)]; exact x70
        have y73 : x3.1 73 = 0 := by rw [g4, f7.1 73 (by decide)]; exact x73
        have hc7 := RLP_c c s7.1
        have h07 := s7.1.2.2.2.2.2.2
        have q7T := s7.1.2.2.2.2.1
        have k467 := hc7.1.1.k46 hc7.2.2
        unfold hb_Pa_receive_32 fb_M_receive_67
        rw [look_e hc7 (c45 _ q7T), bTm_l, I_dn (a := K q) (b := 5) (s := 5) (by omega) (by decide) rfl, decide_eq_true h07, br_tq, tnI (n := a24) rfl (by omega), f4, decide_eq_false rn, br_fq]
        refine r_ck (fun _ => ?_)
        have hp2 : PLW N K nm m3 n n3 (mrg (p + 1) (fun _ => 32) W3) e.1.length l (p + 1) q (e :: t) sc3 (max 0 X3) (false || R3) (false || Z3) (BCo N (fun x => False ∨ CL3 x)) := by
          rw [Nat.zero_max, Bool.false_or, Bool.false_or, BCo_e (fun x => ⟨fun z => z.elim False.elim id, Or.inr⟩)]
          exact PLW_w (fun j h1 _ => mrg_r h1) d5
        by_cases kq5 : K q = 5
        · rw [decide_eq_true kq5, br_tq, hc7.2.1, i_suc]
          exact l_lt (rc_af (D := D) (o := o) (l := l) c hE hB s7 hn2 (by omega) kq5 y70 ho y73 e1400 kb4 kc4 hp2 d6 k17)
        · rw [decide_eq_false kq5, br_fq]
          exact rc_no (D := D) (o := o) (l := l) (b := e.1.length) c s7 (by omega) hn2 (by omega) kq5 kb4 kc4 d2 hp2 k17
      · have hz : Kfc u29 u29 := hz
        refine Kf_pk (u0 := u29) ?_
        obtain ⟨hF0, hF1, hF2, hF3, hF4, hF5, hF6, hF7, hF8, hF9, hF10, hF11, hF12, hF13, hF14, hF15, hF16⟩ := yf_rc_M_behind (u0 := u29) (N := N) d
        repeat' (first | with_reducible assumption | with_reducible refine Kf_br ?_ ?_ | with_reducible refine Kf_bnd ?_ (fun _ _ _ => ?_) | with_reducible refine Kf_ck ?_ | with_reducible refine Kf_ltm ?_ (fun _ _ => ?_) | with_reducible refine Kf_some ?_ | with_reducible refine Kf_bo (fun _ => ?_) | with_reducible exact yf_fm_M_node (by assumption) | with_reducible exact yf_fm_M_pattern (by assumption) | with_reducible exact yf_fm_M_wrong (by assumption) | with_reducible exact yf_fm_M_rule (by assumption) | with_reducible exact yf_fm_M_isSign (by assumption) | with_reducible exact yf_fm_M_isWord (by assumption) | with_reducible exact yf_fm_M_takeSign (by assumption) | with_reducible exact yf_fm_M_takeWord (by assumption) | with_reducible exact yf_fm_M_needSign (by assumption) | with_reducible exact yf_fm_M_needWord (by assumption) | with_reducible exact yf_fm_M_opens (by assumption) | with_reducible exact yf_fm_M_boundIn (by assumption) | with_reducible exact yf_fr_M_found (by assumption) | with_reducible exact yf_fm_M_bind (by assumption) | with_reducible exact yf_fm_M_isUnderscore (by assumption) | with_reducible exact yf_fm_M_unbind (by assumption) | with_reducible exact yf_fm_M_term (by assumption) | with_reducible exact yf_fm_M_namePattern (by assumption) | with_reducible exact yf_fr_M_patternAt (by assumption) | with_reducible exact yf_fm_M_beginsUnit (by assumption) | with_reducible exact yf_fm_M_save (by assumption) | with_reducible exact yf_fm_M_addRoot (by assumption) | with_reducible exact yf_fm_M_level (by assumption) | with_reducible exact yf_fm_M_reduce (by assumption) | with_reducible exact yf_fm_M_takeBack (by assumption) | with_reducible exact yf_fm_M_forgetSaved (by assumption) | with_reducible exact yf_fr_M_last (by assumption) | with_reducible exact yf_fr_M_clause (by assumption) | with_reducible exact yf_fm_M_predefinedOf (by assumption) | with_reducible exact yf_fm_M_function0 (by assumption) | with_reducible exact yf_fm_M_program (by assumption) | with_reducible exact hF0 _ (by assumption) | with_reducible exact hF1 _ _ (by assumption) | with_reducible exact hF2 _ _ _ (by assumption) | with_reducible exact hF3 _ _ _ (by assumption) | with_reducible exact hF4 _ (by assumption) | with_reducible exact hF5 _ _ (by assumption) | with_reducible exact hF6 _ _ (by assumption) | with_reducible exact hF7 _ _ (by assumption) | with_reducible exact hF8 _ _ (by assumption) | with_reducible exact hF9 _ (by assumption) | with_reducible exact hF10 _ (by assumption) | with_reducible exact hF11 _ (by assumption) | with_reducible exact hF12 _ (by assumption) | with_reducible exact hF13 _ (by assumption) | with_reducible exact hF14 _ (by assumption) | with_reducible exact hF15 _ (by assumption) | with_reducible exact hF16 _ _ (by assumption) | with_reducible exact yf_fb_M_receive_237 (by assumption) hF0 hF1 hF2 hF3 hF4 hF5 hF6 hF7 hF8 hF9 hF10 hF11 hF12 hF13 hF14 hF15 hF16 | with_reducible exact yf_fb_M_receive_98 (by assumption) hF0 hF1 hF2 hF3 hF4 hF5 hF6 hF7 hF8 hF9 hF10 hF11 hF12 hF13 hF14 hF15 hF16 | with_reducible exact yf_fb_M_receive_67 (by assumption) hF0 hF1 hF2 hF3 hF4 hF5 hF6 hF7 hF8 hF9 hF10 hF11 hF12 hF13 hF14 hF15 hF16 | with_reducible exact yf_fb_M_receive_0 (by assumption) hF0 hF1 hF2 hF3 hF4 hF5 hF6 hF7 hF8 hF9 hF10 hF11 hF12 hF13 hF14 hF15 hF16 | with_reducible refine Kf_ltv (fun _ => ?_) | with_reducible refine Kf_I ?_ (by decide) | with_reducible refine Kf_A ?_ | with_reducible refine Kf_J ?_ | with_reducible refine Kf_L ?_)
theorem HBl_s (c : CTZ m0 w0 K T nm Nk) (c45 : ∀ p, p ≤ T → K p ≠ 45) (hE : ∀ d', d' ≤ d → HE N m0 w0 K T nm Nk d') (hB : ∀ d', d' ≤ d → HBo N m0 w0 K T nm Nk d') (hPa : ∀ d', d' ≤ d → ∀ cs, HPa N m0 w0 K T nm Nk cs d') : HBl N m0 w0 K T nm Nk (d + 1) := by
  intro D m w p n sc o h hn hn2 hR nd h70 ho h73 hk1 hk2 hk12
  show PP _ (hb_Pa_primary_0 N (hrc_Pa_matched N D) () m) (fb_M_block_0 N (rc_M_behind N d) () w (I (p : Nat)))
  have T4 := c.1.1.1
  have pl : p < T := TWK_lt c h.2.2.2.2.1 (by omega) (by omega)
  have hc := RLP_c c h
  have hw := RLP_w c h
  have hl : 1 ≤ sc.length ∧ sc.length ≤ 27 := hR.2.1
  cases sc with
  | nil => exact absurd hl.1 (by decide)
  | cons e t =>
  unfold hb_Pa_primary_0 fb_M_block_0
  have w7 : w.2.2.1 7 (w.1 69).toNatClampNeg = I (svK (K p) : Nat) := by
    rw [h.2.2.2.1, tnI (n := p) rfl (by omega)]
    exact hw.1.2.2 p pl (by omega)
  rw [look_e hc (c45 _ h.2.2.2.2.1), bTm_l, e60_p hR, w7]
  refine r_ck (fun _ => r_lt (r_ck (fun _ => r_lt ?_)))
  have ref : ∀ {f : MS → Unit → Option (MS × (Int32 ⊕ Nat))}, K p ≠ 7 → K p ≠ 8 → K p ≠ 13 → K p ≠ 17 → PP (EXB N m0 w0 K T nm Nk p n (e :: t) o m w) (bTm (hm_Pa_refuse N m 2) f) (br (decide (I ((svK (K p) : Nat) : Int) = 2)) (fb_M_block_49 N (rc_M_behind N d) () w (I (p : Nat)) (I (e.1.length : Nat)) (I ((svK (K p) : Nat) : Int))) (br (decide (I ((svK (K p) : Nat) : Int) = 3)) (fb_M_block_49 N (rc_M_behind N d) () w (I (p : Nat)) (I (e.1.length : Nat)) (I ((svK (K p) : Nat) : Int))) (br (decide (I ((svK (K p) : Nat) : Int) = 8)) (fb_M_block_49 N (rc_M_behind N d) () w (I (p : Nat)) (I (e.1.length : Nat)) (I ((svK (K p) : Nat) : Int))) (br (decide (I ((svK (K p) : Nat) : Int) = 12)) (fb_M_block_49 N (rc_M_behind N d) () w (I (p : Nat)) (I (e.1.length : Nat)) (I ((svK (K p) : Nat) : Int))) (bnd (fm_M_wrong N w 2) (fun u21 _ => some (u21, (-1)))))))) := fun {f} z7 z8 z13 z17 => by
    have ne : ∀ i, 5 ≤ i → i ≤ 19 → K p ≠ i → ¬ (I ((svK (K p) : Nat) : Int) = I (svK i : Nat)) := fun i i1 i2 z y => z ((svK_w (K p) (by omega) i (by omega) hk1 i1).mp y)
    rw [show decide (I ((svK (K p) : Nat) : Int) = 2) = false from decide_eq_false (ne 7 (by decide) (by decide) z7), br_fq, show decide (I ((svK (K p) : Nat) : Int) = 3) = false from decide_eq_false (ne 8 (by decide) (by decide) z8), br_fq, show decide (I ((svK (K p) : Nat) : Int) = 8) = false from decide_eq_false (ne 13 (by decide) (by decide) z13), br_fq, show decide (I ((svK (K p) : Nat) : Int) = 12) = false from decide_eq_false (ne 17 (by decide) (by decide) z17), br_fq]
    refine pp_rf (RFS_T (rfs_e hc)) (fun m' => ?_)
    exact pk_bnd (fun v r z => pk_some (wrong_s (u0 := w) (by decide) v r z))
  have kk : K p = 5 ∨ K p = 6 ∨ K p = 7 ∨ K p = 8 ∨ K p = 9 ∨ K p = 10 ∨ K p = 11 ∨ K p = 13 ∨ K p = 14 ∨ K p = 15 ∨ K p = 16 ∨ K p = 17 ∨ K p = 18 ∨ K p = 19 := by omega
  rcases kk with z | z | z | z | z | z | z | z | z | z | z | z | z | z
  · have := ref (f := fun u7 r7 => some (u7, .inl 0)) (by omega) (by omega) (by omega) (by omega)
    rw [z] at this ⊢
    rw [show decide (I ((5 : Nat) : Int) = 1) = false from rfl, br_fq, show decide (I ((5 : Nat) : Int) = 2) = false from rfl, br_fq, show decide (I ((5 : Nat) : Int) = 3) = false from rfl, br_fq, show decide (I ((5 : Nat) : Int) = 4) = false from rfl, br_fq, show decide (I ((5 : Nat) : Int) = 5) = true from rfl, br_tq]
    exact this
  · have := ref (f := fun u7 r7 => some (u7, .inl 0)) (by omega) (by omega) (by omega) (by omega)
    rw [z] at this ⊢
    rw [show decide (I ((6 : Nat) : Int) = 1) = false from rfl, br_fq, show decide (I ((6 : Nat) : Int) = 2) = false from rfl, br_fq, show decide (I ((6 : Nat) : Int) = 3) = false from rfl, br_fq, show decide (I ((6 : Nat) : Int) = 4) = false from rfl, br_fq, show decide (I ((6 : Nat) : Int) = 5) = false from rfl, br_fq, show decide (I ((6 : Nat) : Int) = 6) = true from rfl, br_tq]
    exact this
  · rw [z, show decide (I ((7 : Nat) : Int) = 1) = false from rfl, br_fq, show decide (I ((7 : Nat) : Int) = 2) = false from rfl, br_fq, show decide (I ((7 : Nat) : Int) = 3) = false from rfl, br_fq, show decide (I ((7 : Nat) : Int) = 4) = false from rfl, br_fq, show decide (I ((7 : Nat) : Int) = 5) = false from rfl, br_fq, show decide (I ((7 : Nat) : Int) = 6) = false from rfl, br_fq, show decide (I ((7 : Nat) : Int) = 7) = true from rfl, br_tq, hc.2.1, i_suc, show decide (I ((svK 7 : Nat) : Int) = 2) = true from rfl, br_tq]
    exact l_lt (beg_pp c (hB d (Nat.le_refl _)) h hn hn2 hR nd h70 ho h73 z)
  · rw [z, show decide (I ((8 : Nat) : Int) = 1) = false from rfl, br_fq, show decide (I ((8 : Nat) : Int) = 2) = false from rfl, br_fq, show decide (I ((8 : Nat) : Int) = 3) = false from rfl, br_fq, show decide (I ((8 : Nat) : Int) = 4) = false from rfl, br_fq, show decide (I ((8 : Nat) : Int) = 5) = false from rfl, br_fq, show decide (I ((8 : Nat) : Int) = 6) = false from rfl, br_fq, show decide (I ((8 : Nat) : Int) = 7) = false from rfl, br_fq, show decide (I ((8 : Nat) : Int) = 8) = true from rfl, br_tq, show decide (I ((svK 8 : Nat) : Int) = 2) = false from rfl, br_fq, show decide (I ((svK 8 : Nat) : Int) = 3) = true from rfl, br_tq, bTm_id]
    cases D with
    | zero => exact pp_nl
    | succ D =>
      show PP _ (hb_Pa_caseOf_0 N (hrc_Pa_matched N D) () m) _
      unfold hb_Pa_caseOf_0
      rw [hc.2.1, i_suc]
      exact l_lt (cse_pp c (hE d (Nat.le_refl _)) (hPa d (Nat.le_refl _) true) h hn hn2 hR nd h70 ho h73 z)
  · have := ref (f := fun u7 r7 => some (u7, .inl 0)) (by omega) (by omega) (by omega) (by omega)
    rw [z] at this ⊢
    rw [show decide (I ((9 : Nat) : Int) = 1) = false from rfl, br_fq, show decide (I ((9 : Nat) : Int) = 2) = false from rfl, br_fq, show decide (I ((9 : Nat) : Int) = 3) = false from rfl, br_fq, show decide (I ((9 : Nat) : Int) = 4) = false from rfl, br_fq, show decide (I ((9 : Nat) : Int) = 5) = false from rfl, br_fq, show decide (I ((9 : Nat) : Int) = 6) = false from rfl, br_fq, show decide (I ((9 : Nat) : Int) = 7) = false from rfl, br_fq, show decide (I ((9 : Nat) : Int) = 8) = false from rfl, br_fq, show decide (I ((9 : Nat) : Int) = 9) = true from rfl, br_tq]
    exact this
  · have := ref (f := fun u7 r7 => some (u7, .inl 0)) (by omega) (by omega) (by omega) (by omega)
    rw [z] at this ⊢
    rw [show decide (I ((10 : Nat) : Int) = 1) = false from rfl, br_fq, show decide (I ((10 : Nat) : Int) = 2) = false from rfl, br_fq, show decide (I ((10 : Nat) : Int) = 3) = false from rfl, br_fq, show decide (I ((10 : Nat) : Int) = 4) = false from rfl, br_fq, show decide (I ((10 : Nat) : Int) = 5) = false from rfl, br_fq, show decide (I ((10 : Nat) : Int) = 6) = false from rfl, br_fq, show decide (I ((10 : Nat) : Int) = 7) = false from rfl, br_fq, show decide (I ((10 : Nat) : Int) = 8) = false from rfl, br_fq, show decide (I ((10 : Nat) : Int) = 9) = false from rfl, br_fq, show decide (I ((10 : Nat) : Int) = 10) = true from rfl, br_tq]
    exact this
  · have := ref (f := fun u7 r7 => some (u7, .inl 0)) (by omega) (by omega) (by omega) (by omega)
    rw [z] at this ⊢
    rw [show decide (I ((11 : Nat) : Int) = 1) = false from rfl, br_fq, show decide (I ((11 : Nat) : Int) = 2) = false from rfl, br_fq, show decide (I ((11 : Nat) : Int) = 3) = false from rfl, br_fq, show decide (I ((11 : Nat) : Int) = 4) = false from rfl, br_fq, show decide (I ((11 : Nat) : Int) = 5) = false from rfl, br_fq, show decide (I ((11 : Nat) : Int) = 6) = false from rfl, br_fq, show decide (I ((11 : Nat) : Int) = 7) = false from rfl, br_fq, show decide (I ((11 : Nat) : Int) = 8) = false from rfl, br_fq, show decide (I ((11 : Nat) : Int) = 9) = false from rfl, br_fq, show decide (I ((11 : Nat) : Int) = 10) = false from rfl, br_fq, show decide (I ((11 : Nat) : Int) = 11) = true from rfl, br_tq]
    exact this
  · rw [z, show decide (I ((13 : Nat) : Int) = 1) = false from rfl, br_fq, show decide (I ((13 : Nat) : Int) = 2) = false from rfl, br_fq, show decide (I ((13 : Nat) : Int) = 3) = false from rfl, br_fq, show decide (I ((13 : Nat) : Int) = 4) = false from rfl, br_fq, show decide (I ((13 : Nat) : Int) = 5) = false from rfl, br_fq, show decide (I ((13 : Nat) : Int) = 6) = false from rfl, br_fq, show decide (I ((13 : Nat) : Int) = 7) = false from rfl, br_fq, show decide (I ((13 : Nat) : Int) = 8) = false from rfl, br_fq, show decide (I ((13 : Nat) : Int) = 9) = false from rfl, br_fq, show decide (I ((13 : Nat) : Int) = 10) = false from rfl, br_fq, show decide (I ((13 : Nat) : Int) = 11) = false from rfl, br_fq, show decide (I ((13 : Nat) : Int) = 12) = false from rfl, br_fq, show decide (I ((13 : Nat) : Int) = 13) = true from rfl, br_tq, hc.2.1, i_suc, show decide (I ((svK 13 : Nat) : Int) = 2) = false from rfl, br_fq, show decide (I ((svK 13 : Nat) : Int) = 3) = false from rfl, br_fq, show decide (I ((svK 13 : Nat) : Int) = 8) = true from rfl, br_tq]
    exact l_lt (if_pp c (hPa d (Nat.le_refl _) false) h hn hn2 hR nd h70 ho h73 z)
  · have := ref (f := fun u7 r7 => some (u7, .inl 0)) (by omega) (by omega) (by omega) (by omega)
    rw [z] at this ⊢
    rw [show decide (I ((14 : Nat) : Int) = 1) = false from rfl, br_fq, show decide (I ((14 : Nat) : Int) = 2) = false from rfl, br_fq, show decide (I ((14 : Nat) : Int) = 3) = false from rfl, br_fq, show decide (I ((14 : Nat) : Int) = 4) = false from rfl, br_fq, show decide (I ((14 : Nat) : Int) = 5) = false from rfl, br_fq, show decide (I ((14 : Nat) : Int) = 6) = false from rfl, br_fq, show decide (I ((14 : Nat) : Int) = 7) = false from rfl, br_fq, show decide (I ((14 : Nat) : Int) = 8) = false from rfl, br_fq, show decide (I ((14 : Nat) : Int) = 9) = false from rfl, br_fq, show decide (I ((14 : Nat) : Int) = 10) = false from rfl, br_fq, show decide (I ((14 : Nat) : Int) = 11) = false from rfl, br_fq, show decide (I ((14 : Nat) : Int) = 12) = false from rfl, br_fq, show decide (I ((14 : Nat) : Int) = 13) = false from rfl, br_fq, show decide (I ((14 : Nat) : Int) = 14) = true from rfl, br_tq]
    exact this
  · have := ref (f := fun u7 r7 => some (u7, .inl 0)) (by omega) (by omega) (by omega) (by omega)
    rw [z] at this ⊢
    rw [show decide (I ((15 : Nat) : Int) = 1) = false from rfl, br_fq, show decide (I ((15 : Nat) : Int) = 2) = false from rfl, br_fq, show decide (I ((15 : Nat) : Int) = 3) = false from rfl, br_fq, show decide (I ((15 : Nat) : Int) = 4) = false from rfl, br_fq, show decide (I ((15 : Nat) : Int) = 5) = false from rfl, br_fq, show decide (I ((15 : Nat) : Int) = 6) = false from rfl, br_fq, show decide (I ((15 : Nat) : Int) = 7) = false from rfl, br_fq, show decide (I ((15 : Nat) : Int) = 8) = false from rfl, br_fq, show decide (I ((15 : Nat) : Int) = 9) = false from rfl, br_fq, show decide (I ((15 : Nat) : Int) = 10) = false from rfl, br_fq, show decide (I ((15 : Nat) : Int) = 11) = false from rfl, br_fq, show decide (I ((15 : Nat) : Int) = 12) = false from rfl, br_fq, show decide (I ((15 : Nat) : Int) = 13) = false from rfl, br_fq, show decide (I ((15 : Nat) : Int) = 14) = false from rfl, br_fq, show decide (I ((15 : Nat) : Int) = 15) = true from rfl, br_tq]
    exact this
  · have := ref (f := fun u7 r7 => some (u7, .inl 0)) (by omega) (by omega) (by omega) (by omega)
    rw [z] at this ⊢
    rw [show decide (I ((16 : Nat) : Int) = 1) = false from rfl, br_fq, show decide (I ((16 : Nat) : Int) = 2) = false from rfl, br_fq, show decide (I ((16 : Nat) : Int) = 3) = false from rfl, br_fq, show decide (I ((16 : Nat) : Int) = 4) = false from rfl, br_fq, show decide (I ((16 : Nat) : Int) = 5) = false from rfl, br_fq, show decide (I ((16 : Nat) : Int) = 6) = false from rfl, br_fq, show decide (I ((16 : Nat) : Int) = 7) = false from rfl, br_fq, show decide (I ((16 : Nat) : Int) = 8) = false from rfl, br_fq, show decide (I ((16 : Nat) : Int) = 9) = false from rfl, br_fq, show decide (I ((16 : Nat) : Int) = 10) = false from rfl, br_fq, show decide (I ((16 : Nat) : Int) = 11) = false from rfl, br_fq, show decide (I ((16 : Nat) : Int) = 12) = false from rfl, br_fq, show decide (I ((16 : Nat) : Int) = 13) = false from rfl, br_fq, show decide (I ((16 : Nat) : Int) = 14) = false from rfl, br_fq, show decide (I ((16 : Nat) : Int) = 15) = false from rfl, br_fq, show decide (I ((16 : Nat) : Int) = 16) = true from rfl, br_tq]
    exact this
  · rw [z, show decide (I ((17 : Nat) : Int) = 1) = false from rfl, br_fq, show decide (I ((17 : Nat) : Int) = 2) = false from rfl, br_fq, show decide (I ((17 : Nat) : Int) = 3) = false from rfl, br_fq, show decide (I ((17 : Nat) : Int) = 4) = false from rfl, br_fq, show decide (I ((17 : Nat) : Int) = 5) = false from rfl, br_fq, show decide (I ((17 : Nat) : Int) = 6) = false from rfl, br_fq, show decide (I ((17 : Nat) : Int) = 7) = false from rfl, br_fq, show decide (I ((17 : Nat) : Int) = 8) = false from rfl, br_fq, show decide (I ((17 : Nat) : Int) = 9) = false from rfl, br_fq, show decide (I ((17 : Nat) : Int) = 10) = false from rfl, br_fq, show decide (I ((17 : Nat) : Int) = 11) = false from rfl, br_fq, show decide (I ((17 : Nat) : Int) = 12) = false from rfl, br_fq, show decide (I ((17 : Nat) : Int) = 13) = false from rfl, br_fq, show decide (I ((17 : Nat) : Int) = 14) = false from rfl, br_fq, show decide (I ((17 : Nat) : Int) = 15) = false from rfl, br_fq, show decide (I ((17 : Nat) : Int) = 16) = false from rfl, br_fq, show decide (I ((17 : Nat) : Int) = 17) = true from rfl, br_tq, show decide (I ((svK 17 : Nat) : Int) = 2) = false from rfl, br_fq, show decide (I ((svK 17 : Nat) : Int) = 3) = false from rfl, br_fq, show decide (I ((svK 17 : Nat) : Int) = 8) = false from rfl, br_fq, show decide (I ((svK 17 : Nat) : Int) = 12) = true from rfl, br_tq, bTm_id]
    unfold fb_M_block_49 fb_M_block_131
    rw [show decide (I ((svK 17 : Nat) : Int) = 2) = false from rfl, show decide (I ((svK 17 : Nat) : Int) = 3) = false from rfl, show decide (I ((svK 17 : Nat) : Int) = 12) = true from rfl, h.2.2.2.1, i_suc]
    refine r_lt ?_
    rw [br_fq, br_fq, br_tq, bnd_id]
    cases D with
    | zero => exact pp_nl
    | succ D =>
      cases d with
      | zero => exact pp_nr
      | succ d => exact rcv_pp c c45 (hE d (by omega)) (hB d (by omega)) (hPa d (by omega) true) h hn hn2 hR nd h70 ho h73 z
  · have := ref (f := fun u7 r7 => some (u7, .inl 0)) (by omega) (by omega) (by omega) (by omega)
    rw [z] at this ⊢
    rw [show decide (I ((18 : Nat) : Int) = 1) = false from rfl, br_fq, show decide (I ((18 : Nat) : Int) = 2) = false from rfl, br_fq, show decide (I ((18 : Nat) : Int) = 3) = false from rfl, br_fq, show decide (I ((18 : Nat) : Int) = 4) = false from rfl, br_fq, show decide (I ((18 : Nat) : Int) = 5) = false from rfl, br_fq, show decide (I ((18 : Nat) : Int) = 6) = false from rfl, br_fq, show decide (I ((18 : Nat) : Int) = 7) = false from rfl, br_fq, show decide (I ((18 : Nat) : Int) = 8) = false from rfl, br_fq, show decide (I ((18 : Nat) : Int) = 9) = false from rfl, br_fq, show decide (I ((18 : Nat) : Int) = 10) = false from rfl, br_fq, show decide (I ((18 : Nat) : Int) = 11) = false from rfl, br_fq, show decide (I ((18 : Nat) : Int) = 12) = false from rfl, br_fq, show decide (I ((18 : Nat) : Int) = 13) = false from rfl, br_fq, show decide (I ((18 : Nat) : Int) = 14) = false from rfl, br_fq, show decide (I ((18 : Nat) : Int) = 15) = false from rfl, br_fq, show decide (I ((18 : Nat) : Int) = 16) = false from rfl, br_fq, show decide (I ((18 : Nat) : Int) = 17) = false from rfl, br_fq, show decide (I ((18 : Nat) : Int) = 18) = true from rfl, br_tq]
    exact this
  · have := ref (f := fun u7 r7 => some (u7, .inl 0)) (by omega) (by omega) (by omega) (by omega)
    rw [z] at this ⊢
    rw [show decide (I ((19 : Nat) : Int) = 1) = false from rfl, br_fq, show decide (I ((19 : Nat) : Int) = 2) = false from rfl, br_fq, show decide (I ((19 : Nat) : Int) = 3) = false from rfl, br_fq, show decide (I ((19 : Nat) : Int) = 4) = false from rfl, br_fq, show decide (I ((19 : Nat) : Int) = 5) = false from rfl, br_fq, show decide (I ((19 : Nat) : Int) = 6) = false from rfl, br_fq, show decide (I ((19 : Nat) : Int) = 7) = false from rfl, br_fq, show decide (I ((19 : Nat) : Int) = 8) = false from rfl, br_fq, show decide (I ((19 : Nat) : Int) = 9) = false from rfl, br_fq, show decide (I ((19 : Nat) : Int) = 10) = false from rfl, br_fq, show decide (I ((19 : Nat) : Int) = 11) = false from rfl, br_fq, show decide (I ((19 : Nat) : Int) = 12) = false from rfl, br_fq, show decide (I ((19 : Nat) : Int) = 13) = false from rfl, br_fq, show decide (I ((19 : Nat) : Int) = 14) = false from rfl, br_fq, show decide (I ((19 : Nat) : Int) = 15) = false from rfl, br_fq, show decide (I ((19 : Nat) : Int) = 16) = false from rfl, br_fq, show decide (I ((19 : Nat) : Int) = 17) = false from rfl, br_fq, show decide (I ((19 : Nat) : Int) = 18) = false from rfl, br_fq, show decide (I ((19 : Nat) : Int) = 19) = true from rfl, br_tq]
    exact this
end
