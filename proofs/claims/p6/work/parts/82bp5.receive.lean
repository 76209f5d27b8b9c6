set_option maxRecDepth 100000
def KDN (v : MS) (j : Nat) : Prop := ∃ c : Nat, v.1 32 = I (c : Nat) ∧ c ≤ 100000 ∧ j < c ∧ v.2.2.1 23 j ≠ 12 ∧ v.2.2.1 23 j ≠ 15
section
variable {α : Type} {R : MS → Int32 ⊕ Nat → MS → Int32 → Prop} {A : Option (MS × α)} {m0 w0 m w v u m2 m3 w2 x y z mF mB wB mp mg : MS} {K nm Nk W W1 W2 WA WB : Nat → Nat} {T p n N q q1 X Y X1 X2 XA n0 n1 n2 n3 lo lo2 l1 l2 np ng p0 p2 p4 ν μ π a b L L' k d o oo M D s kd j j2 : Nat} {sc sc1 sc2 sc3 sc4 sc5 t t2 t3 t4 t5 : SCT} {e e2 e3 e4 e5 : List Nat × List Nat × Nat} {gd Rf Rg Zf R1 Z1 own cs : Bool} {BC : MS → Prop} {v1 v2 v3 v4 v5 v6 v1c r ξ φ ca cb cc : Int32} {S : SG_M_behind} {NC : Nat → Prop} {CL CM CL1 : Int32 × Int32 × Int32 → Prop} {l lp lg : List Nat}
theorem KDN_st (h : STW Nk K p p2 sc sc2 X W Rf Zf CL w v) (k : KDN w j) : KDN v j := by
  obtain ⟨c, h1, h2, h3, h4⟩ := k
  have e1 := STW_23 h h1 h2 h3
  obtain ⟨f1, f2, f3, f4, f5, f6, f7, A0, B0, f8, f9, f10⟩ := h
  have e0 : A0 = c := by
    have := f8.1.symm.trans h1
    have := (I_eq (x := (A0 : Nat)) (y := (c : Nat)) (by omega) (by omega) (by omega) (by omega)).mp this
    omega
  exact ⟨B0, f8.2.1, f8.2.2.2, by omega, by rw [e1]; exact h4⟩
theorem KDN_s (h : SMS w v) (k : KDN w j) : KDN v j := by
  obtain ⟨c, h1, h2, h3, h4⟩ := k
  obtain ⟨b, b1, b2, b3⟩ := h.2.2 c h1 h2
  exact ⟨b, b1.1, b1.2.2, by omega, by rw [(b2 j h3).1]; exact h4⟩
theorem KDN_u (h : UNQ sc2 w v) (k : KDN w j) : KDN v j := by
  obtain ⟨c, h1, h2, h3, h4⟩ := k
  obtain ⟨b, b1, b2, b3⟩ := h.2.2.2.2 c h1 h2
  exact ⟨b, b1.1, b1.2.2, by omega, by rw [(b2 j h3).1]; exact h4⟩
theorem KDN_ad (k : KDN w j) : KDN (adv w q) j := KDN_s SMS_ad k
theorem KDN_b {k' : Nat} (k : KDN w j) (h : KDN w j2) (hk : k' = 25 ∨ k' = 26 ∨ k' = 27) : SMS w (upA w k' (upd (w.2.2.1 k') j ξ)) ∧ KDN (upA w k' (upd (w.2.2.1 k') j ξ)) j2 := by
  obtain ⟨c, h1, h2, h3, h4⟩ := k
  have s := SMS_B (k := k') (x := ξ) (SMS_rf (w := w)) hk h4
  exact ⟨s, KDN_s s h⟩
theorem KDN_nd {tk : Int32} (hk : vp_nar .byte (v1.toInt8.toInt32) ≠ 12 ∧ vp_nar .byte (v1.toInt8.toInt32) ≠ 15) : PK (fun v r => SMS w v ∧ v.1 69 = w.1 69 ∧ ∃ a : Nat, r = I (a : Nat) ∧ r.toNatClampNeg = a ∧ KDN v a) (fm_M_node N w v1 tk) := pk_mo (node_s hk) (fun v r h => by
  obtain ⟨b1, b2, -, av, ⟨b3, b3'⟩, b4, b5, b6, b7⟩ := h
  exact ⟨b1, b2, av, b4, b7, av + 1, b5, by omega, by omega, by rw [b6]; exact hk⟩)
theorem rc237 (k : KDN w j) : PK (fun v (_ : Int32) => SMS w v ∧ v.1 69 = w.1 69) (fb_M_receive_237 N S () w (I (j : Nat))) := by
  unfold fb_M_receive_237
  obtain ⟨c, h1, h2, h3, h4⟩ := id k
  rw [tnI (n := j) rfl (by omega)]
  obtain ⟨s1, k1⟩ := KDN_b (k' := 26) (ξ := w.1 32) k k (Or.inr (Or.inl rfl))
  refine pk_ck (fun _ => pk_lt (pk_bnd (pk_mo (KDN_nd (v1 := 30) (by decide)) (fun u r h => pk_ck (fun _ => pk_ck (fun _ => pk_lt (pk_some ?_)))))))
  refine ⟨SMS_A (SMS_tr s1 h.1) (by unfold SMX; omega) (by omega), ?_⟩
  show u.1 69 = _
  rw [h.2.1]
  rfl
theorem rc_no (c : CTZ m0 w0 K T nm Nk) (st : STQ m0 w0 K T Nk false m w p n sc s m2 w2 q n2 sc1 X W Rf Zf CL) (hs : 1 ≤ s) (hn0 : n ≤ 2 * p) (hpq : p < q) (h5 : K q ≠ 5) (kj : KDN w2 j) (kj2 : KDN w2 j2) (hl : l ≠ []) (hp : PLW N K nm m2 n n2 W b l (p + 1) q sc sc1 X Rf Zf (BCo N CL)) (k17 : K p = 17) : PP (EXB N m0 w0 K T nm Nk p n sc o m w) (hb_Pa_receive_75 N (hrc_Pa_matched N D) () m2 (I (p : Nat)) (I ((l.headD 0 : Nat) : Int)) 0 0) (fb_M_receive_98 N (rc_M_behind N d) () w2 v2 (I (j : Nat)) (I (j2 : Nat))) := by
  have T4 := c.1.1.1
  have hc2 := RLP_c c st.1
  have hw2 := RLP_w c st.1
  have h2 := st.1.2.2.2.2.2.2
  have qT := st.1.2.2.2.2.1
  have nb := st.2.1
  unfold hb_Pa_receive_75 fb_M_receive_98
  rw [tkW_e (k := 5) (s := 0) hw2 h2 (by decide) rfl, if_neg h5, bnd_s, show decide ((0 : Int32) = 0) = true from rfl, br_tq]
  by_cases k11 : K q = 11
  · have ql : q < T := TWK_lt c qT (by omega) (by omega)
    rw [need_e (s := 11) hc2 k11 (by decide) rfl, bTm_l, ndW_1 (s := 6) hw2 h2 (by decide) rfl k11, bnd_s]
    have s1 := STQ_ad st ql (by omega)
    have ad := add_e (N := N) (a := 11) (b := I (p : Nat)) (c := 0) (d := I ((l.headD 0 : Nat) : Int)) (f := 0) s1.2.1.2.1 (by omega)
    rw [ad, bnd_s]
    obtain ⟨cj, j1, j2', j3, j4⟩ := id kj
    rw [tnI (n := j) rfl (by omega)]
    obtain ⟨sb, kb⟩ := KDN_b (k' := 25) (ξ := I (j2 : Nat)) (KDN_ad (q := q) kj) (KDN_ad (q := q) kj2) (Or.inl rfl)
    refine pp_l (pk_ck (fun _ => pk_lt (pk_mo (rc237 kb) (fun v r hv => ?_))))
    refine EXB_mk (kd := 11) (STQ_s2 s1 (by omega)) (SMS_tr sb hv.1) (by rw [hv.2]; rfl) (by omega) (by omega) (by omega) (by decide) (by rw [k17]; rfl) (fun gd => ?_)
    exact exn_rc0 (l := l) (b := b) (q := p + 1) (q2 := q) (m1 := m2) (n1 := n2) adN_nod.1 (by omega) (by omega) (Nat.le_refl _) (by omega) ⟨by omega, by omega, by omega⟩ (fun j h1 h2 => by rw [show j = p by omega]; omega) (fun j h1 h2 => by rw [show j = q by omega]; omega) hp adN_o (Kc_tr kc_ad (PCG_k (PCG_add PCG_rf))) (by omega) BCo_st
  · refine pp_rf (RFS_T (need_x (s := 11) hc2 k11 (by decide) rfl)) (fun mm => ?_)
    refine pk_bnd (pk_mo (ndW_0 (N := N) (s := 6) hw2 h2 (by decide) rfl k11) (fun v r2 z => ?_))
    have hz : Kfc v v := z
    refine Kf_pk (u0 := v) ?_
    obtain ⟨hF0, hF1, hF2, hF3, hF4, hF5, hF6, hF7, hF8, hF9, hF10, hF11, hF12, hF13, hF14, hF15, hF16⟩ := yf_rc_M_behind (u0 := v) (N := N) d
    repeat' (first | with_reducible assumption | with_reducible refine Kf_br ?_ ?_ | with_reducible refine Kf_bnd ?_ (fun _ _ _ => ?_) | with_reducible refine Kf_ck ?_ | with_reducible refine Kf_ltm ?_ (fun _ _ => ?_) | with_reducible refine Kf_some ?_ | with_reducible refine Kf_bo (fun _ => ?_) | with_reducible exact yf_fm_M_node (by assumption) | with_reducible exact yf_fm_M_pattern (by assumption) | with_reducible exact yf_fm_M_wrong (by assumption) | with_reducible exact yf_fm_M_rule (by assumption) | with_reducible exact yf_fm_M_isSign (by assumption) | with_reducible exact yf_fm_M_isWord (by assumption) | with_reducible exact yf_fm_M_takeSign (by assumption) | with_reducible exact yf_fm_M_takeWord (by assumption) | with_reducible exact yf_fm_M_needSign (by assumption) | with_reducible exact yf_fm_M_needWord (by assumption) | with_reducible exact yf_fm_M_opens (by assumption) | with_reducible exact yf_fm_M_boundIn (by assumption) | with_reducible exact yf_fr_M_found (by assumption) | with_reducible exact yf_fm_M_bind (by assumption) | with_reducible exact yf_fm_M_isUnderscore (by assumption) | with_reducible exact yf_fm_M_unbind (by assumption) | with_reducible exact yf_fm_M_term (by assumption) | with_reducible exact yf_fm_M_namePattern (by assumption) | with_reducible exact yf_fr_M_patternAt (by assumption) | with_reducible exact yf_fm_M_beginsUnit (by assumption) | with_reducible exact yf_fm_M_save (by assumption) | with_reducible exact yf_fm_M_addRoot (by assumption) | with_reducible exact yf_fm_M_level (by assumption) | with_reducible exact yf_fm_M_reduce (by assumption) | with_reducible exact yf_fm_M_takeBack (by assumption) | with_reducible exact yf_fm_M_forgetSaved (by assumption) | with_reducible exact yf_fr_M_last (by assumption) | with_reducible exact yf_fr_M_clause (by assumption) | with_reducible exact yf_fm_M_predefinedOf (by assumption) | with_reducible exact yf_fm_M_function0 (by assumption) | with_reducible exact yf_fm_M_program (by assumption) | with_reducible exact hF0 _ (by assumption) | with_reducible exact hF1 _ _ (by assumption) | with_reducible exact hF2 _ _ _ (by assumption) | with_reducible exact hF3 _ _ _ (by assumption) | with_reducible exact hF4 _ (by assumption) | with_reducible exact hF5 _ _ (by assumption) | with_reducible exact hF6 _ _ (by assumption) | with_reducible exact hF7 _ _ (by assumption) | with_reducible exact hF8 _ _ (by assumption) | with_reducible exact hF9 _ (by assumption) | with_reducible exact hF10 _ (by assumption) | with_reducible exact hF11 _ (by assumption) | with_reducible exact hF12 _ (by assumption) | with_reducible exact hF13 _ (by assumption) | with_reducible exact hF14 _ (by assumption) | with_reducible exact hF15 _ (by assumption) | with_reducible exact hF16 _ _ (by assumption) | with_reducible exact yf_fb_M_receive_237 (by assumption) hF0 hF1 hF2 hF3 hF4 hF5 hF6 hF7 hF8 hF9 hF10 hF11 hF12 hF13 hF14 hF15 hF16 | with_reducible exact yf_fb_M_receive_98 (by assumption) hF0 hF1 hF2 hF3 hF4 hF5 hF6 hF7 hF8 hF9 hF10 hF11 hF12 hF13 hF14 hF15 hF16 | with_reducible exact yf_fb_M_receive_67 (by assumption) hF0 hF1 hF2 hF3 hF4 hF5 hF6 hF7 hF8 hF9 hF10 hF11 hF12 hF13 hF14 hF15 hF16 | with_reducible exact yf_fb_M_receive_0 (by assumption) hF0 hF1 hF2 hF3 hF4 hF5 hF6 hF7 hF8 hF9 hF10 hF11 hF12 hF13 hF14 hF15 hF16 | with_reducible refine Kf_ltv (fun _ => ?_) | with_reducible refine Kf_I ?_ (by decide) | with_reducible refine Kf_A ?_ | with_reducible refine Kf_J ?_ | with_reducible refine Kf_L ?_)
theorem rc_af (c : CTZ m0 w0 K T nm Nk) (hE : HE N m0 w0 K T nm Nk d) (hB : HBo N m0 w0 K T nm Nk d) (st : STQ m0 w0 K T Nk false m w p n (e :: t) s m2 w2 q n2 sc1 X W Rf Zf CL) (hn0 : n ≤ 2 * p) (hpq : p < q) (h5 : K q = 5) (h70 : w2.1 70 = I (oo : Nat)) (ho : oo ≤ 25) (h73 : w2.1 73 = 0) (e1400 : e.1.length ≤ 1400) (kj : KDN w2 j) (kj2 : KDN w2 j2) (hp : PLW N K nm m2 n n2 W e.1.length l (p + 1) q (e :: t) sc1 X Rf Zf (BCo N CL)) (hnm : nms sc1 = nms (e :: t)) (k17 : K p = 17) : PP (EXB N m0 w0 K T nm Nk p n (e :: t) o m w) (bTm ((hrc_Pa_matched N D).2.2.2.2.2.2.2.2.2.2.2.2.2.2.1 (advc m2 q) 1) (fun u8 r8 => bTm (hm_Pa_need N u8 38) (fun u9 r9 => bTm ((hrc_Pa_matched N D).2.2.2.2.2.2.2.2.2.1 u9) (fun u10 r10 => hb_Pa_receive_75 N (hrc_Pa_matched N D) () u10 (I (p : Nat)) (I ((l.headD 0 : Nat) : Int)) r8 r10)))) (fb_M_receive_98 N (rc_M_behind N d) () w2 (I (e.1.length : Nat)) (I (j : Nat)) (I (j2 : Nat))) := by
  have T4 := c.1.1.1
  have hc2 := RLP_c c st.1
  have hw2 := RLP_w c st.1
  have h2 := st.1.2.2.2.2.2.2
  have qT := st.1.2.2.2.2.1
  have nb := st.2.1
  have ql : q < T := TWK_lt c qT (by omega) (by omega)
  unfold fb_M_receive_98
  rw [tkW_e (k := 5) (s := 0) hw2 h2 (by decide) rfl, if_pos h5, bnd_s, show decide ((1 : Int32) = 0) = false from rfl, br_fq]
  obtain ⟨cj, j1, j1', j3, j4⟩ := id kj
  rw [tnI (n := j) rfl (by omega)]
  obtain ⟨cj2, i1, i1', i3, i4⟩ := id kj2
  rw [tnI (n := j2) rfl (by omega)]
  have s1 := STQ_ad st ql (by omega)
  refine r_ck (fun _ => r_lt ?_)
  obtain ⟨sb, kb⟩ := KDN_b (k' := 25) (ξ := (adv w2 q).1 32) (KDN_ad (q := q) kj) (KDN_ad (q := q) kj2) (Or.inl rfl)
  have s2 := STQ_s s1 sb rfl
  have aI : ∀ k, k ≠ 69 → (adv w2 q).1 k = w2.1 k := fun k hk => by unfold adv; rw [upI_ne hk]
  generalize hx1 : upA (adv w2 q) 25 (upd ((adv w2 q).2.2.1 25) j ((adv w2 q).1 32)) = x1 at sb kb s2 ⊢
  have x70 : x1.1 70 = I (oo : Nat) := by rw [← hx1]; show (adv w2 q).1 70 = _; rw [aI 70 (by decide)]; exact h70
  have x73 : x1.1 73 = 0 := by rw [← hx1]; show (adv w2 q).1 73 = _; rw [aI 73 (by decide)]; exact h73
  clear hx1
  refine pp_bTn (hE D (advc m2 q) x1 (q + 1) n2 sc1 false oo s2.1 s2.2.1.2.1 (by omega) (STQ_rn s2) (STQ_nd s2) x70 ho (by rw [x73]; rfl)) (fun m3 ξ u8 r8 hz => ?_) (fun m3 kk u8 r8 hz => ?_)
  · obtain ⟨q4, n3, μ, sct, Xt, Wt, Rt, Zt, CLt, d1, d2, d3, stt, d5, d6, d7⟩ := hz
    have nbt := stt.2.1
    have f7 := stt.2.2.2.2.1.2.2.2.2.2.2.1
    have t1 := STQ_tr s2 stt
    have k1 := KDN_st stt.2.2.2.2.1 kb
    have sx1 := t1.2.2.2.2.1.2.1
    cases sct with
    | nil => exact sx1.elim
    | cons et tt =>
    have le1 : e.1.length ≤ et.1.length := sx1.1.length_le
    refine r_bnd (pk_mo (KDN_nd (v1 := 28) (by decide)) (fun u9 r9 h9 => ?_))
    obtain ⟨n9, h69, a9, e9, e9', k9⟩ := h9
    rw [e9']
    have t2 := STQ_s t1 n9 h69
    have k2 := KDN_s n9 k1
    refine r_ck (fun _ => r_lt ?_)
    obtain ⟨sb1, kb1⟩ := KDN_b (k' := 25) (ξ := I (j2 : Nat)) k9 k2 (Or.inl rfl)
    have kc1 := (KDN_b (k' := 25) (ξ := I (j2 : Nat)) k9 k9 (Or.inl rfl)).2
    have t3 := STQ_s t2 sb1 rfl
    have g1 : (upA u9 25 (upd (u9.2.2.1 25) a9 (I (j2 : Nat)))).1 = u9.1 := rfl
    generalize upA u9 25 (upd (u9.2.2.1 25) a9 (I (j2 : Nat))) = x2 at sb1 kb1 kc1 t3 g1 ⊢
    refine r_ck (fun _ => r_lt ?_)
    obtain ⟨sb2, kb2⟩ := KDN_b (k' := 27) (ξ := I (e.1.length : Nat)) kc1 kb1 (Or.inr (Or.inr rfl))
    have kc2 := (KDN_b (k' := 27) (ξ := I (e.1.length : Nat)) kc1 kc1 (Or.inr (Or.inr rfl))).2
    have t4 := STQ_s t3 sb2 rfl
    have g2 : (upA x2 27 (upd (x2.2.2.1 27) a9 (I (e.1.length : Nat)))).1 = x2.1 := rfl
    generalize upA x2 27 (upd (x2.2.2.1 27) a9 (I (e.1.length : Nat))) = x3 at sb2 kb2 kc2 t4 g2 ⊢
    refine r_ck (fun _ => r_lt ?_)
    have un := set60 (b := e.1.length) (STQ_rn t4) le1
    have t5 := STQ_cut (b := e.1.length) t4 (Nat.le_refl _) un (fun z => Bool.noConfusion z)
    have kb3 := KDN_u un kb2
    have kc3 := KDN_u un kc2
    have g3 : (upA x3 60 (upd (x3.2.2.1 60) (x3.1 65).toNatClampNeg (I (e.1.length : Nat)))).1 = x3.1 := rfl
    generalize upA x3 60 (upd (x3.2.2.1 60) (x3.1 65).toNatClampNeg (I (e.1.length : Nat))) = x4 at un kb3 kc3 t5 g3 ⊢
    refine r_ck (fun _ => r_lt ?_)
    have sm4 : SMS x4 (upA x4 31 (upd (x4.2.2.1 31) j2 r9)) := SMS_A SMS_rf (by unfold SMX; omega) (by omega)
    have t6 := STQ_s t5 sm4 rfl
    have kb4 := KDN_s sm4 kb3
    have kc4 := KDN_s sm4 kc3
    have g4 : (upA x4 31 (upd (x4.2.2.1 31) j2 r9)).1 = x4.1 := rfl
    generalize upA x4 31 (upd (x4.2.2.1 31) j2 r9) = x5 at sm4 kb4 kc4 t6 g4 ⊢
    have y70 : x5.1 70 = I (oo : Nat) := by rw [g4, g3, g2, g1, n9.1 70 (by decide), f7.1 70 (by decide)]; exact x70
    have y73 : x5.1 73 = 0 := by rw [g4, g3, g2, g1, n9.1 73 (by decide), f7.1 73 (by decide)]; exact x73
    have hc5 := RLP_c c t6.1
    have hw5 := RLP_w c t6.1
    have h05 := t6.1.2.2.2.2.2.2
    have q4T := t6.1.2.2.2.2.1
    by_cases k38 : K q4 = 38
    · have q4l : q4 < T := TWK_lt c q4T (by omega) (by omega)
      rw [need_e (s := 38) hc5 k38 (by decide) rfl, bTm_l, ndS_1 (s := 10) hw5 h05 (by decide) rfl k38, bnd_s]
      have t7 := STQ_ad t6 q4l (by omega)
      have kb5 := KDN_ad (q := q4) kb4
      have kc5 := KDN_ad (q := q4) kc4
      have bI : ∀ k, k ≠ 69 → (adv x5 q4).1 k = x5.1 k := fun k hk => by unfold adv; rw [upI_ne hk]
      refine r_ck (fun _ => r_lt ?_)
      obtain ⟨sb6, kb6⟩ := KDN_b (k' := 26) (ξ := (adv x5 q4).1 32) kc5 kb5 (Or.inr (Or.inl rfl))
      have t8 := STQ_s t7 sb6 rfl
      have g6 : (upA (adv x5 q4) 26 (upd ((adv x5 q4).2.2.1 26) a9 ((adv x5 q4).1 32))).1 = (adv x5 q4).1 := rfl
      generalize upA (adv x5 q4) 26 (upd ((adv x5 q4).2.2.1 26) a9 ((adv x5 q4).1 32)) = x6 at sb6 kb6 t8 g6 ⊢
      refine r_ck (fun _ => r_lt ?_)
      have sm7 : SMS x6 (upA x6 28 (upd (x6.2.2.1 28) a9 (-1))) := SMS_A SMS_rf (by unfold SMX; omega) (by omega)
      have t9 := STQ_s t8 sm7 rfl
      have kb7 := KDN_s sm7 kb6
      have g7 : (upA x6 28 (upd (x6.2.2.1 28) a9 (-1))).1 = x6.1 := rfl
      generalize upA x6 28 (upd (x6.2.2.1 28) a9 (-1)) = x7 at sm7 kb7 t9 g7 ⊢
      have nb9 := t9.2.1
      refine pp_bTn (hB D (advc m3 q4) x7 (q4 + 1) n3 _ oo t9.1 t9.2.1.2.1 (by omega) (STQ_rn t9) (STQ_nd t9) (by rw [g7, g6, bI 70 (by decide)]; exact y70) ho (by rw [g7, g6, bI 73 (by decide)]; exact y73)) (fun m4 φ u17 r17 hz => ?_) (fun m4 kk u17 r17 hz => ?_)
      · obtain ⟨lb, q6, n4, sc3, X3, W3, R3, Z3, CL3, c1, c2, c3, stb, c5, c6⟩ := hz
        have nb4 := stb.2.1
        have t10 := STQ_tr t9 stb
        have kb8 := KDN_st stb.2.2.2.2.1 kb7
        have sx3 := t10.2.2.2.2.1.2.1
        cases sc3 with
        | nil => exact sx3.elim
        | cons e3 t3' =>
        refine r_bnd (pk_mo ar_s (fun u18 _ h18 => ?_))
        have t11 := STQ_s t10 h18.1 h18.2
        have kb9 := KDN_s h18.1 kb8
        refine r_bnd (pk_mo (unb_p (STQ_rn t11) e1400) (fun u19 _ un2 => ?_))
        have t12 := STQ_cut (b := e.1.length) t11 (Nat.le_refl _) un2 (fun z => Bool.noConfusion z)
        have kb10 := KDN_u un2 kb9
        unfold hb_Pa_receive_75
        have hc6 := RLP_c c t12.1
        have hw6 := RLP_w c t12.1
        have h06 := t12.1.2.2.2.2.2.2
        have q6T := t12.1.2.2.2.2.1
        by_cases k11 : K q6 = 11
        · have q6l : q6 < T := TWK_lt c q6T (by omega) (by omega)
          rw [need_e (s := 11) hc6 k11 (by decide) rfl, bTm_l, ndW_1 (s := 6) hw6 h06 (by decide) rfl k11, bnd_s]
          have t13 := STQ_ad t12 q6l (by omega)
          have ad := add_e (N := N) (a := 11) (b := I (p : Nat)) (c := ξ) (d := I ((l.headD 0 : Nat) : Int)) (f := φ) t13.2.1.2.1 (by omega)
          rw [ad, bnd_s]
          refine pp_l (pk_mo (rc237 (KDN_ad (q := q6) kb10)) (fun v r hv => ?_))
          refine EXB_mk (kd := 11) (STQ_s2 t13 (by omega)) hv.1 hv.2 (by omega) (by omega) (by omega) (by decide) (by rw [k17]; rfl) (fun gd => ?_)
          have swt := stt.2.2.2.2.1
          have swb := stb.2.2.2.2.1
          have sw := st.2.2.2.2.1
          have nmt := cut_nm sx1
          have kc2m : Kcc m2 m3 := Kc_tr kc_ad (PCG_k stt.2.2.2.1)
          have kc3m : Kcc m3 m4 := Kc_tr kc_ad (PCG_k stb.2.2.2.1)
          have kcF : Kcc m4 (adN (advc m4 q6) n4 11 (I (p : Nat)) ξ (I ((l.headD 0 : Nat) : Int)) φ) := Kc_tr kc_ad (PCG_k (PCG_add PCG_rf))
          have ko3 : KPO n3 m3 (adN (advc m4 q6) n4 11 (I (p : Nat)) ξ (I ((l.headD 0 : Nat) : Int)) φ) := KPO_tr stb.2.2.1 adN_o (by omega)
          have ko2 : KPO n2 m2 (adN (advc m4 q6) n4 11 (I (p : Nat)) ξ (I ((l.headD 0 : Nat) : Int)) φ) := KPO_tr stt.2.2.1 ko3 (by omega)
          have fin := exn_rc1 (gd := gd) (lo := n) (n2 := n4 + 1) (ν := n4 + 1) (p := p) (p2 := q6 + 1) (W := mrg (q4 + 1) (mrg (q + 1) W Wt) W3) (q := p + 1) (q2 := q) (q3 := q + 1) (q4 := q4) (q5 := q4 + 1) (q6 := q6) (l := l) (lb := lb) (μ := μ) (e0 := e) (t := t) (m2 := adN (advc m4 q6) n4 11 (I (p : Nat)) ξ (I ((l.headD 0 : Nat) : Int)) φ) (by rw [d1, c1]; exact adN_nod.1) ⟨by omega, by omega⟩ (by omega) (by omega) (Nat.le_refl _) (by omega) ⟨by omega, by omega, by omega, by omega, by omega, by omega, by omega⟩ (fun j h1 h2 => by rw [show j = p by omega]; omega) (fun j h1 h2 => by rw [show j = q by omega]; omega) (fun j h1 h2 => by rw [show j = q4 by omega]; omega) (fun j h1 h2 => by rw [show j = q6 by omega]; omega) (PLW_w (fun j h1 h2 => by rw [mrg_l (by omega), mrg_l (by omega)]) hp) (Nat.le_refl _) ko2 (Kc_tr kc2m (Kc_tr kc3m kcF)) (by omega) BCo_st hnm sw.2.2.2.1.2 (EXN_w (fun j h1 h2 => by rw [mrg_l (by omega), mrg_r h1]) d6) (by omega) ko3 (Kc_tr kc3m kcF) (by omega) swt.2.2.2.1.2 (cut_mk sx1) nmt ⟨swt.2.2.2.1.1, SCX_len swt.2.1⟩ (ERW_w (fun j h1 _ => mrg_r h1) c5) (by omega) adN_o kcF (by omega) BCo_st (cut_mk sx3)
          rw [show max (max X Xt) X3 = max Xt (max X X3) by omega, show ((Rf || Rt) || R3) = (Rt || (Rf || R3)) by cases Rf <;> cases Rt <;> rfl, show ((Zf || Zt) || Z3) = (Zt || (Zf || Z3)) by cases Zf <;> cases Zt <;> rfl]
          refine EXN_bc (fun m => ?_) fin
          rw [BCo_or, BCo_or]
          constructor
          · rintro ((h | h) | h)
            · exact Or.inr (Or.inl h)
            · exact Or.inl h
            · exact Or.inr (Or.inr h)
          · rintro (h | h | h)
            · exact Or.inl (Or.inr h)
            · exact Or.inl (Or.inl h)
            · exact Or.inr h
        · refine pp_rf (RFS_T (need_x (s := 11) hc6 k11 (by decide) rfl)) (fun mm => ?_)
          refine pk_bnd (pk_mo (ndW_0 (N := N) (s := 6) hw6 h06 (by decide) rfl k11) (fun v r2 z => ?_))
          have hz : Kfc v v := z
          refine Kf_pk (u0 := v) ?_
          obtain ⟨hF0, hF1, hF2, hF3, hF4, hF5, hF6, hF7, hF8, hF9, hF10, hF11, hF12, hF13, hF14, hF15, hF16⟩ := yf_rc_M_behind (u0 := v) (N := N) d
          repeat' (first | with_reducible assumption | with_reducible refine Kf_br ?_ ?_ | with_reducible refine Kf_bnd ?_ (fun _ _ _ => ?_) | with_reducible refine Kf_ck ?_ | with_reducible refine Kf_ltm ?_ (fun _ _ => ?_) | with_reducible refine Kf_some ?_ | with_reducible refine Kf_bo (fun _ => ?_) | with_reducible exact yf_fm_M_node (by assumption) | with_reducible exact yf_fm_M_pattern (by assumption) | with_reducible exact yf_fm_M_wrong (by assumption) | with_reducible exact yf_fm_M_rule (by assumption) | with_reducible exact yf_fm_M_isSign (by assumption) | with_reducible exact yf_fm_M_isWord (by assumption) | with_reducible exact yf_fm_M_takeSign (by assumption) | with_reducible exact yf_fm_M_takeWord (by assumption) | with_reducible exact yf_fm_M_needSign (by assumption) | with_reducible exact yf_fm_M_needWord (by assumption) | with_reducible exact yf_fm_M_opens (by assumption) | with_reducible exact yf_fm_M_boundIn (by assumption) | with_reducible exact yf_fr_M_found (by assumption) | with_reducible exact yf_fm_M_bind (by assumption) | with_reducible exact yf_fm_M_isUnderscore (by assumption) | with_reducible exact yf_fm_M_unbind (by assumption) | with_reducible exact yf_fm_M_term (by assumption) | with_reducible exact yf_fm_M_namePattern (by assumption) | with_reducible exact yf_fr_M_patternAt (by assumption) | with_reducible exact yf_fm_M_beginsUnit (by assumption) | with_reducible exact yf_fm_M_save (by assumption) | with_reducible exact yf_fm_M_addRoot (by assumption) | with_reducible exact yf_fm_M_level (by assumption) | with_reducible exact yf_fm_M_reduce (by assumption) | with_reducible exact yf_fm_M_takeBack (by assumption) | with_reducible exact yf_fm_M_forgetSaved (by assumption) | with_reducible exact yf_fr_M_last (by assumption) | with_reducible exact yf_fr_M_clause (by assumption) | with_reducible exact yf_fm_M_predefinedOf (by assumption) | with_reducible exact yf_fm_M_function0 (by assumption) | with_reducible exact yf_fm_M_program (by assumption) | with_reducible exact hF0 _ (by assumption) | with_reducible exact hF1 _ _ (by assumption) | with_reducible exact hF2 _ _ _ (by assumption) | with_reducible exact hF3 _ _ _ (by assumption) | with_reducible exact hF4 _ (by assumption) | with_reducible exact hF5 _ _ (by assumption) | with_reducible exact hF6 _ _ (by assumption) | with_reducible exact hF7 _ _ (by assumption) | with_reducible exact hF8 _ _ (by assumption) | with_reducible exact hF9 _ (by assumption) | with_reducible exact hF10 _ (by assumption) | with_reducible exact hF11 _ (by assumption) | with_reducible exact hF12 _ (by assumption) | with_reducible exact hF13 _ (by assumption) | with_reducible exact hF14 _ (by assumption) | with_reducible exact hF15 _ (by assumption) | with_reducible exact hF16 _ _ (by assumption) | with_reducible exact yf_fb_M_receive_237 (by assumption) hF0 hF1 hF2 hF3 hF4 hF5 hF6 hF7 hF8 hF9 hF10 hF11 hF12 hF13 hF14 hF15 hF16 | with_reducible exact yf_fb_M_receive_98 (by assumption) hF0 hF1 hF2 hF3 hF4 hF5 hF6 hF7 hF8 hF9 hF10 hF11 hF12 hF13 hF14 hF15 hF16 | with_reducible exact yf_fb_M_receive_67 (by assumption) hF0 hF1 hF2 hF3 hF4 hF5 hF6 hF7 hF8 hF9 hF10 hF11 hF12 hF13 hF14 hF15 hF16 | with_reducible exact yf_fb_M_receive_0 (by assumption) hF0 hF1 hF2 hF3 hF4 hF5 hF6 hF7 hF8 hF9 hF10 hF11 hF12 hF13 hF14 hF15 hF16 | with_reducible refine Kf_ltv (fun _ => ?_) | with_reducible refine Kf_I ?_ (by decide) | with_reducible refine Kf_A ?_ | with_reducible refine Kf_J ?_ | with_reducible refine Kf_L ?_)
      · have hz : Kfc u17 u17 := hz
        refine Kf_pk (u0 := u17) ?_
        obtain ⟨hF0, hF1, hF2, hF3, hF4, hF5, hF6, hF7, hF8, hF9, hF10, hF11, hF12, hF13, hF14, hF15, hF16⟩ := yf_rc_M_behind (u0 := u17) (N := N) d
        repeat' (first | with_reducible assumption | with_reducible refine Kf_br ?_ ?_ | with_reducible refine Kf_bnd ?_ (fun _ _ _ => ?_) | with_reducible refine Kf_ck ?_ | with_reducible refine Kf_ltm ?_ (fun _ _ => ?_) | with_reducible refine Kf_some ?_ | with_reducible refine Kf_bo (fun _ => ?_) | with_reducible exact yf_fm_M_node (by assumption) | with_reducible exact yf_fm_M_pattern (by assumption) | with_reducible exact yf_fm_M_wrong (by assumption) | with_reducible exact yf_fm_M_rule (by assumption) | with_reducible exact yf_fm_M_isSign (by assumption) | with_reducible exact yf_fm_M_isWord (by assumption) | with_reducible exact yf_fm_M_takeSign (by assumption) | with_reducible exact yf_fm_M_takeWord (by assumption) | with_reducible exact yf_fm_M_needSign (by assumption) | with_reducible exact yf_fm_M_needWord (by assumption) | with_reducible exact yf_fm_M_opens (by assumption) | with_reducible exact yf_fm_M_boundIn (by assumption) | with_reducible exact yf_fr_M_found (by assumption) | with_reducible exact yf_fm_M_bind (by assumption) | with_reducible exact yf_fm_M_isUnderscore (by assumption) | with_reducible exact yf_fm_M_unbind (by assumption) | with_reducible exact yf_fm_M_term (by assumption) | with_reducible exact yf_fm_M_namePattern (by assumption) | with_reducible exact yf_fr_M_patternAt (by assumption) | with_reducible exact yf_fm_M_beginsUnit (by assumption) | with_reducible exact yf_fm_M_save (by assumption) | with_reducible exact yf_fm_M_addRoot (by assumption) | with_reducible exact yf_fm_M_level (by assumption) | with_reducible exact yf_fm_M_reduce (by assumption) | with_reducible exact yf_fm_M_takeBack (by assumption) | with_reducible exact yf_fm_M_forgetSaved (by assumption) | with_reducible exact yf_fr_M_last (by assumption) | with_reducible exact yf_fr_M_clause (by assumption) | with_reducible exact yf_fm_M_predefinedOf (by assumption) | with_reducible exact yf_fm_M_function0 (by assumption) | with_reducible exact yf_fm_M_program (by assumption) | with_reducible exact hF0 _ (by assumption) | with_reducible exact hF1 _ _ (by assumption) | with_reducible exact hF2 _ _ _ (by assumption) | with_reducible exact hF3 _ _ _ (by assumption) | with_reducible exact hF4 _ (by assumption) | with_reducible exact hF5 _ _ (by assumption) | with_reducible exact hF6 _ _ (by assumption) | with_reducible exact hF7 _ _ (by assumption) | with_reducible exact hF8 _ _ (by assumption) | with_reducible exact hF9 _ (by assumption) | with_reducible exact hF10 _ (by assumption) | with_reducible exact hF11 _ (by assumption) | with_reducible exact hF12 _ (by assumption) | with_reducible exact hF13 _ (by assumption) | with_reducible exact hF14 _ (by assumption) | with_reducible exact hF15 _ (by assumption) | with_reducible exact hF16 _ _ (by assumption) | with_reducible exact yf_fb_M_receive_237 (by assumption) hF0 hF1 hF2 hF3 hF4 hF5 hF6 hF7 hF8 hF9 hF10 hF11 hF12 hF13 hF14 hF15 hF16 | with_reducible exact yf_fb_M_receive_98 (by assumption) hF0 hF1 hF2 hF3 hF4 hF5 hF6 hF7 hF8 hF9 hF10 hF11 hF12 hF13 hF14 hF15 hF16 | with_reducible exact yf_fb_M_receive_67 (by assumption) hF0 hF1 hF2 hF3 hF4 hF5 hF6 hF7 hF8 hF9 hF10 hF11 hF12 hF13 hF14 hF15 hF16 | with_reducible exact yf_fb_M_receive_0 (by assumption) hF0 hF1 hF2 hF3 hF4 hF5 hF6 hF7 hF8 hF9 hF10 hF11 hF12 hF13 hF14 hF15 hF16 | with_reducible refine Kf_ltv (fun _ => ?_) | with_reducible refine Kf_I ?_ (by decide) | with_reducible refine Kf_A ?_ | with_reducible refine Kf_J ?_ | with_reducible refine Kf_L ?_)
    · refine pp_rf (RFS_T (need_x (s := 38) hc5 k38 (by decide) rfl)) (fun mm => ?_)
      refine pk_bnd (pk_mo (ndS_0 (N := N) (s := 10) hw5 h05 (by decide) rfl k38) (fun v r2 z => ?_))
      have hz : Kfc v v := z
      refine Kf_pk (u0 := v) ?_
      obtain ⟨hF0, hF1, hF2, hF3, hF4, hF5, hF6, hF7, hF8, hF9, hF10, hF11, hF12, hF13, hF14, hF15, hF16⟩ := yf_rc_M_behind (u0 := v) (N := N) d
      repeat' (first | with_reducible assumption | with_reducible refine Kf_br ?_ ?_ | with_reducible refine Kf_bnd ?_ (fun _ _ _ => ?_) | with_reducible refine Kf_ck ?_ | with_reducible refine Kf_ltm ?_ (fun _ _ => ?_) | with_reducible refine Kf_some ?_ | with_reducible refine Kf_bo (fun _ => ?_) | with_reducible exact yf_fm_M_node (by assumption) | with_reducible exact yf_fm_M_pattern (by assumption) | with_reducible exact yf_fm_M_wrong (by assumption) | with_reducible exact yf_fm_M_rule (by assumption) | with_reducible exact yf_fm_M_isSign (by assumption) | with_reducible exact yf_fm_M_isWord (by assumption) | with_reducible exact yf_fm_M_takeSign (by assumption) | with_reducible exact yf_fm_M_takeWord (by assumption) | with_reducible exact yf_fm_M_needSign (by assumption) | with_reducible exact yf_fm_M_needWord (by assumption) | with_reducible exact yf_fm_M_opens (by assumption) | with_reducible exact yf_fm_M_boundIn (by assumption) | with_reducible exact yf_fr_M_found (by assumption) | with_reducible exact yf_fm_M_bind (by assumption) | with_reducible exact yf_fm_M_isUnderscore (by assumption) | with_reducible exact yf_fm_M_unbind (by assumption) | with_reducible exact yf_fm_M_term (by assumption) | with_reducible exact yf_fm_M_namePattern (by assumption) | with_reducible exact yf_fr_M_patternAt (by assumption) | with_reducible exact yf_fm_M_beginsUnit (by assumption) | with_reducible exact yf_fm_M_save (by assumption) | with_reducible exact yf_fm_M_addRoot (by assumption) | with_reducible exact yf_fm_M_level (by assumption) | with_reducible exact yf_fm_M_reduce (by assumption) | with_reducible exact yf_fm_M_takeBack (by assumption) | with_reducible exact yf_fm_M_forgetSaved (by assumption) | with_reducible exact yf_fr_M_last (by assumption) | with_reducible exact yf_fr_M_clause (by assumption) | with_reducible exact yf_fm_M_predefinedOf (by assumption) | with_reducible exact yf_fm_M_function0 (by assumption) | with_reducible exact yf_fm_M_program (by assumption) | with_reducible exact hF0 _ (by assumption) | with_reducible exact hF1 _ _ (by assumption) | with_reducible exact hF2 _ _ _ (by assumption) | with_reducible exact hF3 _ _ _ (by assumption) | with_reducible exact hF4 _ (by assumption) | with_reducible exact hF5 _ _ (by assumption) | with_reducible exact hF6 _ _ (by assumption) | with_reducible exact hF7 _ _ (by assumption) | with_reducible exact hF8 _ _ (by assumption) | with_reducible exact hF9 _ (by assumption) | with_reducible exact hF10 _ (by assumption) | with_reducible exact hF11 _ (by assumption) | with_reducible exact hF12 _ (by assumption) | with_reducible exact hF13 _ (by assumption) | with_reducible exact hF14 _ (by assumption) | with_reducible exact hF15 _ (by assumption) | with_reducible exact hF16 _ _ (by assumption) | with_reducible exact yf_fb_M_receive_237 (by assumption) hF0 hF1 hF2 hF3 hF4 hF5 hF6 hF7 hF8 hF9 hF10 hF11 hF12 hF13 hF14 hF15 hF16 | with_reducible exact yf_fb_M_receive_98 (by assumption) hF0 hF1 hF2 hF3 hF4 hF5 hF6 hF7 hF8 hF9 hF10 hF11 hF12 hF13 hF14 hF15 hF16 | with_reducible exact yf_fb_M_receive_67 (by assumption) hF0 hF1 hF2 hF3 hF4 hF5 hF6 hF7 hF8 hF9 hF10 hF11 hF12 hF13 hF14 hF15 hF16 | with_reducible exact yf_fb_M_receive_0 (by assumption) hF0 hF1 hF2 hF3 hF4 hF5 hF6 hF7 hF8 hF9 hF10 hF11 hF12 hF13 hF14 hF15 hF16 | with_reducible refine Kf_ltv (fun _ => ?_) | with_reducible refine Kf_I ?_ (by decide) | with_reducible refine Kf_A ?_ | with_reducible refine Kf_J ?_ | with_reducible refine Kf_L ?_)
  · have hz : Kfc u8 u8 := hz
    refine Kf_pk (u0 := u8) ?_
    obtain ⟨hF0, hF1, hF2, hF3, hF4, hF5, hF6, hF7, hF8, hF9, hF10, hF11, hF12, hF13, hF14, hF15, hF16⟩ := yf_rc_M_behind (u0 := u8) (N := N) d
    repeat' (first | with_reducible assumption | with_reducible refine Kf_br ?_ ?_ | with_reducible refine Kf_bnd ?_ (fun _ _ _ => ?_) | with_reducible refine Kf_ck ?_ | with_reducible refine Kf_ltm ?_ (fun _ _ => ?_) | with_reducible refine Kf_some ?_ | with_reducible refine Kf_bo (fun _ => ?_) | with_reducible exact yf_fm_M_node (by assumption) | with_reducible exact yf_fm_M_pattern (by assumption) | with_reducible exact yf_fm_M_wrong (by assumption) | with_reducible exact yf_fm_M_rule (by assumption) | with_reducible exact yf_fm_M_isSign (by assumption) | with_reducible exact yf_fm_M_isWord (by assumption) | with_reducible exact yf_fm_M_takeSign (by assumption) | with_reducible exact yf_fm_M_takeWord (by assumption) | with_reducible exact yf_fm_M_needSign (by assumption) | with_reducible exact yf_fm_M_needWord (by assumption) | with_reducible exact yf_fm_M_opens (by assumption) | with_reducible exact yf_fm_M_boundIn (by assumption) | with_reducible exact yf_fr_M_found (by assumption) | with_reducible exact yf_fm_M_bind (by assumption) | with_reducible exact yf_fm_M_isUnderscore (by assumption) | with_reducible exact yf_fm_M_unbind (by assumption) | with_reducible exact yf_fm_M_term (by assumption) | with_reducible exact yf_fm_M_namePattern (by assumption) | with_reducible exact yf_fr_M_patternAt (by assumption) | with_reducible exact yf_fm_M_beginsUnit (by assumption) | with_reducible exact yf_fm_M_save (by assumption) | with_reducible exact yf_fm_M_addRoot (by assumption) | with_reducible exact yf_fm_M_level (by assumption) | with_reducible exact yf_fm_M_reduce (by assumption) | with_reducible exact yf_fm_M_takeBack (by assumption) | with_reducible exact yf_fm_M_forgetSaved (by assumption) | with_reducible exact yf_fr_M_last (by assumption) | with_reducible exact yf_fr_M_clause (by assumption) | with_reducible exact yf_fm_M_predefinedOf (by assumption) | with_reducible exact yf_fm_M_function0 (by assumption) | with_reducible exact yf_fm_M_program (by assumption) | with_reducible exact hF0 _ (by assumption) | with_reducible exact hF1 _ _ (by assumption) | with_reducible exact hF2 _ _ _ (by assumption) | with_reducible exact hF3 _ _ _ (by assumption) | with_reducible exact hF4 _ (by assumption) | with_reducible exact hF5 _ _ (by assumption) | with_reducible exact hF6 _ _ (by assumption) | with_reducible exact hF7 _ _ (by assumption) | with_reducible exact hF8 _ _ (by assumption) | with_reducible exact hF9 _ (by assumption) | with_reducible exact hF10 _ (by assumption) | with_reducible exact hF11 _ (by assumption) | with_reducible exact hF12 _ (by assumption) | with_reducible exact hF13 _ (by assumption) | with_reducible exact hF14 _ (by assumption) | with_reducible exact hF15 _ (by assumption) | with_reducible exact hF16 _ _ (by assumption) | with_reducible exact yf_fb_M_receive_237 (by assumption) hF0 hF1 hF2 hF3 hF4 hF5 hF6 hF7 hF8 hF9 hF10 hF11 hF12 hF13 hF14 hF15 hF16 | with_reducible exact yf_fb_M_receive_98 (by assumption) hF0 hF1 hF2 hF3 hF4 hF5 hF6 hF7 hF8 hF9 hF10 hF11 hF12 hF13 hF14 hF15 hF16 | with_reducible exact yf_fb_M_receive_67 (by assumption) hF0 hF1 hF2 hF3 hF4 hF5 hF6 hF7 hF8 hF9 hF10 hF11 hF12 hF13 hF14 hF15 hF16 | with_reducible exact yf_fb_M_receive_0 (by assumption) hF0 hF1 hF2 hF3 hF4 hF5 hF6 hF7 hF8 hF9 hF10 hF11 hF12 hF13 hF14 hF15 hF16 | with_reducible refine Kf_ltv (fun _ => ?_) | with_reducible refine Kf_I ?_ (by decide) | with_reducible refine Kf_A ?_ | with_reducible refine Kf_J ?_ | with_reducible refine Kf_L ?_)
end
