set_option maxRecDepth 100000
section
variable {α : Type} {R : MS → Int32 ⊕ Nat → MS → Int32 → Prop} {A : Option (MS × α)} {m0 w0 m w v u m2 m3 w2 x y z mF mB wB mp mg : MS} {K nm Nk W W1 W2 WA WB : Nat → Nat} {T p n N q q1 X Y X1 X2 XA n0 n1 n2 n3 lo lo2 l1 l2 np ng p0 p2 p4 ν μ π a b L L' k d o M D s kd : Nat} {sc sc1 sc2 sc3 sc4 sc5 t t2 t3 t4 t5 : SCT} {e e2 e3 e4 e5 : List Nat × List Nat × Nat} {gd Rf Rg Zf R1 Z1 own cs : Bool} {BC : MS → Prop} {v1 v2 v3 v4 v5 v6 v1c r ξ φ ca cb cc : Int32} {S : SG_M_behind} {NC : Nat → Prop} {CL CM CL1 : Int32 × Int32 × Int32 → Prop} {l lp lg : List Nat}
theorem kc_ad : Kcc m (advc m q) := ⟨fun k hk => by unfold advc; exact upI_ne (by omega), fun _ _ => rfl⟩
theorem beg_pp (c : CTZ m0 w0 K T nm Nk) (hB : HBo N m0 w0 K T nm Nk d) (h : RLP m0 w0 T p m w) (hn : m.1 306 = I (n : Nat)) (hn2 : n ≤ 2 * p) (hR : RNs w (e :: t)) (nd : ND w) (h70 : w.1 70 = I ((o + 1 : Nat) : Int)) (ho : o + 1 ≤ 25) (h73 : w.1 73 = 0) (k7 : K p = 7) : PP (EXB N m0 w0 K T nm Nk p n (e :: t) o m w) (bTm ((hrc_Pa_matched N D).2.2.2.2.2.2.2.2.2.1 (advc m p)) (fun u11 r11 => bTm (hm_Pa_need N u11 11) (fun u12 r12 => bnd (hm_Tr_add N u12 8 (I (p : Nat)) r11 0 0) (fun u14 r14 => some (u14, .inl r14))))) (fb_M_block_49 N (rc_M_behind N d) () w (I (p : Nat)) (I (e.1.length : Nat)) 2) := by
  have T4 := c.1.1.1
  have pl : p < T := TWK_lt c h.2.2.2.2.1 (by omega) (by omega)
  have w69 := h.2.2.2.1
  have e1400 := e1400_p hR
  unfold fb_M_block_49
  rw [w69, i_suc, show decide ((2 : Int32) = 2) = true from rfl]
  refine r_lt ?_
  rw [br_tq]
  have s0 := STQ_0 (K := K) (Nk := Nk) (gd := false) (W := fun _ => 32) h hn hR nd
  have s1 := STQ_ad s0 pl (by omega)
  have aI : ∀ k, k ≠ 69 → (adv w p).1 k = w.1 k := fun k hk => by unfold adv; rw [upI_ne hk]
  refine pp_bTn (hB D (advc m p) (adv w p) (p + 1) n (e :: t) (o + 1) s1.1 s1.2.1.2.1 (by omega) (STQ_rn s1) (STQ_nd s1) (by rw [aI 70 (by decide)]; exact h70) ho (by rw [aI 73 (by decide)]; exact h73)) (fun m3 φ u1 r1 hz => ?_) (fun m3 kk u1 r1 hz => ?_)
  · obtain ⟨l, p3, n3, sc3, X3, W3, R3, Z3, CL3, d1, d2, d3, stp, d5, d6⟩ := hz
    have stt := STQ_tr s1 stp
    have hc3 := RLP_c c stt.1
    have hw3 := RLP_w c stt.1
    have h03 := stt.1.2.2.2.2.2.2
    have pT := stt.1.2.2.2.2.1
    have nb3 := stp.2.1
    by_cases k11 : K p3 = 11
    · have pl3 : p3 < T := TWK_lt c pT (by omega) (by omega)
      rw [need_e (s := 11) hc3 k11 (by decide) rfl, bTm_l, ndW_1 (s := 6) hw3 h03 (by decide) rfl k11, bnd_s, d1]
      have s2 := STQ_ad stt pl3 (by omega)
      have ad := add_e (N := N) (a := 8) (b := I (p : Nat)) (c := I ((l.headD 0 : Nat) : Int)) (d := 0) (f := 0) s2.2.1.2.1 (by omega)
      rw [ad, bnd_s]
      have sx := s2.2.2.2.2.1.2.1
      cases sc3 with
      | nil => exact sx.elim
      | cons e3 t3 =>
      refine pp_l (pk_bnd (pk_mo (unb_p (STQ_rn s2) e1400) (fun u7 _ un => ?_)))
      have s3 := STQ_cut (b := e.1.length) s2 (Nat.le_refl _) un (fun z => Bool.noConfusion z)
      refine pk_bnd (pk_mo (node_s (kd := 30) (N := N) (by decide)) (fun u8 r8 h8 => ?_))
      refine pk_bnd (pk_mo ar_s (fun u9 _ h9 => pk_some ?_))
      refine EXB_mk (kd := 8) (STQ_s2 s3 (by omega)) (SMS_tr h8.1 h9.1) (by rw [h9.2, h8.2.1]) (by omega) (by omega) (by omega) (by decide) (by rw [k7]; rfl) (fun gd => ?_)
      rw [Nat.zero_max, Bool.false_or, Bool.false_or]
      refine EXN_bc (B2 := BCo N (fun x => False ∨ CL3 x)) (fun m => ?_) (exn_blk (l := l) (q := p + 1) (q2 := p3) (m1 := m3) (n1 := n3) adN_nod.1 (by omega) (by omega) (Nat.le_refl _) (by omega) ⟨by omega, by omega, by omega⟩ (fun j h1 h2 => by rw [show j = p by omega]; omega) (fun j h1 h2 => by rw [show j = p3 by omega]; omega) (ERW_w (fun j h1 _ => mrg_r h1) d5) adN_o (Kc_tr kc_ad (PCG_k (PCG_add PCG_rf))) (by omega) stp.2.2.2.2.1.2.1)
      rw [BCo_e (fun x => ⟨fun z => z.elim False.elim id, Or.inr⟩)]
    · refine pp_rf (RFS_T (need_x (s := 11) hc3 k11 (by decide) rfl)) (fun mm => ?_)
      refine pk_bnd (pk_mo (ndW_0 (N := N) (s := 6) hw3 h03 (by decide) rfl k11) (fun v r2 z => ?_))
      have hz : Kfc v v := z
      refine Kf_pk (u0 := v) ?_
      obtain ⟨hF0, hF1, hF2, hF3, hF4, hF5, hF6, hF7, hF8, hF9, hF10, hF11, hF12, hF13, hF14, hF15, hF16⟩ := yf_rc_M_behind (u0 := v) (N := N) d
      repeat' (first | with_reducible assumption | with_reducible refine Kf_br ?_ ?_ | with_reducible refine Kf_bnd ?_ (fun _ _ _ => ?_) | with_reducible refine Kf_ck ?_ | with_reducible refine Kf_ltm ?_ (fun _ _ => ?_) | with_reducible refine Kf_some ?_ | with_reducible refine Kf_bo (fun _ => ?_) | with_reducible exact yf_fm_M_node (by assumption) | with_reducible exact yf_fm_M_pattern (by assumption) | with_reducible exact yf_fm_M_wrong (by assumption) | with_reducible exact yf_fm_M_rule (by assumption) | with_reducible exact yf_fm_M_isSign (by assumption) | with_reducible exact yf_fm_M_isWord (by assumption) | with_reducible exact yf_fm_M_takeSign (by assumption) | with_reducible exact yf_fm_M_takeWord (by assumption) | with_reducible exact yf_fm_M_needSign (by assumption) | with_reducible exact yf_fm_M_needWord (by assumption) | with_reducible exact yf_fm_M_opens (by assumption) | with_reducible exact yf_fm_M_boundIn (by assumption) | with_reducible exact yf_fr_M_found (by assumption) | with_reducible exact yf_fm_M_bind (by assumption) | with_reducible exact yf_fm_M_isUnderscore (by assumption) | with_reducible exact yf_fm_M_unbind (by assumption) | with_reducible exact yf_fm_M_term (by assumption) | with_reducible exact yf_fm_M_namePattern (by assumption) | with_reducible exact yf_fr_M_patternAt (by assumption) | with_reducible exact yf_fm_M_beginsUnit (by assumption) | with_reducible exact yf_fm_M_save (by assumption) | with_reducible exact yf_fm_M_addRoot (by assumption) | with_reducible exact yf_fm_M_level (by assumption) | with_reducible exact yf_fm_M_reduce (by assumption) | with_reducible exact yf_fm_M_takeBack (by assumption) | with_reducible exact yf_fm_M_forgetSaved (by assumption) | with_reducible exact yf_fr_M_last (by assumption) | with_reducible exact yf_fr_M_clause (by assumption) | with_reducible exact yf_fm_M_predefinedOf (by assumption) | with_reducible exact yf_fm_M_function0 (by assumption) | with_reducible exact yf_fm_M_program (by assumption) | with_reducible exact hF0 _ (by assumption) | with_reducible exact hF1 _ _ (by assumption) | with_reducible exact hF2 _ _ _ (by assumption) | with_reducible exact hF3 _ _ _ (by assumption) | with_reducible exact hF4 _ (by assumption) | with_reducible exact hF5 _ _ (by assumption) | with_reducible exact hF6 _ _ (by assumption) | with_reducible exact hF7 _ _ (by assumption) | with_reducible exact hF8 _ _ (by assumption) | with_reducible exact hF9 _ (by assumption) | with_reducible exact hF10 _ (by assumption) | with_reducible exact hF11 _ (by assumption) | with_reducible exact hF12 _ (by assumption) | with_reducible exact hF13 _ (by assumption) | with_reducible exact hF14 _ (by assumption) | with_reducible exact hF15 _ (by assumption) | with_reducible exact hF16 _ _ (by assumption) | with_reducible exact yf_fb_M_block_186 (by assumption) hF0 hF1 hF2 hF3 hF4 hF5 hF6 hF7 hF8 hF9 hF10 hF11 hF12 hF13 hF14 hF15 hF16 | with_reducible exact yf_fb_M_block_160 (by assumption) hF0 hF1 hF2 hF3 hF4 hF5 hF6 hF7 hF8 hF9 hF10 hF11 hF12 hF13 hF14 hF15 hF16 | with_reducible exact yf_fb_M_block_131 (by assumption) hF0 hF1 hF2 hF3 hF4 hF5 hF6 hF7 hF8 hF9 hF10 hF11 hF12 hF13 hF14 hF15 hF16 | with_reducible exact yf_fb_M_block_49 (by assumption) hF0 hF1 hF2 hF3 hF4 hF5 hF6 hF7 hF8 hF9 hF10 hF11 hF12 hF13 hF14 hF15 hF16 | with_reducible exact yf_fb_M_block_0 (by assumption) hF0 hF1 hF2 hF3 hF4 hF5 hF6 hF7 hF8 hF9 hF10 hF11 hF12 hF13 hF14 hF15 hF16 | with_reducible refine Kf_ltv (fun _ => ?_) | with_reducible refine Kf_I ?_ (by decide) | with_reducible refine Kf_A ?_ | with_reducible refine Kf_J ?_ | with_reducible refine Kf_L ?_)
  · have hz : Kfc u1 u1 := hz
    refine Kf_pk (u0 := u1) ?_
    obtain ⟨hF0, hF1, hF2, hF3, hF4, hF5, hF6, hF7, hF8, hF9, hF10, hF11, hF12, hF13, hF14, hF15, hF16⟩ := yf_rc_M_behind (u0 := u1) (N := N) d
    repeat' (first | with_reducible assumption | with_reducible refine Kf_br ?_ ?_ | with_reducible refine Kf_bnd ?_ (fun _ _ _ => ?_) | with_reducible refine Kf_ck ?_ | with_reducible refine Kf_ltm ?_ (fun _ _ => ?_) | with_reducible refine Kf_some ?_ | with_reducible refine Kf_bo (fun _ => ?_) | with_reducible exact yf_fm_M_node (by assumption) | with_reducible exact yf_fm_M_pattern (by assumption) | with_reducible exact yf_fm_M_wrong (by assumption) | with_reducible exact yf_fm_M_rule (by assumption) | with_reducible exact yf_fm_M_isSign (by assumption) | with_reducible exact yf_fm_M_isWord (by assumption) | with_reducible exact yf_fm_M_takeSign (by assumption) | with_reducible exact yf_fm_M_takeWord (by assumption) | with_reducible exact yf_fm_M_needSign (by assumption) | with_reducible exact yf_fm_M_needWord (by assumption) | with_reducible exact yf_fm_M_opens (by assumption) | with_reducible exact yf_fm_M_boundIn (by assumption) | with_reducible exact yf_fr_M_found (by assumption) | with_reducible exact yf_fm_M_bind (by assumption) | with_reducible exact yf_fm_M_isUnderscore (by assumption) | with_reducible exact yf_fm_M_unbind (by assumption) | with_reducible exact yf_fm_M_term (by assumption) | with_reducible exact yf_fm_M_namePattern (by assumption) | with_reducible exact yf_fr_M_patternAt (by assumption) | with_reducible exact yf_fm_M_beginsUnit (by assumption) | with_reducible exact yf_fm_M_save (by assumption) | with_reducible exact yf_fm_M_addRoot (by assumption) | with_reducible exact yf_fm_M_level (by assumption) | with_reducible exact yf_fm_M_reduce (by assumption) | with_reducible exact yf_fm_M_takeBack (by assumption) | with_reducible exact yf_fm_M_forgetSaved (by assumption) | with_reducible exact yf_fr_M_last (by assumption) | with_reducible exact yf_fr_M_clause (by assumption) | with_reducible exact yf_fm_M_predefinedOf (by assumption) | with_reducible exact yf_fm_M_function0 (by assumption) | with_reducible exact yf_fm_M_program (by assumption) | with_reducible exact hF0 _ (by assumption) | with_reducible exact hF1 _ _ (by assumption) | with_reducible exact hF2 _ _ _ (by assumption) | with_reducible exact hF3 _ _ _ (by assumption) | with_reducible exact hF4 _ (by assumption) | with_reducible exact hF5 _ _ (by assumption) | with_reducible exact hF6 _ _ (by assumption) | with_reducible exact hF7 _ _ (by assumption) | with_reducible exact hF8 _ _ (by assumption) | with_reducible exact hF9 _ (by assumption) | with_reducible exact hF10 _ (by assumption) | with_reducible exact hF11 _ (by assumption) | with_reducible exact hF12 _ (by assumption) | with_reducible exact hF13 _ (by assumption) | with_reducible exact hF14 _ (by assumption) | with_reducible exact hF15 _ (by assumption) | with_reducible exact hF16 _ _ (by assumption) | with_reducible exact yf_fb_M_block_186 (by assumption) hF0 hF1 hF2 hF3 hF4 hF5 hF6 hF7 hF8 hF9 hF10 hF11 hF12 hF13 hF14 hF15 hF16 | with_reducible exact yf_fb_M_block_160 (by assumption) hF0 hF1 hF2 hF3 hF4 hF5 hF6 hF7 hF8 hF9 hF10 hF11 hF12 hF13 hF14 hF15 hF16 | with_reducible exact yf_fb_M_block_131 (by assumption) hF0 hF1 hF2 hF3 hF4 hF5 hF6 hF7 hF8 hF9 hF10 hF11 hF12 hF13 hF14 hF15 hF16 | with_reducible exact yf_fb_M_block_49 (by assumption) hF0 hF1 hF2 hF3 hF4 hF5 hF6 hF7 hF8 hF9 hF10 hF11 hF12 hF13 hF14 hF15 hF16 | with_reducible exact yf_fb_M_block_0 (by assumption) hF0 hF1 hF2 hF3 hF4 hF5 hF6 hF7 hF8 hF9 hF10 hF11 hF12 hF13 hF14 hF15 hF16 | with_reducible refine Kf_ltv (fun _ => ?_) | with_reducible refine Kf_I ?_ (by decide) | with_reducible refine Kf_A ?_ | with_reducible refine Kf_J ?_ | with_reducible refine Kf_L ?_)
theorem if_pp (c : CTZ m0 w0 K T nm Nk) (hPa : HPa N m0 w0 K T nm Nk false d) (h : RLP m0 w0 T p m w) (hn : m.1 306 = I (n : Nat)) (hn2 : n ≤ 2 * p) (hR : RNs w (e :: t)) (nd : ND w) (h70 : w.1 70 = I ((o + 1 : Nat) : Int)) (ho : o + 1 ≤ 25) (h73 : w.1 73 = 0) (k13 : K p = 13) : PP (EXB N m0 w0 K T nm Nk p n (e :: t) o m w) (bTm ((hrc_Pa_matched N D).2.2.2.2.2.2.2.1 (advc m p) 0) (fun u11 r11 => bTm (hm_Pa_need N u11 11) (fun u12 r12 => bnd (hm_Tr_add N u12 10 (I (p : Nat)) 0 r11 0) (fun u14 r14 => some (u14, .inl r14))))) (fb_M_block_49 N (rc_M_behind N d) () w (I (p : Nat)) (I (e.1.length : Nat)) 8) := by
  have T4 := c.1.1.1
  have pl : p < T := TWK_lt c h.2.2.2.2.1 (by omega) (by omega)
  have w69 := h.2.2.2.1
  unfold fb_M_block_49 fb_M_block_131 fb_M_block_160
  rw [w69, i_suc, show decide ((8 : Int32) = 2) = false from rfl, show decide ((8 : Int32) = 3) = false from rfl, show decide ((8 : Int32) = 12) = false from rfl, show decide ((8 : Int32) = 8) = true from rfl]
  refine r_lt ?_
  rw [br_fq, br_fq, br_fq, br_fq]
  have s0 := STQ_0 (K := K) (Nk := Nk) (gd := false) (W := fun _ => 32) h hn hR nd
  have s1 := STQ_ad s0 pl (by omega)
  have aI : ∀ k, k ≠ 69 → (adv w p).1 k = w.1 k := fun k hk => by unfold adv; rw [upI_ne hk]
  refine r_bnd (pk_mo (node_s (kd := 31) (N := N) (by decide)) (fun u7 r7 h7 => r_ck (fun _ => r_lt ?_)))
  rw [br_tq]
  obtain ⟨b1, b2, -, av, ⟨b3, b3'⟩, b4, b5, b6, b7⟩ := h7
  have k8 : u7.2.2.1 23 av ≠ 12 ∧ u7.2.2.1 23 av ≠ 15 := by rw [b6]; decide
  have s2 := STQ_s (STQ_s s1 b1 b2) (SMS_B (k := 27) (x := I (e.1.length : Nat)) (SMS_rf (w := u7)) (Or.inr (Or.inr rfl)) k8) rfl
  rw [b7, b4]
  generalize hx : upA u7 27 (upd (u7.2.2.1 27) av (I (e.1.length : Nat))) = x at s2 ⊢
  have x23 : x.2.2.1 23 = u7.2.2.1 23 := by rw [← hx]; exact upA_no (by decide)
  have x1 : x.1 = u7.1 := by rw [← hx]; rfl
  clear hx
  have := t186 (cs := false) (o := o) (D := D) (v5 := av) (c5 := av + 1) (kd := 10) (ca := 0) c hPa s2 hn2 (by omega) (by rw [x1, b1.1 70 (by decide)]; show (adv w p).1 70 = _; rw [aI 70 (by decide)]; exact h70) ho (by rw [x1, b1.1 73 (by decide)]; show (adv w p).1 73 = _; rw [aI 73 (by decide)]; exact h73) (by rw [x23]; exact k8) (by rw [x1]; exact b5) ⟨by omega, by omega⟩ (by decide) (by rw [k13]; rfl) (fun m3 l p3 n3 sc3 X3 W3 R3 Z3 CL3 y1 y2 y3 y4 y5 y6 y7 y8 gd => ?_)
  · exact this
  · rw [Nat.zero_max, Bool.false_or, Bool.false_or]
    refine EXN_bc (B2 := BCo N (fun x => False ∨ CL3 x)) (fun m => ?_) (exn_if (l := l) (q := p + 1) (q2 := p3) (m1 := m3) (n1 := n3) adN_nod.1 (by omega) (by omega) (Nat.le_refl _) (by omega) ⟨by omega, by omega, by omega⟩ (fun j h1 h2 => by rw [show j = p by omega]; omega) (fun j h1 h2 => by rw [show j = p3 by omega]; omega) (PLW_w (fun j h1 _ => mrg_r h1) y3) adN_o (Kc_tr kc_ad (PCG_k (PCG_add PCG_rf))) (by omega))
    rw [BCo_e (fun x => ⟨fun z => z.elim False.elim id, Or.inr⟩)]
theorem cse_pp (c : CTZ m0 w0 K T nm Nk) (hE : HE N m0 w0 K T nm Nk d) (hPa : HPa N m0 w0 K T nm Nk true d) (h : RLP m0 w0 T p m w) (hn : m.1 306 = I (n : Nat)) (hn2 : n ≤ 2 * p) (hR : RNs w (e :: t)) (nd : ND w) (h70 : w.1 70 = I ((o + 1 : Nat) : Int)) (ho : o + 1 ≤ 25) (h73 : w.1 73 = 0) (k8 : K p = 8) : PP (EXB N m0 w0 K T nm Nk p n (e :: t) o m w) (bTm ((hrc_Pa_matched N D).2.2.2.2.2.2.2.2.2.2.2.2.2.2.1 (advc m p) 1) (fun u4 r4 => bTm (hm_Pa_need N u4 15) (fun u5 r5 => bTm ((hrc_Pa_matched N D).2.2.2.2.2.2.2.1 u5 1) (fun u11 r11 => bTm (hm_Pa_need N u11 11) (fun u12 r12 => bnd (hm_Tr_add N u12 9 (I (p : Nat)) r4 r11 0) (fun u14 r14 => some (u14, .inl r14))))))) (fb_M_block_49 N (rc_M_behind N d) () w (I (p : Nat)) (I (e.1.length : Nat)) 3) := by
  have T4 := c.1.1.1
  have pl : p < T := TWK_lt c h.2.2.2.2.1 (by omega) (by omega)
  have w69 := h.2.2.2.1
  unfold fb_M_block_49
  rw [w69, i_suc, show decide ((3 : Int32) = 2) = false from rfl, show decide ((3 : Int32) = 3) = true from rfl]
  refine r_lt ?_
  rw [br_fq, br_tq]
  have s0 := STQ_0 (K := K) (Nk := Nk) (gd := false) (W := fun _ => 32) h hn hR nd
  have s1 := STQ_ad s0 pl (by omega)
  have aI : ∀ k, k ≠ 69 → (adv w p).1 k = w.1 k := fun k hk => by unfold adv; rw [upI_ne hk]
  refine pp_bTn (hE D (advc m p) (adv w p) (p + 1) n (e :: t) false (o + 1) s1.1 s1.2.1.2.1 (by omega) (STQ_rn s1) (STQ_nd s1) (by rw [aI 70 (by decide)]; exact h70) ho (by rw [aI 73 (by decide), h73]; rfl)) (fun m2 ξ u1 r1 hz => ?_) (fun m3 kk u1 r1 hz => ?_)
  · obtain ⟨q, n2, μ, sc2, X, W, Rf, Zf, CL, d1, d2, d3, st2, d5, d6, d7⟩ := hz
    have stt := STQ_tr s1 st2
    have hc3 := RLP_c c stt.1
    have hw3 := RLP_w c stt.1
    have h03 := stt.1.2.2.2.2.2.2
    have qT := stt.1.2.2.2.2.1
    have nb2 := st2.2.1
    have f7 := st2.2.2.2.2.1.2.2.2.2.2.2.1
    by_cases k15 : K q = 15
    · have ql : q < T := TWK_lt c qT (by omega) (by omega)
      rw [need_e (s := 15) hc3 k15 (by decide) rfl, bTm_l, ndW_1 (s := 10) hw3 h03 (by decide) rfl k15, bnd_s]
      have s2 := STQ_ad stt ql (by omega)
      have sx := s2.2.2.2.2.1.2.1
      cases sc2 with
      | nil => exact sx.elim
      | cons e2 t2 =>
      rw [e60_p (STQ_rn s2)]
      refine r_ck (fun _ => r_lt ?_)
      unfold fb_M_block_131 fb_M_block_160
      rw [show decide ((3 : Int32) = 12) = false from rfl, br_fq, show decide ((3 : Int32) = 3) = true from rfl, br_tq, show decide ((3 : Int32) = 8) = false from rfl]
      refine r_bnd (pk_mo (node_s (kd := 21) (N := N) (by decide)) (fun u7 r7 h7 => r_ck (fun _ => r_lt ?_)))
      rw [br_fq]
      obtain ⟨b1, b2, -, av, ⟨b3, b3'⟩, b4, b5, b6, b7⟩ := h7
      have k9 : u7.2.2.1 23 av ≠ 12 ∧ u7.2.2.1 23 av ≠ 15 := by rw [b6]; decide
      have s3 := STQ_s (STQ_s s2 b1 b2) (SMS_B (k := 27) (x := I (e2.1.length : Nat)) (SMS_rf (w := u7)) (Or.inr (Or.inr rfl)) k9) rfl
      rw [b7, b4, d1]
      generalize hx : upA u7 27 (upd (u7.2.2.1 27) av (I (e2.1.length : Nat))) = x at s3 ⊢
      have x23 : x.2.2.1 23 = u7.2.2.1 23 := by rw [← hx]; exact upA_no (by decide)
      have x1 : x.1 = u7.1 := by rw [← hx]; rfl
      clear hx
      have bI : ∀ k, k ≠ 69 → (adv u1 q).1 k = u1.1 k := fun k hk => by unfold adv; rw [upI_ne hk]
      have sw := st2.2.2.2.2.1
      have := t186 (cs := true) (o := o) (D := D) (v5 := av) (c5 := av + 1) (kd := 9) (ca := I (μ : Nat)) c hPa s3 hn2 (by omega) (by rw [x1, b1.1 70 (by decide), bI 70 (by decide), f7.1 70 (by decide), aI 70 (by decide)]; exact h70) ho (by rw [x1, b1.1 73 (by decide), bI 73 (by decide), f7.1 73 (by decide), aI 73 (by decide)]; exact h73) (by rw [x23]; exact k9) (by rw [x1]; exact b5) ⟨by omega, by omega⟩ (by decide) (by rw [k8]; rfl) (fun m3 l p3 n3 sc3 X3 W3 R3 Z3 CL3 y1 y2 y3 y4 y5 y6 y7 y8 gd => ?_)
      · exact this
      · rw [Nat.zero_max, Bool.false_or, Bool.false_or]
        refine EXN_bc (B2 := BCo N (fun x => (False ∨ CL x) ∨ CL3 x)) (fun m => ?_) (exn_cas (l := l) (q := p + 1) (q2 := q) (q3 := q + 1) (q4 := p3) (m0 := m2) (l0 := n) (n0 := n2) (m1 := m3) (li := n2) (n1 := n3) adN_nod.1 (by omega) (by omega) (Nat.le_refl _) (by omega) ⟨by omega, by omega, by omega, by omega, by omega⟩ (fun j h1 h2 => by rw [show j = p by omega]; omega) (fun j h1 h2 => by rw [show j = q by omega]; omega) (fun j h1 h2 => by rw [show j = p3 by omega]; omega) (EXN_w (fun j h1 h2 => by rw [mrg_l (by omega), mrg_r h1]) d6) (Nat.le_refl _) (KPO_tr y1 adN_o (by omega)) (Kc_tr (Kc_tr kc_ad y2) (Kc_tr kc_ad (PCG_k (PCG_add PCG_rf)))) (by omega) (PLW_w (fun j h1 _ => mrg_r h1) y3) (by omega) adN_o (Kc_tr kc_ad (PCG_k (PCG_add PCG_rf))) (by omega) BCo_st ⟨sw.2.2.2.1.1, SCX_len sw.2.1, sw.2.2.2.1.2⟩)
        rw [BCo_or, BCo_e (fun x => ⟨fun z => z.elim False.elim id, Or.inr⟩)]
    · refine pp_rf (RFS_T (need_x (s := 15) hc3 k15 (by decide) rfl)) (fun mm => ?_)
      refine pk_bnd (pk_mo (ndW_0 (N := N) (s := 10) hw3 h03 (by decide) rfl k15) (fun v r2 z => ?_))
      have hz : Kfc v v := z
      refine Kf_pk (u0 := v) ?_
      obtain ⟨hF0, hF1, hF2, hF3, hF4, hF5, hF6, hF7, hF8, hF9, hF10, hF11, hF12, hF13, hF14, hF15, hF16⟩ := yf_rc_M_behind (u0 := v) (N := N) d
      repeat' (first | with_reducible assumption | with_reducible refine Kf_br ?_ ?_ | with_reducible refine Kf_bnd ?_ (fun _ _ _ => ?_) | with_reducible refine Kf_ck ?_ | with_reducible refine Kf_ltm ?_ (fun _ _ => ?_) | with_reducible refine Kf_some ?_ | with_reducible refine Kf_bo (fun _ => ?_) | with_reducible exact yf_fm_M_node (by assumption) | with_reducible exact yf_fm_M_pattern (by assumption) | with_reducible exact yf_fm_M_wrong (by assumption) | with_reducible exact yf_fm_M_rule (by assumption) | with_reducible exact yf_fm_M_isSign (by assumption) | with_reducible exact yf_fm_M_isWord (by assumption) | with_reducible exact yf_fm_M_takeSign (by assumption) | with_reducible exact yf_fm_M_takeWord (by assumption) | with_reducible exact yf_fm_M_needSign (by assumption) | with_reducible exact yf_fm_M_needWord (by assumption) | with_reducible exact yf_fm_M_opens (by assumption) | with_reducible exact yf_fm_M_boundIn (by assumption) | with_reducible exact yf_fr_M_found (by assumption) | with_reducible exact yf_fm_M_bind (by assumption) | with_reducible exact yf_fm_M_isUnderscore (by assumption) | with_reducible exact yf_fm_M_unbind (by assumption) | with_reducible exact yf_fm_M_term (by assumption) | with_reducible exact yf_fm_M_namePattern (by assumption) | with_reducible exact yf_fr_M_patternAt (by assumption) | with_reducible exact yf_fm_M_beginsUnit (by assumption) | with_reducible exact yf_fm_M_save (by assumption) | with_reducible exact yf_fm_M_addRoot (by assumption) | with_reducible exact yf_fm_M_level (by assumption) | with_reducible exact yf_fm_M_reduce (by assumption) | with_reducible exact yf_fm_M_takeBack (by assumption) | with_reducible exact yf_fm_M_forgetSaved (by assumption) | with_reducible exact yf_fr_M_last (by assumption) | with_reducible exact yf_fr_M_clause (by assumption) | with_reducible exact yf_fm_M_predefinedOf (by assumption) | with_reducible exact yf_fm_M_function0 (by assumption) | with_reducible exact yf_fm_M_program (by assumption) | with_reducible exact hF0 _ (by assumption) | with_reducible exact hF1 _ _ (by assumption) | with_reducible exact hF2 _ _ _ (by assumption) | with_reducible exact hF3 _ _ _ (by assumption) | with_reducible exact hF4 _ (by assumption) | with_reducible exact hF5 _ _ (by assumption) | with_reducible exact hF6 _ _ (by assumption) | with_reducible exact hF7 _ _ (by assumption) | with_reducible exact hF8 _ _ (by assumption) | with_reducible exact hF9 _ (by assumption) | with_reducible exact hF10 _ (by assumption) | with_reducible exact hF11 _ (by assumption) | with_reducible exact hF12 _ (by assumption) | with_reducible exact hF13 _ (by assumption) | with_reducible exact hF14 _ (by assumption) | with_reducible exact hF15 _ (by assumption) | with_reducible exact hF16 _ _ (by assumption) | with_reducible exact yf_fb_M_block_186 (by assumption) hF0 hF1 hF2 hF3 hF4 hF5 hF6 hF7 hF8 hF9 hF10 hF11 hF12 hF13 hF14 hF15 hF16 | with_reducible exact yf_fb_M_block_160 (by assumption) hF0 hF1 hF2 hF3 hF4 hF5 hF6 hF7 hF8 hF9 hF10 hF11 hF12 hF13 hF14 hF15 hF16 | with_reducible exact yf_fb_M_block_131 (by assumption) hF0 hF1 hF2 hF3 hF4 hF5 hF6 hF7 hF8 hF9 hF10 hF11 hF12 hF13 hF14 hF15 hF16 | with_reducible exact yf_fb_M_block_49 (by assumption) hF0 hF1 hF2 hF3 hF4 hF5 hF6 hF7 hF8 hF9 hF10 hF11 hF12 hF13 hF14 hF15 hF16 | with_reducible exact yf_fb_M_block_0 (by assumption) hF0 hF1 hF2 hF3 hF4 hF5 hF6 hF7 hF8 hF9 hF10 hF11 hF12 hF13 hF14 hF15 hF16 | with_reducible refine Kf_ltv (fun _ => ?_) | with_reducible refine Kf_I ?_ (by decide) | with_reducible refine Kf_A ?_ | with_reducible refine Kf_J ?_ | with_reducible refine Kf_L ?_)
  · have hz : Kfc u1 u1 := hz
    refine Kf_pk (u0 := u1) ?_
    obtain ⟨hF0, hF1, hF2, hF3, hF4, hF5, hF6, hF7, hF8, hF9, hF10, hF11, hF12, hF13, hF14, hF15, hF16⟩ := yf_rc_M_behind (u0 := u1) (N := N) d
    repeat' (first | with_reducible assumption | with_reducible refine Kf_br ?_ ?_ | with_reducible refine Kf_bnd ?_ (fun _ _ _ => ?_) | with_reducible refine Kf_ck ?_ | with_reducible refine Kf_ltm ?_ (fun _ _ => ?_) | with_reducible refine Kf_some ?_ | with_reducible refine Kf_bo (fun _ => ?_) | with_reducible exact yf_fm_M_node (by assumption) | with_reducible exact yf_fm_M_pattern (by assumption) | with_reducible exact yf_fm_M_wrong (by assumption) | with_reducible exact yf_fm_M_rule (by assumption) | with_reducible exact yf_fm_M_isSign (by assumption) | with_reducible exact yf_fm_M_isWord (by assumption) | with_reducible exact yf_fm_M_takeSign (by assumption) | with_reducible exact yf_fm_M_takeWord (by assumption) | with_reducible exact yf_fm_M_needSign (by assumption) | with_reducible exact yf_fm_M_needWord (by assumption) | with_reducible exact yf_fm_M_opens (by assumption) | with_reducible exact yf_fm_M_boundIn (by assumption) | with_reducible exact yf_fr_M_found (by assumption) | with_reducible exact yf_fm_M_bind (by assumption) | with_reducible exact yf_fm_M_isUnderscore (by assumption) | with_reducible exact yf_fm_M_unbind (by assumption) | with_reducible exact yf_fm_M_term (by assumption) | with_reducible exact yf_fm_M_namePattern (by assumption) | with_reducible exact yf_fr_M_patternAt (by assumption) | with_reducible exact yf_fm_M_beginsUnit (by assumption) | with_reducible exact yf_fm_M_save (by assumption) | with_reducible exact yf_fm_M_addRoot (by assumption) | with_reducible exact yf_fm_M_level (by assumption) | with_reducible exact yf_fm_M_reduce (by assumption) | with_reducible exact yf_fm_M_takeBack (by assumption) | with_reducible exact yf_fm_M_forgetSaved (by assumption) | with_reducible exact yf_fr_M_last (by assumption) | with_reducible exact yf_fr_M_clause (by assumption) | with_reducible exact yf_fm_M_predefinedOf (by assumption) | with_reducible exact yf_fm_M_function0 (by assumption) | with_reducible exact yf_fm_M_program (by assumption) | with_reducible exact hF0 _ (by assumption) | with_reducible exact hF1 _ _ (by assumption) | with_reducible exact hF2 _ _ _ (by assumption) | with_reducible exact hF3 _ _ _ (by assumption) | with_reducible exact hF4 _ (by assumption) | with_reducible exact hF5 _ _ (by assumption) | with_reducible exact hF6 _ _ (by assumption) | with_reducible exact hF7 _ _ (by assumption) | with_reducible exact hF8 _ _ (by assumption) | with_reducible exact hF9 _ (by assumption) | with_reducible exact hF10 _ (by assumption) | with_reducible exact hF11 _ (by assumption) | with_reducible exact hF12 _ (by assumption) | with_reducible exact hF13 _ (by assumption) | with_reducible exact hF14 _ (by assumption) | with_reducible exact hF15 _ (by assumption) | with_reducible exact hF16 _ _ (by assumption) | with_reducible exact yf_fb_M_block_186 (by assumption) hF0 hF1 hF2 hF3 hF4 hF5 hF6 hF7 hF8 hF9 hF10 hF11 hF12 hF13 hF14 hF15 hF16 | with_reducible exact yf_fb_M_block_160 (by assumption) hF0 hF1 hF2 hF3 hF4 hF5 hF6 hF7 hF8 hF9 hF10 hF11 hF12 hF13 hF14 hF15 hF16 | with_reducible exact yf_fb_M_block_131 (by assumption) hF0 hF1 hF2 hF3 hF4 hF5 hF6 hF7 hF8 hF9 hF10 hF11 hF12 hF13 hF14 hF15 hF16 | with_reducible exact yf_fb_M_block_49 (by assumption) hF0 hF1 hF2 hF3 hF4 hF5 hF6 hF7 hF8 hF9 hF10 hF11 hF12 hF13 hF14 hF15 hF16 | with_reducible exact yf_fb_M_block_0 (by assumption) hF0 hF1 hF2 hF3 hF4 hF5 hF6 hF7 hF8 hF9 hF10 hF11 hF12 hF13 hF14 hF15 hF16 | with_reducible refine Kf_ltv (fun _ => ?_) | with_reducible refine Kf_I ?_ (by decide) | with_reducible refine Kf_A ?_ | with_reducible refine Kf_J ?_ | with_reducible refine Kf_L ?_)
end
