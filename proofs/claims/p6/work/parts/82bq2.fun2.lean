set_option maxRecDepth 100000
section
variable {α : Type} {R : MS → Int32 ⊕ Nat → MS → Int32 → Prop} {A : Option (MS × α)} {m0 w0 m w v u m2 m3 w2 x' y' z' mF mB wB mp mg : MS} {K nm Nk W W1 W2 WA WB : Nat → Nat} {T p n N q q1 q3 qx X Y X1 X2 XA n0 n1 n2 n3 lo lo2 l1 l2 np ng p0 p2 p4 ν μ π a b L L' k d o oo M D s s2 kd j j2 tok : Nat} {sc sc1 sc2 sc3 sc4 sc5 scB t t2 t3 t4 t5 : SCT} {e e2 e3 e4 e5 : List Nat × List Nat × Nat} {gd Rf Rg Zf Zg R1 Z1 own cs : Bool} {BC : MS → Prop} {v1 v2 v3 v4 v5 v6 v1c r ξ φ ca cb cc x y : Int32} {S : SG_M_behind} {NC : Nat → Prop} {CL CM CL1 : Int32 × Int32 × Int32 → Prop} {l lp lg : List Nat}
theorem adP_e : ∃ r m', hm_Co_addPlace N m = some (m', r) ∧ PCG m m' ∧ (∀ k, k ≠ 449 → m'.1 k = m.1 k) ∧ m'.2.2.1 = m.2.2.1 := by
  show ∃ r m', hb_Co_addPlace_0 N () m = some (m', r) ∧ _
  unfold hb_Co_addPlace_0
  cases decide (m.1 449 < 400) with
  | true => exact ⟨_, _, rfl, PCG_I PCG_rf (Or.inr (Or.inl rfl)), fun k hk => upI_ne hk, rfl⟩
  | false => exact ⟨_, _, rfl, PCG_rf, fun _ _ => rfl, rfl⟩
theorem cl_x (hw : WP w K T p) (h0 : w.1 67 = 0) (k20 : K p ≠ 20) : ∀ d, PK (fun w2 (_ : Int32) => FLW w2) ((rc_M_behind N d).2.2.2.2.2.2.2.2.2.2.2.2.2.2.2.2 w v1)
  | 0 => pk_none
  | d + 1 => by
    show PK _ (fb_M_clause_0 N (rc_M_behind N d) (gg_M_clause N (rc_M_behind N d) N) w v1)
    unfold fb_M_clause_0
    refine pk_lt (pk_ck (fun _ => pk_lt (pk_ck (fun _ => pk_lt (pk_ck (fun _ => pk_lt (pk_ck (fun _ => pk_lt (pk_ck (fun _ => pk_lt ?_))))))))))
    generalize hx6 : upA _ 40 _ = x6
    have i6 : ∀ k, k ≠ 46 → x6.1 k = w.1 k := fun k hk => by
      rw [← hx6]
      show (upI w 46 (w.1 46 + 1)).1 k = _
      exact upI_ne hk
    have r6 : ∀ k, k < 40 → x6.2.2.1 k = w.2.2.1 k := fun k hk => by
      rw [← hx6, upA_no (by omega), upA_no (by omega), upA_no (by omega), upA_no (by omega), upA_no (by omega)]
      rfl
    clear hx6
    have hw6 : WP x6 K T p := ⟨⟨hw.1.1, fun j hj => by rw [r6 6 (by omega)]; exact hw.1.2.1 j hj, fun j hj => by rw [r6 7 (by omega)]; exact hw.1.2.2 j hj⟩, by rw [i6 69 (by decide)]; exact hw.2.1, hw.2.2⟩
    refine pk_bnd (pk_mo (ndS_0 (N := N) (s := 0) hw6 (by rw [i6 67 (by decide)]; exact h0) (by decide) rfl k20) (fun v r2 z => ?_))
    have hz : Kfc v v := z
    refine Kf_pk (u0 := v) ?_
    obtain ⟨hF0, hF1, hF2, hF3, hF4, hF5, hF6, hF7, hF8, hF9, hF10, hF11, hF12, hF13, hF14, hF15, hF16⟩ := yf_rc_M_behind (u0 := v) (N := N) d
    repeat' (first | with_reducible assumption | with_reducible refine Kf_br ?_ ?_ | with_reducible refine Kf_bnd ?_ (fun _ _ _ => ?_) | with_reducible refine Kf_ck ?_ | with_reducible refine Kf_ltm ?_ (fun _ _ => ?_) | with_reducible refine Kf_some ?_ | with_reducible refine Kf_bo (fun _ => ?_) | with_reducible exact yf_fm_M_node (by assumption) | with_reducible exact yf_fm_M_pattern (by assumption) | with_reducible exact yf_fm_M_wrong (by assumption) | with_reducible exact yf_fm_M_rule (by assumption) | with_reducible exact yf_fm_M_isSign (by assumption) | with_reducible exact yf_fm_M_isWord (by assumption) | with_reducible exact yf_fm_M_takeSign (by assumption) | with_reducible exact yf_fm_M_takeWord (by assumption) | with_reducible exact yf_fm_M_needSign (by assumption) | with_reducible exact yf_fm_M_needWord (by assumption) | with_reducible exact yf_fm_M_opens (by assumption) | with_reducible exact yf_fm_M_boundIn (by assumption) | with_reducible exact yf_fr_M_found (by assumption) | with_reducible exact yf_fm_M_bind (by assumption) | with_reducible exact yf_fm_M_isUnderscore (by assumption) | with_reducible exact yf_fm_M_unbind (by assumption) | with_reducible exact yf_fm_M_term (by assumption) | with_reducible exact yf_fm_M_namePattern (by assumption) | with_reducible exact yf_fr_M_patternAt (by assumption) | with_reducible exact yf_fm_M_beginsUnit (by assumption) | with_reducible exact yf_fm_M_save (by assumption) | with_reducible exact yf_fm_M_addRoot (by assumption) | with_reducible exact yf_fm_M_level (by assumption) | with_reducible exact yf_fm_M_reduce (by assumption) | with_reducible exact yf_fm_M_takeBack (by assumption) | with_reducible exact yf_fm_M_forgetSaved (by assumption) | with_reducible exact yf_fr_M_last (by assumption) | with_reducible exact yf_fr_M_clause (by assumption) | with_reducible exact yf_fm_M_predefinedOf (by assumption) | with_reducible exact yf_fm_M_function0 (by assumption) | with_reducible exact yf_fm_M_program (by assumption) | with_reducible exact hF0 _ (by assumption) | with_reducible exact hF1 _ _ (by assumption) | with_reducible exact hF2 _ _ _ (by assumption) | with_reducible exact hF3 _ _ _ (by assumption) | with_reducible exact hF4 _ (by assumption) | with_reducible exact hF5 _ _ (by assumption) | with_reducible exact hF6 _ _ (by assumption) | with_reducible exact hF7 _ _ (by assumption) | with_reducible exact hF8 _ _ (by assumption) | with_reducible exact hF9 _ (by assumption) | with_reducible exact hF10 _ (by assumption) | with_reducible exact hF11 _ (by assumption) | with_reducible exact hF12 _ (by assumption) | with_reducible exact hF13 _ (by assumption) | with_reducible exact hF14 _ (by assumption) | with_reducible exact hF15 _ (by assumption) | with_reducible exact hF16 _ _ (by assumption) | with_reducible exact yf_fb_M_clause_183 (by assumption) hF0 hF1 hF2 hF3 hF4 hF5 hF6 hF7 hF8 hF9 hF10 hF11 hF12 hF13 hF14 hF15 hF16 (yf_gg_M_clause hF0 hF1 hF2 hF3 hF4 hF5 hF6 hF7 hF8 hF9 hF10 hF11 hF12 hF13 hF14 hF15 hF16 _) | with_reducible exact yf_fb_M_clause_172 (by assumption) hF0 hF1 hF2 hF3 hF4 hF5 hF6 hF7 hF8 hF9 hF10 hF11 hF12 hF13 hF14 hF15 hF16 (yf_gg_M_clause hF0 hF1 hF2 hF3 hF4 hF5 hF6 hF7 hF8 hF9 hF10 hF11 hF12 hF13 hF14 hF15 hF16 _) | with_reducible exact yf_fb_M_clause_134 (by assumption) hF0 hF1 hF2 hF3 hF4 hF5 hF6 hF7 hF8 hF9 hF10 hF11 hF12 hF13 hF14 hF15 hF16 (yf_gg_M_clause hF0 hF1 hF2 hF3 hF4 hF5 hF6 hF7 hF8 hF9 hF10 hF11 hF12 hF13 hF14 hF15 hF16 _) | with_reducible exact yf_fb_M_clause_103 (by assumption) hF0 hF1 hF2 hF3 hF4 hF5 hF6 hF7 hF8 hF9 hF10 hF11 hF12 hF13 hF14 hF15 hF16 (yf_gg_M_clause hF0 hF1 hF2 hF3 hF4 hF5 hF6 hF7 hF8 hF9 hF10 hF11 hF12 hF13 hF14 hF15 hF16 _) | with_reducible exact yf_fb_M_clause_75 (by assumption) hF0 hF1 hF2 hF3 hF4 hF5 hF6 hF7 hF8 hF9 hF10 hF11 hF12 hF13 hF14 hF15 hF16 (yf_gg_M_clause hF0 hF1 hF2 hF3 hF4 hF5 hF6 hF7 hF8 hF9 hF10 hF11 hF12 hF13 hF14 hF15 hF16 _) | with_reducible exact yf_fb_M_clause_0 (by assumption) hF0 hF1 hF2 hF3 hF4 hF5 hF6 hF7 hF8 hF9 hF10 hF11 hF12 hF13 hF14 hF15 hF16 (yf_gg_M_clause hF0 hF1 hF2 hF3 hF4 hF5 hF6 hF7 hF8 hF9 hF10 hF11 hF12 hF13 hF14 hF15 hF16 _) | with_reducible exact (yf_gg_M_clause hF0 hF1 hF2 hF3 hF4 hF5 hF6 hF7 hF8 hF9 hF10 hF11 hF12 hF13 hF14 hF15 hF16 _) _ _ _ _ (by assumption) | with_reducible refine Kf_ltv (fun _ => ?_) | with_reducible refine Kf_I ?_ (by decide) | with_reducible refine Kf_A ?_ | with_reducible refine Kf_J ?_ | with_reducible refine Kf_L ?_)
theorem HFu_s (c : CTZ m0 w0 K T nm Nk) (cA : CTA m0 w0 K T) (c45 : ∀ p, p ≤ T → K p ≠ 45) (hC : HCl N m0 w0 K T nm Nk d) : HFu N m0 w0 K T nm Nk (d + 1) := by
  intro D m w p n sc o h hn hn2 hR nd h70 ho h73 k12
  show PP _ (hb_Pa_primary_0 N (hrc_Pa_matched N D) () m) (fb_M_fun_0 N (rc_M_behind N d) (gg_M_fun N (rc_M_behind N d) N) w (I (p : Nat)))
  have T4 := c.1.1.1
  have pl : p < T := TWK_lt c h.2.2.2.2.1 (by omega) (by omega)
  have hc := RLP_c c h
  have hw := RLP_w c h
  have w69 := h.2.2.2.1
  unfold hb_Pa_primary_0
  rw [look_e hc (c45 _ h.2.2.2.2.1), bTm_l, k12, show decide (I ((12 : Nat) : Int) = 1) = false from rfl, br_fq, show decide (I ((12 : Nat) : Int) = 2) = false from rfl, br_fq, show decide (I ((12 : Nat) : Int) = 3) = false from rfl, br_fq, show decide (I ((12 : Nat) : Int) = 4) = false from rfl, br_fq, show decide (I ((12 : Nat) : Int) = 5) = false from rfl, br_fq, show decide (I ((12 : Nat) : Int) = 6) = false from rfl, br_fq, show decide (I ((12 : Nat) : Int) = 7) = false from rfl, br_fq, show decide (I ((12 : Nat) : Int) = 8) = false from rfl, br_fq, show decide (I ((12 : Nat) : Int) = 9) = false from rfl, br_fq, show decide (I ((12 : Nat) : Int) = 10) = false from rfl, br_fq, show decide (I ((12 : Nat) : Int) = 11) = false from rfl, br_fq, show decide (I ((12 : Nat) : Int) = 12) = true from rfl, br_tq, bTm_id]
  cases D with
  | zero => exact pp_nl
  | succ D =>
  show PP _ (hb_Pa_fun_0 N (hrc_Pa_matched N D) () m) _
  unfold hb_Pa_fun_0 fb_M_fun_0
  rw [hc.2.1, w69, i_suc]
  refine l_lt (r_lt ?_)
  have s0 := STQ_0 (K := K) (Nk := Nk) (gd := false) (W := fun _ => 32) h hn hR nd
  have s1 := STQ_ad s0 pl (by omega)
  have hc1 := RLP_c c s1.1
  have hw1 := RLP_w c s1.1
  have h01 := s1.1.2.2.2.2.2.2
  have pT1 := s1.1.2.2.2.2.1
  have k46 := hc1.1.1.k46 hc1.2.2
  show PP _ (bTm (hm_Pa_look N (advc m p)) _) (ck (inb ((adv w p).1 69) (ln 6)) (br (decide ((adv w p).2.2.1 6 ((adv w p).1 69).toNatClampNeg = 1)) _ _))
  have w6 : (adv w p).2.2.1 6 ((adv w p).1 69).toNatClampNeg = I (srK (K (p + 1)) : Nat) := by
    rw [hw1.2.1, tnI (n := p + 1) rfl (by omega)]
    exact hw1.1.2.1 (p + 1) pT1
  rw [look_e hc1 (c45 _ pT1), bTm_l, w6, decide_eq_decide.mpr (srK_1 (K (p + 1)) k46), I_dn (a := K (p + 1)) (b := 2) (s := 2) (by omega) (by decide) rfl]
  refine r_ck (fun _ => ?_)
  by_cases k2 : K (p + 1) = 2
  · rw [decide_eq_true k2, br_tq, br_tq]
    exact fof_pp c cA h hn hn2 hR nd k12 k2
  · rw [decide_eq_false k2, br_fq, br_fq]
    refine r_lt (r_bnd (pk_mo (KDN_nd (v1 := 26) (by decide)) (fun u16 r16 h16 => ?_)))
    obtain ⟨n16, h1669, a16, e16, e16', k16⟩ := h16
    have s16 : SMS w u16 := SMS_tr (SMS_I SMS_ad (by decide) (by decide)) n16
    have u69 : u16.1 69 = I ((p + 1 : Nat) : Int) := by
      rw [h1669, upI_ne (by decide)]
      exact upI_at
    rw [e16]
    have r16 : RNs u16 sc := RNs_e hR (s16.1 65 (by decide)) (fun k h1 h2 => s16.2.1 k (by unfold SMX; omega))
    have hl : 1 ≤ sc.length ∧ sc.length ≤ 27 := hR.2.1
    have u65 : u16.1 65 + 1 = I (sc.length : Nat) := by
      rw [r16.1, i_suc]
      congr 2
      omega
    refine r_lt ?_
    have e65 : (upI u16 65 (u16.1 65 + 1)).1 65 = I (sc.length : Nat) := by rw [upI_at]; exact u65
    rw [e65, tnI (n := sc.length) rfl (by omega)]
    refine r_ck (fun zin => ?_)
    have hl6 : sc.length ≤ 26 := by
      obtain ⟨i, hi, hi2⟩ := inb_N zin
      have l60 : ln 60 = 27 := rfl
      have := (I_eq (x := (sc.length : Nat)) (y := (i : Nat)) (by omega) (by omega) (by omega) (by omega)).mp hi
      omega
    refine r_lt ?_
    generalize hx17 : upI u16 65 (u16.1 65 + 1) = x17 at e65 ⊢
    have i17 : ∀ k, k ≠ 65 → x17.1 k = u16.1 k := fun k hk => by rw [← hx17]; exact upI_ne hk
    have r17 : x17.2.2.1 = u16.2.2.1 := by rw [← hx17]; rfl
    have h65 : x17.1 65 = u16.1 65 + 1 := by rw [← hx17]; exact upI_at
    clear hx17
    generalize hx18 : upA x17 60 (upd (x17.2.2.1 60) sc.length 0) = x18
    have i18 : x18.1 = x17.1 := by rw [← hx18]; rfl
    have r18 : ∀ k, k ≠ 60 → x18.2.2.1 k = u16.2.2.1 k := fun k hk => by rw [← hx18, upA_no hk, r17]
    have q18 : x18.2.2.1 60 = upd (u16.2.2.1 60) sc.length 0 := by rw [← hx18, upA_at, r17]
    clear hx18
    rw [i18, e65, tnI (n := sc.length) rfl (by omega)]
    refine r_ck (fun _ => r_lt ?_)
    generalize hx19 : upA x18 63 (upd (x18.2.2.1 63) sc.length 0) = x19
    have i19 : x19.1 = x17.1 := by rw [← hx19]; exact i18
    have r19 : ∀ k, k ≠ 60 → k ≠ 63 → x19.2.2.1 k = u16.2.2.1 k := fun k hk h2 => by rw [← hx19, upA_no h2, r18 k hk]
    have q19 : x19.2.2.1 60 = upd (u16.2.2.1 60) sc.length 0 := by rw [← hx19, upA_no (by decide)]; exact q18
    have p19 : x19.2.2.1 63 = upd (u16.2.2.1 63) sc.length 0 := by rw [← hx19, upA_at, r18 63 (by decide)]
    clear hx19
    rw [i19, e65, tnI (n := sc.length) rfl (by omega)]
    refine r_ck (fun _ => r_lt ?_)
    generalize hx20 : upA x19 64 (upd (x19.2.2.1 64) sc.length 0) = w20
    have i20' : w20.1 = x17.1 := by rw [← hx20]; exact i19
    have r20 : ∀ k, k ≠ 60 → k ≠ 63 → k ≠ 64 → w20.2.2.1 k = u16.2.2.1 k := fun k hk h2 h3 => by rw [← hx20, upA_no h3, r19 k hk h2]
    have q20 : w20.2.2.1 60 = upd (u16.2.2.1 60) sc.length 0 := by rw [← hx20, upA_no (by decide)]; exact q19
    have p20 : w20.2.2.1 63 = upd (u16.2.2.1 63) sc.length 0 := by rw [← hx20, upA_no (by decide)]; exact p19
    have o20 : w20.2.2.1 64 = upd (u16.2.2.1 64) sc.length 0 := by rw [← hx20, upA_at, r19 64 (by decide) (by decide)]
    clear hx20
    have i20 : ∀ k, k ≠ 65 → w20.1 k = u16.1 k := fun k hk => by rw [i20']; exact i17 k hk
    have w65 : w20.1 65 = u16.1 65 + 1 := by rw [i20']; exact h65
    have rn20 : RNs w20 (([], [], 0) :: sc) := RNs_psh r16 hl6 (by rw [w65]; exact u65) q20 p20 o20 (r20 59 (by decide) (by decide) (by decide)) (r20 61 (by decide) (by decide) (by decide))
    have kt20 : Ktc w0 w20 := Kt_tr (Kt_tr h.2.1 (SMS_k s16)) ⟨fun k hk => i20 k (by rintro rfl; revert hk; decide), fun k hk => r20 k (by rintro rfl; revert hk; decide) (by rintro rfl; revert hk; decide) (by rintro rfl; revert hk; decide)⟩
    have w2069 : w20.1 69 = I ((p + 1 : Nat) : Int) := by rw [i20 69 (by decide)]; exact u69
    have w2067 : w20.1 67 = 0 := by rw [i20 67 (by decide), s16.1 67 (by decide)]; exact h.2.2.2.2.2.2
    have w2070 : w20.1 70 = w.1 70 := by rw [i20 70 (by decide), s16.1 70 (by decide)]
    have w2073 : w20.1 73 = 0 := by rw [i20 73 (by decide), s16.1 73 (by decide)]; exact h73
    have hw20 : WP w20 K T (p + 1) := ⟨⟨c.2.1.1, fun j hj => by rw [kt20.2 6 (by decide)]; exact c.2.1.2.1 j hj, fun j hj => by rw [kt20.2 7 (by decide)]; exact c.2.1.2.2 j hj⟩, w2069, pT1⟩
    have nd20 : ND w20 := by
      obtain ⟨av, h1, h2⟩ := SMS_nd s16 nd
      exact ⟨av, by rw [i20 32 (by decide)]; exact h1, h2⟩
    have k20' : KDN w20 a16 := by
      obtain ⟨c', h1, h2, h3, h4⟩ := k16
      exact ⟨c', by rw [i20 32 (by decide)]; exact h1, h2, h3, by rw [r20 23 (by decide) (by decide) (by decide)]; exact h4⟩
    by_cases k20 : K (p + 1) = 20
    · have pl1 : p + 1 < T := TWK_lt c pT1 (by omega) (by omega)
      rw [need_e (s := 20) hc1 k20 (by decide) rfl, bTm_l]
      have s2 := STQ_ad s1 pl1 (by omega)
      obtain ⟨r7, m2, ea, pa, ia, ra⟩ := adP_e (N := N) (m := advc (advc m p) (p + 1))
      rw [ea, bnd_s, ← bTm_as]
      have rl2 : RLP m0 w0 T (p + 1 + 1) m2 (adv w20 (p + 1)) := ⟨Kc_tr s2.1.1 (PCG_k pa), Kt_I kt20 (by decide), by rw [ia 665 (by decide)]; exact s2.1.2.2.1, by unfold adv; rw [upI_at], pl1, by rw [ia 666 (by decide), s2.1.2.2.2.2.2.1]; unfold adv; rw [upI_ne (by decide), upI_ne (by decide), upI_ne (by decide), w2070], by unfold adv; rw [upI_ne (by decide)]; exact w2067⟩
      refine pp_bTn (hC D m2 w20 (p + 1) n (([], [], 0) :: sc) (o + 1) p (I (p : Nat)) rl2 hw20 w2067 k20 (by rw [ia 306 (by decide)]; exact s2.2.1.2.1) (by omega) rn20 nd20 (by rw [w2070]; exact h70) ho w2073 (by omega)) (fun m3 ρ u21 r21 hz => ?_) (fun m3 kk u21 r21 hz => ?_)
      · obtain ⟨π, p4, n5, q1, sc1, e5, t5, X1, X2, W, R1, R2, Z1, Z2, CL1, CL2, lp, d1, d2, d3, stn, dT, dB, d21, dl, dn, -, -⟩ := hz
        have nb := stn.2.1
        have hc4 := RLP_c c stn.1
        have hw4 := RLP_w c stn.1
        have h04 := stn.1.2.2.2.2.2.2
        have pT4 := stn.1.2.2.2.2.1
        have sw := stn.2.2.2.2
        by_cases k11 : K p4 = 11
        · have pl4 : p4 < T := TWK_lt c pT4 (by omega) (by omega)
          rw [need_e (s := 11) hc4 k11 (by decide) rfl, bTm_l, ndW_1 (s := 6) hw4 h04 (by decide) rfl k11, bnd_s, d1]
          have g306 : (advc m3 p4).1 306 = I (n5 : Nat) := by unfold advc; rw [upI_ne (by decide)]; exact nb.2.1
          rw [add_e g306 (by omega), bnd_s]
          have k21 : KDN (adv u21 p4) a16 := KDN_ad (KDN_st sw k20')
          have rn21 := sw.1
          have l5 : t5.length + 1 ≤ 27 := rn21.2.1.2
          have a65 : ((adv u21 p4).1 65).toNatClampNeg = t5.length := by
            unfold adv
            rw [upI_ne (by decide), rn21.1]
            exact tnI (n := t5.length) rfl (by omega)
          have a64 : (adv u21 p4).2.2.1 64 ((adv u21 p4).1 65).toNatClampNeg = I (e5.2.2 : Nat) := by rw [a65]; exact rn21.2.2.1.1.2.2.2.2
          have a63 : (adv u21 p4).2.2.1 63 ((adv u21 p4).1 65).toNatClampNeg = I (e5.2.1.length : Nat) := by rw [a65]; exact rn21.2.2.1.1.2.2.1
          have l60 : e5.2.1.length ≤ 60 := rn21.2.2.2.1.2.2.1
          have l14 : e5.2.2 ≤ 1400 := rn21.2.2.2.1.2.2.2.2.1
          have mX : e5.2.2 = max X1 X2 := by
            have : e5.2.2 = max 0 (max X1 X2) := sw.2.1.2.1
            omega
          rw [a64, a63, I_add, show (40 : Int32) = I ((40 : Nat) : Int) from rfl, decI (by omega) (by omega) (by omega) (by omega)]
          have aI : ∀ k, k ≠ 69 → (adv u21 p4).1 k = u21.1 k := fun k hk => by unfold adv; rw [upI_ne hk]
          have fin : ∀ u23 : MS, (∀ k, k ≠ 66 → u23.1 k = (adv u21 p4).1 k) → u23.2.2.1 = u21.2.2.1 → (u23.1 66 = 0 ↔ u21.1 66 = 0 ∧ ¬ (40 < max X1 X2 + e5.2.1.length)) → PK (fun v r => EXB N m0 w0 K T nm Nk p n sc o m w (adN (advc m3 p4) n5 12 (I (p : Nat)) r7 (I (π : Nat)) (I (p4 : Nat))) (.inl (I ((n5 + 1 : Nat) : Int))) v r) (fb_M_fun_221 N (rc_M_behind N d) (gg_M_fun N (rc_M_behind N d) N) u23 (I (p : Nat)) ((adv w p).1 56) (I (a16 : Nat)) r21) := fun u23 y1 y2 y3 => by
            have k23 : KDN u23 a16 := by
              obtain ⟨c', h1, h2, h3, h4⟩ := k21
              exact ⟨c', by rw [y1 32 (by decide)]; exact h1, h2, h3, by rw [y2]; exact h4⟩
            refine pk_mo (f221 k23) (fun v r hv => ?_)
            obtain ⟨u', z1, z2, z3, z4⟩ := hv
            have stw := STW_fun (p := p) (p4 := p4 + 1) nd hR s16 i20 w65 r20 sw ⟨by omega, by omega⟩ (fun j h1 h2 => by
              have : j = p ∨ j = p + 1 := by omega
              rcases this with z | z <;> rw [z] <;> omega) (fun j h1 h2 => by rw [show j = p4 by omega]; omega) (fun k h1 h2 => by rw [y1 k h1]; exact aI k h2) y2 y3 z1 z3
            have bd := sw.2.1.2.2
            have hw21 := stn.1
            have v69 : v.1 69 = I ((p4 + 1 : Nat) : Int) := by rw [z4, y1 69 (by decide)]; unfold adv; rw [upI_at]
            have v70 : v.1 70 = w.1 70 := stw.2.2.2.2.2.2.1.1 70 (by decide)
            have v67 : v.1 67 = w.1 67 := stw.2.2.2.2.2.2.1.1 67 (by decide)
            have stq : STQ m0 w0 K T Nk false m w p n sc 2 (advc m3 p4) v (p4 + 1) n5 t5 0 W (R1 || R2) ((Z1 || Z2) || decide (40 < max X1 X2 + e5.2.1.length)) (fun x => CL1 x ∨ CL2 x) := by
              refine ⟨⟨Kc_tr hw21.1 kc_ad, Kt_tr h.2.1 (WFE_k stw.2.2.2.2.2.2.1), by unfold advc; rw [upI_at], v69, pl4, ?_, by rw [v67]; exact h.2.2.2.2.2.2⟩, ⟨by omega, g306, by omega, by omega⟩, ?_, ?_, stw, fun z => Bool.noConfusion z, SNW_nm (BDs_nm bd)⟩
              · unfold advc
                rw [upI_ne (by decide), v70, hw21.2.2.2.2.2.1, sw.2.2.2.2.2.2.1.1 70 (by decide)]
                exact w2070
              · have ko : KPO n (advc (advc m p) (p + 1)) m2 := fun j _ => by
                  unfold nod
                  rw [ra]
                  exact ⟨rfl, rfl⟩
                exact KPO_tr (m := m) ko stn.2.2.1 (Nat.le_refl _)
              · exact PCG_I (PCG_tr (PCG_tr (PCG_I (PCG_I (m := m) PCG_rf (Or.inr (Or.inr rfl))) (Or.inr (Or.inr rfl))) pa) stn.2.2.2.1) (Or.inr (Or.inr rfl))
            refine EXB_mk (kd := 12) stq SMS_rf rfl (by omega) (by omega) (by omega) (by decide) (by rw [k12]; rfl) (fun gd => ?_)
            have bl := BDs_len bd
            have koF : ∀ j, j ≤ n5 → nod (adN (advc m3 p4) n5 12 (I (p : Nat)) r7 (I (π : Nat)) (I (p4 : Nat))) j = nod m3 j ∧ (adN (advc m3 p4) n5 12 (I (p : Nat)) r7 (I (π : Nat)) (I (p4 : Nat))).2.2.1 21 j = m3.2.2.1 21 j := fun j hj => adN_o j hj
            have kcF : Kcc m3 (adN (advc m3 p4) n5 12 (I (p : Nat)) r7 (I (π : Nat)) (I (p4 : Nat))) := Kc_tr kc_ad (PCG_k (PCG_add PCG_rf))
            have kc0 : Kcc m0 (adN (advc m3 p4) n5 12 (I (p : Nat)) r7 (I (π : Nat)) (I (p4 : Nat))) := Kc_tr hw21.1 kcF
            have fin := exn_fun (N := N) (K := K) (nm := nm) (Nk := Nk) (W := W) (gd := gd) (lo := n) (n2 := n5 + 1) (ν := n5 + 1) (p := p) (p2 := p4 + 1) (q := p + 1 + 1) (q1 := q1) (q2 := p4) (sc := sc) (mi := m3) (li := n) (ni := n5) (lp := lp) (m2 := adN (advc m3 p4) n5 12 (I (p : Nat)) r7 (I (π : Nat)) (I (p4 : Nat))) c.2.2.1 (by rw [show (((p4 + 1 : Nat) : Int) - 1) = (p4 : Int) by omega]; exact adN_nod.1) ⟨by omega, by omega⟩ (by omega) (Nat.le_refl _) (by omega) ⟨by omega, by omega, by omega, by omega⟩ (fun j h1 h2 => by
              have : j = p ∨ j = p + 1 := by omega
              rcases this with z | z <;> rw [z] <;> omega) (fun j h1 h2 => by rw [show j = p4 by omega]; omega) d2 dT dB (Nat.le_refl _) (fun j hj => koF j hj) kcF (by omega) ?_ (NXT_j dl.2.1 (fun x hx => (koF x (dl.2.2.1 x hx).2).2)) dl.2.2.1 (by omega) hl6 ⟨dn.1.1, dn.1.2.1, dn.1.2.2⟩ dn.2 sw.2.1 sw.2.2.1 sw.1.2.2.2 (fun j h1 h2 => ?_) BCo_st BCo_st
            · refine EXN_bc (fun mm => BCo_or) fin
            · have := (koF π d2.2).1
              unfold nod at this
              have h3 := congrArg (fun z => z.2.2.1) this
              exact h3.trans dl.1
            · have jT : j < T := by omega
              refine ⟨by rw [kc0.2 6 (by decide)]; exact c.1.2 j (by omega), c.1.1.k46 (by omega), fun k3 => ?_⟩
              obtain ⟨y1, y2, y3, y4⟩ := c.2.2.2 j jT k3
              refine ⟨by rw [kc0.2 7 (by decide)]; exact y1, y3, ?_⟩
              refine HDs_b sw.2.2.1 j ?_ ?_ k3
              · by_cases z : j < p + 1 + 1
                · exfalso
                  have : j = p ∨ j = p + 1 := by omega
                  rcases this with z | z <;> rw [z] at k3 <;> omega
                · omega
              · by_cases z : j < p4
                · exact z
                · exfalso
                  have : j = p4 := by omega
                  rw [this] at k3; omega
          refine pp_l (pk_ck (fun _ => pk_ck (fun _ => pk_br (fun z => ?_) (fun z => pk_lt ?_))))
          · have z := of_decide_eq_true z
            exact fin (adv u21 p4) (fun _ _ => rfl) rfl ⟨fun y => ⟨by rw [← aI 66 (by decide)]; exact y, by omega⟩, fun y => by rw [aI 66 (by decide)]; exact y.1⟩
          · have z := of_decide_eq_false z
            exact fin (upI (adv u21 p4) 66 1) (fun k hk => upI_ne hk) rfl ⟨fun y => by rw [upI_at] at y; exact absurd y (by decide), fun y => absurd (show 40 < max X1 X2 + e5.2.1.length by omega) y.2⟩
        · refine pp_rf (RFS_T (need_x (s := 11) hc4 k11 (by decide) rfl)) (fun mm => ?_)
          refine pk_bnd (pk_mo (ndW_0 (N := N) (s := 6) hw4 h04 (by decide) rfl k11) (fun v r2 z => ?_))
          have hz : Kfc v v := z
          refine Kf_pk (u0 := v) ?_
          obtain ⟨hF0, hF1, hF2, hF3, hF4, hF5, hF6, hF7, hF8, hF9, hF10, hF11, hF12, hF13, hF14, hF15, hF16⟩ := yf_rc_M_behind (u0 := v) (N := N) d
          repeat' (first | with_reducible assumption | with_reducible refine Kf_br ?_ ?_ | with_reducible refine Kf_bnd ?_ (fun _ _ _ => ?_) | with_reducible refine Kf_ck ?_ | with_reducible refine Kf_ltm ?_ (fun _ _ => ?_) | with_reducible refine Kf_some ?_ | with_reducible refine Kf_bo (fun _ => ?_) | with_reducible exact yf_fm_M_node (by assumption) | with_reducible exact yf_fm_M_pattern (by assumption) | with_reducible exact yf_fm_M_wrong (by assumption) | with_reducible exact yf_fm_M_rule (by assumption) | with_reducible exact yf_fm_M_isSign (by assumption) | with_reducible exact yf_fm_M_isWord (by assumption) | with_reducible exact yf_fm_M_takeSign (by assumption) | with_reducible exact yf_fm_M_takeWord (by assumption) | with_reducible exact yf_fm_M_needSign (by assumption) | with_reducible exact yf_fm_M_needWord (by assumption) | with_reducible exact yf_fm_M_opens (by assumption) | with_reducible exact yf_fm_M_boundIn (by assumption) | with_reducible exact yf_fr_M_found (by assumption) | with_reducible exact yf_fm_M_bind (by assumption) | with_reducible exact yf_fm_M_isUnderscore (by assumption) | with_reducible exact yf_fm_M_unbind (by assumption) | with_reducible exact yf_fm_M_term (by assumption) | with_reducible exact yf_fm_M_namePattern (by assumption) | with_reducible exact yf_fr_M_patternAt (by assumption) | with_reducible exact yf_fm_M_beginsUnit (by assumption) | with_reducible exact yf_fm_M_save (by assumption) | with_reducible exact yf_fm_M_addRoot (by assumption) | with_reducible exact yf_fm_M_level (by assumption) | with_reducible exact yf_fm_M_reduce (by assumption) | with_reducible exact yf_fm_M_takeBack (by assumption) | with_reducible exact yf_fm_M_forgetSaved (by assumption) | with_reducible exact yf_fr_M_last (by assumption) | with_reducible exact yf_fr_M_clause (by assumption) | with_reducible exact yf_fm_M_predefinedOf (by assumption) | with_reducible exact yf_fm_M_function0 (by assumption) | with_reducible exact yf_fm_M_program (by assumption) | with_reducible exact hF0 _ (by assumption) | with_reducible exact hF1 _ _ (by assumption) | with_reducible exact hF2 _ _ _ (by assumption) | with_reducible exact hF3 _ _ _ (by assumption) | with_reducible exact hF4 _ (by assumption) | with_reducible exact hF5 _ _ (by assumption) | with_reducible exact hF6 _ _ (by assumption) | with_reducible exact hF7 _ _ (by assumption) | with_reducible exact hF8 _ _ (by assumption) | with_reducible exact hF9 _ (by assumption) | with_reducible exact hF10 _ (by assumption) | with_reducible exact hF11 _ (by assumption) | with_reducible exact hF12 _ (by assumption) | with_reducible exact hF13 _ (by assumption) | with_reducible exact hF14 _ (by assumption) | with_reducible exact hF15 _ (by assumption) | with_reducible exact hF16 _ _ (by assumption) | with_reducible exact yf_fb_M_fun_257 (by assumption) hF0 hF1 hF2 hF3 hF4 hF5 hF6 hF7 hF8 hF9 hF10 hF11 hF12 hF13 hF14 hF15 hF16 (yf_gg_M_fun hF0 hF1 hF2 hF3 hF4 hF5 hF6 hF7 hF8 hF9 hF10 hF11 hF12 hF13 hF14 hF15 hF16 _) | with_reducible exact yf_fb_M_fun_221 (by assumption) hF0 hF1 hF2 hF3 hF4 hF5 hF6 hF7 hF8 hF9 hF10 hF11 hF12 hF13 hF14 hF15 hF16 (yf_gg_M_fun hF0 hF1 hF2 hF3 hF4 hF5 hF6 hF7 hF8 hF9 hF10 hF11 hF12 hF13 hF14 hF15 hF16 _) | with_reducible exact yf_fb_M_fun_69 (by assumption) hF0 hF1 hF2 hF3 hF4 hF5 hF6 hF7 hF8 hF9 hF10 hF11 hF12 hF13 hF14 hF15 hF16 (yf_gg_M_fun hF0 hF1 hF2 hF3 hF4 hF5 hF6 hF7 hF8 hF9 hF10 hF11 hF12 hF13 hF14 hF15 hF16 _) | with_reducible exact yf_fb_M_fun_0 (by assumption) hF0 hF1 hF2 hF3 hF4 hF5 hF6 hF7 hF8 hF9 hF10 hF11 hF12 hF13 hF14 hF15 hF16 (yf_gg_M_fun hF0 hF1 hF2 hF3 hF4 hF5 hF6 hF7 hF8 hF9 hF10 hF11 hF12 hF13 hF14 hF15 hF16 _) | with_reducible exact (yf_gg_M_fun hF0 hF1 hF2 hF3 hF4 hF5 hF6 hF7 hF8 hF9 hF10 hF11 hF12 hF13 hF14 hF15 hF16 _) _ _ _ _ _ (by assumption) | with_reducible refine Kf_ltv (fun _ => ?_) | with_reducible refine Kf_I ?_ (by decide) | with_reducible refine Kf_A ?_ | with_reducible refine Kf_J ?_ | with_reducible refine Kf_L ?_)
      · have hz : Kfc u21 u21 := hz
        refine Kf_pk (u0 := u21) ?_
        obtain ⟨hF0, hF1, hF2, hF3, hF4, hF5, hF6, hF7, hF8, hF9, hF10, hF11, hF12, hF13, hF14, hF15, hF16⟩ := yf_rc_M_behind (u0 := u21) (N := N) d
        repeat' (first | with_reducible assumption | with_reducible refine Kf_br ?_ ?_ | with_reducible refine Kf_bnd ?_ (fun _ _ _ => ?_) | with_reducible refine Kf_ck ?_ | with_reducible refine Kf_ltm ?_ (fun _ _ => ?_) | with_reducible refine Kf_some ?_ | with_reducible refine Kf_bo (fun _ => ?_) | with_reducible exact yf_fm_M_node (by assumption) | with_reducible exact yf_fm_M_pattern (by assumption) | with_reducible exact yf_fm_M_wrong (by assumption) | with_reducible exact yf_fm_M_rule (by assumption) | with_reducible exact yf_fm_M_isSign (by assumption) | with_reducible exact yf_fm_M_isWord (by assumption) | with_reducible exact yf_fm_M_takeSign (by assumption) | with_reducible exact yf_fm_M_takeWord (by assumption) | with_reducible exact yf_fm_M_needSign (by assumption) | with_reducible exact yf_fm_M_needWord (by assumption) | with_reducible exact yf_fm_M_opens (by assumption) | with_reducible exact yf_fm_M_boundIn (by assumption) | with_reducible exact yf_fr_M_found (by assumption) | with_reducible exact yf_fm_M_bind (by assumption) | with_reducible exact yf_fm_M_isUnderscore (by assumption) | with_reducible exact yf_fm_M_unbind (by assumption) | with_reducible exact yf_fm_M_term (by assumption) | with_reducible exact yf_fm_M_namePattern (by assumption) | with_reducible exact yf_fr_M_patternAt (by assumption) | with_reducible exact yf_fm_M_beginsUnit (by assumption) | with_reducible exact yf_fm_M_save (by assumption) | with_reducible exact yf_fm_M_addRoot (by assumption) | with_reducible exact yf_fm_M_level (by assumption) | with_reducible exact yf_fm_M_reduce (by assumption) | with_reducible exact yf_fm_M_takeBack (by assumption) | with_reducible exact yf_fm_M_forgetSaved (by assumption) | with_reducible exact yf_fr_M_last (by assumption) | with_reducible exact yf_fr_M_clause (by assumption) | with_reducible exact yf_fm_M_predefinedOf (by assumption) | with_reducible exact yf_fm_M_function0 (by assumption) | with_reducible exact yf_fm_M_program (by assumption) | with_reducible exact hF0 _ (by assumption) | with_reducible exact hF1 _ _ (by assumption) | with_reducible exact hF2 _ _ _ (by assumption) | with_reducible exact hF3 _ _ _ (by assumption) | with_reducible exact hF4 _ (by assumption) | with_reducible exact hF5 _ _ (by assumption) | with_reducible exact hF6 _ _ (by assumption) | with_reducible exact hF7 _ _ (by assumption) | with_reducible exact hF8 _ _ (by assumption) | with_reducible exact hF9 _ (by assumption) | with_reducible exact hF10 _ (by assumption) | with_reducible exact hF11 _ (by assumption) | with_reducible exact hF12 _ (by assumption) | with_reducible exact hF13 _ (by assumption) | with_reducible exact hF14 _ (by assumption) | with_reducible exact hF15 _ (by assumption) | with_reducible exact hF16 _ _ (by assumption) | with_reducible exact yf_fb_M_fun_257 (by assumption) hF0 hF1 hF2 hF3 hF4 hF5 hF6 hF7 hF8 hF9 hF10 hF11 hF12 hF13 hF14 hF15 hF16 (yf_gg_M_fun hF0 hF1 hF2 hF3 hF4 hF5 hF6 hF7 hF8 hF9 hF10 hF11 hF12 hF13 hF14 hF15 hF16 _) | with_reducible exact yf_fb_M_fun_221 (by assumption) hF0 hF1 hF2 hF3 hF4 hF5 hF6 hF7 hF8 hF9 hF10 hF11 hF12 hF13 hF14 hF15 hF16 (yf_gg_M_fun hF0 hF1 hF2 hF3 hF4 hF5 hF6 hF7 hF8 hF9 hF10 hF11 hF12 hF13 hF14 hF15 hF16 _) | with_reducible exact yf_fb_M_fun_69 (by assumption) hF0 hF1 hF2 hF3 hF4 hF5 hF6 hF7 hF8 hF9 hF10 hF11 hF12 hF13 hF14 hF15 hF16 (yf_gg_M_fun hF0 hF1 hF2 hF3 hF4 hF5 hF6 hF7 hF8 hF9 hF10 hF11 hF12 hF13 hF14 hF15 hF16 _) | with_reducible exact yf_fb_M_fun_0 (by assumption) hF0 hF1 hF2 hF3 hF4 hF5 hF6 hF7 hF8 hF9 hF10 hF11 hF12 hF13 hF14 hF15 hF16 (yf_gg_M_fun hF0 hF1 hF2 hF3 hF4 hF5 hF6 hF7 hF8 hF9 hF10 hF11 hF12 hF13 hF14 hF15 hF16 _) | with_reducible exact (yf_gg_M_fun hF0 hF1 hF2 hF3 hF4 hF5 hF6 hF7 hF8 hF9 hF10 hF11 hF12 hF13 hF14 hF15 hF16 _) _ _ _ _ _ (by assumption) | with_reducible refine Kf_ltv (fun _ => ?_) | with_reducible refine Kf_I ?_ (by decide) | with_reducible refine Kf_A ?_ | with_reducible refine Kf_J ?_ | with_reducible refine Kf_L ?_)
    · refine pp_rf (RFS_T (need_x (s := 20) hc1 k20 (by decide) rfl)) (fun mm => ?_)
      refine pk_bnd (pk_mo (cl_x hw20 w2067 k20 d) (fun v r2 z => ?_))
      have hz : Kfc v v := z
      refine Kf_pk (u0 := v) ?_
      obtain ⟨hF0, hF1, hF2, hF3, hF4, hF5, hF6, hF7, hF8, hF9, hF10, hF11, hF12, hF13, hF14, hF15, hF16⟩ := yf_rc_M_behind (u0 := v) (N := N) d
      repeat' (first | with_reducible assumption | with_reducible refine Kf_br ?_ ?_ | with_reducible refine Kf_bnd ?_ (fun _ _ _ => ?_) | with_reducible refine Kf_ck ?_ | with_reducible refine Kf_ltm ?_ (fun _ _ => ?_) | with_reducible refine Kf_some ?_ | with_reducible refine Kf_bo (fun _ => ?_) | with_reducible exact yf_fm_M_node (by assumption) | with_reducible exact yf_fm_M_pattern (by assumption) | with_reducible exact yf_fm_M_wrong (by assumption) | with_reducible exact yf_fm_M_rule (by assumption) | with_reducible exact yf_fm_M_isSign (by assumption) | with_reducible exact yf_fm_M_isWord (by assumption) | with_reducible exact yf_fm_M_takeSign (by assumption) | with_reducible exact yf_fm_M_takeWord (by assumption) | with_reducible exact yf_fm_M_needSign (by assumption) | with_reducible exact yf_fm_M_needWord (by assumption) | with_reducible exact yf_fm_M_opens (by assumption) | with_reducible exact yf_fm_M_boundIn (by assumption) | with_reducible exact yf_fr_M_found (by assumption) | with_reducible exact yf_fm_M_bind (by assumption) | with_reducible exact yf_fm_M_isUnderscore (by assumption) | with_reducible exact yf_fm_M_unbind (by assumption) | with_reducible exact yf_fm_M_term (by assumption) | with_reducible exact yf_fm_M_namePattern (by assumption) | with_reducible exact yf_fr_M_patternAt (by assumption) | with_reducible exact yf_fm_M_beginsUnit (by assumption) | with_reducible exact yf_fm_M_save (by assumption) | with_reducible exact yf_fm_M_addRoot (by assumption) | with_reducible exact yf_fm_M_level (by assumption) | with_reducible exact yf_fm_M_reduce (by assumption) | with_reducible exact yf_fm_M_takeBack (by assumption) | with_reducible exact yf_fm_M_forgetSaved (by assumption) | with_reducible exact yf_fr_M_last (by assumption) | with_reducible exact yf_fr_M_clause (by assumption) | with_reducible exact yf_fm_M_predefinedOf (by assumption) | with_reducible exact yf_fm_M_function0 (by assumption) | with_reducible exact yf_fm_M_program (by assumption) | with_reducible exact hF0 _ (by assumption) | with_reducible exact hF1 _ _ (by assumption) | with_reducible exact hF2 _ _ _ (by assumption) | with_reducible exact hF3 _ _ _ (by assumption) | with_reducible exact hF4 _ (by assumption) | with_reducible exact hF5 _ _ (by assumption) | with_reducible exact hF6 _ _ (by assumption) | with_reducible exact hF7 _ _ (by assumption) | with_reducible exact hF8 _ _ (by assumption) | with_reducible exact hF9 _ (by assumption) | with_reducible exact hF10 _ (by assumption) | with_reducible exact hF11 _ (by assumption) | with_reducible exact hF12 _ (by assumption) | with_reducible exact hF13 _ (by assumption) | with_reducible exact hF14 _ (by assumption) | with_reducible exact hF15 _ (by assumption) | with_reducible exact hF16 _ _ (by assumption) | with_reducible exact yf_fb_M_fun_257 (by assumption) hF0 hF1 hF2 hF3 hF4 hF5 hF6 hF7 hF8 hF9 hF10 hF11 hF12 hF13 hF14 hF15 hF16 (yf_gg_M_fun hF0 hF1 hF2 hF3 hF4 hF5 hF6 hF7 hF8 hF9 hF10 hF11 hF12 hF13 hF14 hF15 hF16 _) | with_reducible exact yf_fb_M_fun_221 (by assumption) hF0 hF1 hF2 hF3 hF4 hF5 hF6 hF7 hF8 hF9 hF10 hF11 hF12 hF13 hF14 hF15 hF16 (yf_gg_M_fun hF0 hF1 hF2 hF3 hF4 hF5 hF6 hF7 hF8 hF9 hF10 hF11 hF12 hF13 hF14 hF15 hF16 _) | with_reducible exact yf_fb_M_fun_69 (by assumption) hF0 hF1 hF2 hF3 hF4 hF5 hF6 hF7 hF8 hF9 hF10 hF11 hF12 hF13 hF14 hF15 hF16 (yf_gg_M_fun hF0 hF1 hF2 hF3 hF4 hF5 hF6 hF7 hF8 hF9 hF10 hF11 hF12 hF13 hF14 hF15 hF16 _) | with_reducible exact yf_fb_M_fun_0 (by assumption) hF0 hF1 hF2 hF3 hF4 hF5 hF6 hF7 hF8 hF9 hF10 hF11 hF12 hF13 hF14 hF15 hF16 (yf_gg_M_fun hF0 hF1 hF2 hF3 hF4 hF5 hF6 hF7 hF8 hF9 hF10 hF11 hF12 hF13 hF14 hF15 hF16 _) | with_reducible exact (yf_gg_M_fun hF0 hF1 hF2 hF3 hF4 hF5 hF6 hF7 hF8 hF9 hF10 hF11 hF12 hF13 hF14 hF15 hF16 _) _ _ _ _ _ (by assumption) | with_reducible refine Kf_ltv (fun _ => ?_) | with_reducible refine Kf_I ?_ (by decide) | with_reducible refine Kf_A ?_ | with_reducible refine Kf_J ?_ | with_reducible refine Kf_L ?_)
end
