set_option maxRecDepth 100000
section
variable {α : Type} {R : MS → Int32 ⊕ Nat → MS → Int32 → Prop} {A : Option (MS × α)} {m0 w0 m w v u m2 m3 w2 x y z mF mB wB mp mg : MS} {K nm Nk W W1 W2 WA WB : Nat → Nat} {T p n N q q1 X Y X1 X2 XA n1 n2 n3 lo l1 l2 np ng p2 p4 ν μ π a b L L' k d o M D s : Nat} {sc sc1 sc2 sc3 sc4 sc5 t t2 t3 t4 t5 : SCT} {e e2 e3 e4 e5 : List Nat × List Nat × Nat} {gd Rf Rg Zf R1 Z1 own : Bool} {BC : MS → Prop} {v1 v2 v3 v4 v5 v6 r ξ : Int32} {S : SG_M_behind} {NC : Nat → Prop} {CL CM CL1 : Int32 × Int32 × Int32 → Prop} {l lp lg : List Nat}
theorem pp_kr {β γ : Type} {R' : MS → γ → MS → β → Prop} {Q : MS → β → Prop} {a : Option (MS × γ)} {b : Option (MS × β)} (h : PP R' a b) (k : PK Q b) : PP (fun m z w r => R' m z w r ∧ Q w r) a b := fun m z w r e1 e2 => ⟨h m z w r e1 e2, k w r e2⟩
theorem e60_p (hR : RNs w (e :: t)) : w.2.2.1 60 (w.1 65).toNatClampNeg = I (e.1.length : Nat) := by
  have hl : 1 ≤ t.length + 1 ∧ t.length + 1 ≤ 27 := hR.2.1
  have s65 : (w.1 65).toNatClampNeg = t.length := by
    rw [hR.1]
    exact tnI (n := t.length) rfl (by omega)
  rw [s65]; exact hR.2.2.1.1.1
theorem e1400_p (hR : RNs w (e :: t)) : e.1.length ≤ 1400 := by
  have := hR.2.2.2.1
  have a := this.2.2.2.1
  have b := this.2.2.2.2.1
  omega
theorem par_hd {A' : Option (MS × (Int32 ⊕ Nat))} {F : MS → Option (MS × Int32)} (hR : RNs w (e :: t)) (h : ∀ x v6, v6 ≠ -1 → SMS w x → x.1 69 = w.1 69 → PP R A' (if v1 = 0 then bnd (fr_M_patternAt N x 0) (fun u17 r17 => fb_M_parts0_105 N S (gg_M_parts0 N S M) u17 v1 v2 v3 v4 v6 (I (e.1.length : Nat)) 40 v6 r17) else fb_M_parts0_105 N S (gg_M_parts0 N S M) x v1 v2 v3 v4 v6 (I (e.1.length : Nat)) 40 v6 (-1))) : PP R A' (fb_M_parts0_19 N S (gg_M_parts0 N S M) w v1 v2 v3 v4 1) := by
  unfold fb_M_parts0_19
  rw [show decide ((1 : Int32) = 0) = false from rfl, br_fq]
  refine r_lt (r_ck (fun y6 => r_lt (r_ck (fun _ => r_lt ?_))))
  have n6 : w.1 46 ≠ -1 := fun z => by rw [z] at y6; exact absurd y6 (by decide)
  have sm : SMS w (upA (upA (upI w 46 (w.1 46 + 1)) 44 (upd ((upI w 46 (w.1 46 + 1)).2.2.1 44) (w.1 46).toNatClampNeg ((upI w 46 (w.1 46 + 1)).1 69))) 45 (upd ((upA (upI w 46 (w.1 46 + 1)) 44 (upd ((upI w 46 (w.1 46 + 1)).2.2.1 44) (w.1 46).toNatClampNeg ((upI w 46 (w.1 46 + 1)).1 69))).2.2.1 45) (w.1 46).toNatClampNeg (-1))) := SMS_A (SMS_A (SMS_I SMS_rf (by decide) (by decide)) (by unfold SMX; omega) (by omega)) (by unfold SMX; omega) (by omega)
  generalize hx : upA (upA (upI w 46 (w.1 46 + 1)) 44 (upd ((upI w 46 (w.1 46 + 1)).2.2.1 44) (w.1 46).toNatClampNeg ((upI w 46 (w.1 46 + 1)).1 69))) 45 (upd ((upA (upI w 46 (w.1 46 + 1)) 44 (upd ((upI w 46 (w.1 46 + 1)).2.2.1 44) (w.1 46).toNatClampNeg ((upI w 46 (w.1 46 + 1)).1 69))).2.2.1 45) (w.1 46).toNatClampNeg (-1)) = x at sm ⊢
  have x69 : x.1 69 = w.1 69 := by
    rw [← hx]
    show (upI w 46 (w.1 46 + 1)).1 69 = _
    exact upI_ne (by decide)
  clear hx
  have go : ∀ t2, PP R A' (fb_M_parts0_74 N S (gg_M_parts0 N S M) x v1 v2 v3 v4 (w.1 46) 41 (w.1 46) t2) := fun t2 => by
    unfold fb_M_parts0_74
    refine r_ck (fun _ => r_ck (fun _ => r_lt ?_))
    have sm2 : SMS w (upA x 41 (upd (x.2.2.1 41) (w.1 46).toNatClampNeg t2)) := SMS_A sm (by unfold SMX; omega) (by omega)
    have y69 : (upA x 41 (upd (x.2.2.1 41) (w.1 46).toNatClampNeg t2)).1 69 = w.1 69 := x69
    generalize upA x 41 (upd (x.2.2.1 41) (w.1 46).toNatClampNeg t2) = y at sm2 y69 ⊢
    have ry : RNs y (e :: t) := RNs_e hR (sm2.1 65 (by decide)) (fun k h1 h2 => sm2.2.1 k (by unfold SMX; omega))
    rw [e60_p ry]
    refine r_ck (fun _ => r_lt ?_)
    have := h y (w.1 46) n6 sm2 y69
    by_cases z : v1 = 0
    · rw [if_pos z] at this
      rw [decide_eq_true z, br_tq]; exact this
    · rw [if_neg z] at this
      rw [decide_eq_false z, br_fq]; exact this
  exact r_br (fun _ => go 1) (fun _ => go 0)
theorem cas_pp {F : MS → Int32 → Option (MS × (Int32 ⊕ Nat))} (c : CTZ m0 w0 K T nm Nk) (c45 : ∀ p, p ≤ T → K p ≠ 45) (hB : HBo N m0 w0 K T nm Nk d) (hG : ∀ d', d' ≤ d → HGc N m0 w0 K T nm Nk d') (hW : ∀ m k w r, FLW w → R m (.inr k) w r) (h : RLP m0 w0 T p m w) (hn : m.1 306 = I (n : Nat)) (hn0 : n ≤ 2 * p) (hR : RNs w (e :: t)) (nd : ND w) (h70 : w.1 70 = I (o : Nat)) (ho : o ≤ 25) (h73 : w.1 73 = 0)
    (h34 : v4 = -1 ∨ v3 ≠ -1)
    (hC : ∀ m3 ρ w3 a b, a ≠ -1 → PAR N m0 w0 K T nm Nk p n e t m w m3 ρ w3 → PP R (F m3 ρ) (fb_M_parts0_214 N (rc_M_behind N d) (gg_M_parts0 N (rc_M_behind N d) M) w3 0 v2 a b)) :
    PP R (bTm ((hrc_Pa_matched N D).2.2.2.2.2.2.1 m) F) (fb_M_parts0_19 N (rc_M_behind N d) (gg_M_parts0 N (rc_M_behind N d) M) w 0 v2 v3 v4 1) := by
  have T4 := c.1.1.1
  have e1400 := e1400_p hR
  cases D with
  | zero => exact pp_nl
  | succ D =>
  refine par_hd (F := fun _ => none) hR (fun x v6 n6 sx x69 => ?_)
  rw [if_pos rfl]
  show PP R (bTm (hb_Pa_oneCase_0 N (hrc_Pa_matched N D) () m) F) _
  unfold hb_Pa_oneCase_0
  rw [bTm_as]
  have s0 := STQ_s (STQ_0 (K := K) (Nk := Nk) (gd := false) (W := fun _ => 32) h hn hR nd) sx x69
  have x70 : x.1 70 = I (o : Nat) := by rw [sx.1 70 (by decide)]; exact h70
  have x73 : x.1 73 = 0 := by rw [sx.1 73 (by decide)]; exact h73
  refine pp_bTn (pp_kr (pts_all (own := false) c rfl 60 D m x p n (e :: t) s0.1 hn hn0 (STQ_rn s0)) (yj_fr_M_patternAt (u0 := x) (v1 := 0) (N := N) Kj_rf)) (fun m2 ε u r hz => ?_) (fun m2 k u r hz => ?_)
  · obtain ⟨pz, kj⟩ := hz
    obtain ⟨q, n2, ν, sc2, X, W, a1, a2, a3, st, a5, a6⟩ := STQ_pat pz kj (STQ_nd s0)
    rw [a1, h.2.2.1, bTm_id]
    have st1 := STQ_tr s0 st
    have u70 : u.1 70 = I (o : Nat) := by rw [st.2.2.2.2.1.2.2.2.2.2.2.1.1 70 (by decide)]; exact x70
    have u73 : u.1 73 = 0 := by rw [st.2.2.2.2.1.2.2.2.2.2.2.1.1 73 (by decide)]; exact x73
    unfold fb_M_parts0_105
    refine r_ck (fun _ => r_ck (fun _ => r_lt ?_))
    rw [show decide ((0 : Int32) = 0) = true from rfl, br_tq]
    have sm1 : SMS u (upA u 40 (upd (u.2.2.1 40) v6.toNatClampNeg r)) := SMS_A SMS_rf (by unfold SMX; omega) (by omega)
    have s1 := STQ_s st1 sm1 rfl
    generalize hy : upA u 40 (upd (u.2.2.1 40) v6.toNatClampNeg r) = y at s1 ⊢
    have y70 : y.1 70 = I (o : Nat) := by rw [← hy]; exact u70
    have y73 : y.1 73 = 0 := by rw [← hy]; exact u73
    clear hy sm1
    have nb := s1.2.1
    have hc2 := RLP_c c s1.1
    have hw2 := RLP_w c s1.1
    have h2 := s1.1.2.2.2.2.2.2
    have qT := s1.1.2.2.2.2.1
    have k46 := hc2.1.1.k46 hc2.2.2
    have sw := st.2.2.2.2.1
    have hpr : PRW N K nm m2 n n2 false W [ν] p q (e :: t) sc2 X := PRW_1 a6 (by omega) ⟨by omega, a2.2⟩ a2.1 a5 sw.2.2.2.1.1 (SCX_len sw.2.1)
    cases d with
    | zero => exact pp_nr
    | succ d =>
    cases D with
    | zero => exact pp_nl
    | succ D =>
    show PP R (bTm (hb_Pa_part_0 N (hrc_Pa_matched N D) () m2 (I (p : Nat)) (I (ν : Nat))) F) (bnd (fb_M_guard_0 N (rc_M_behind N d) () y) _)
    unfold hb_Pa_part_0 fb_M_guard_0
    rw [look_e hc2 (c45 _ qT), bTm_l, I_dn (a := K q) (b := 19) (s := 19) (by omega) (by decide) rfl, tkW_e (k := 19) (s := 14) hw2 h2 (by decide) rfl]
    by_cases k19 : K q = 19
    · have ql : q < T := TWK_lt c qT (by omega) (by omega)
      rw [decide_eq_true k19, br_tq, if_pos k19, bnd_s, show decide ((1 : Int32) = 0) = false from rfl, br_fq, bnd_as2, hc2.2.1, i_suc]
      have s2 := STQ_ad s1 ql (by omega)
      have aI : ∀ k, k ≠ 69 → (adv y q).1 k = y.1 k := fun k hk => by unfold adv; rw [upI_ne hk]
      show PP R (bTm (bTm ((hrc_Pa_matched N D).2.2.2.2.2.2.2.2.2.2.2.2.2.2.2.2.2.2.1 (advc m2 q) 0 4000) (fun u9 r9 => hb_Pa_part_30 N (hrc_Pa_matched N D) () u9 (I (p : Nat)) (I (ν : Nat)) r9)) F) _
      rw [bTm_as]
      refine pp_bTn (hG d (by omega) D (advc m2 q) (adv y q) (q + 1) n2 sc2 o s2.1 s2.2.1.2.1 (by have := s2.2.1; omega) (STQ_rn s2) (STQ_nd s2) (by rw [aI 70 (by decide)]; exact y70) ho (by rw [aI 73 (by decide)]; exact y73)) (fun m3 φ u3 r3 hz => ?_) (fun m3 k3 u3 r3 hz => ?_)
      · obtain ⟨lg, q3, n3, sg, s3c, Xg, Wg, Rg, Zg, CLg, d1, d2, d3, stg, d5, d6, d7, d8⟩ := hz
        rw [d1, bnd_s]
        have nb3 := stg.2.1
        have stt := STQ_cl (CM := CLg) (fun x => ⟨fun z => z.elim (fun y => y.elim False.elim False.elim) id, Or.inr⟩) (STQ_tr s2 stg)
        have f7 := stg.2.2.2.2.1.2.2.2.2.2.2.1
        have stt : STQ m0 w0 K T Nk false m w p n (e :: t) (0 + 1 + 2 + 1) m3 u3 q3 n3 s3c (max X Xg) (mrg (q + 1) (mrg p (fun _ => 32) W) Wg) Rg Zg CLg := by
          have := stt
          rw [Nat.zero_max, Bool.false_or, Bool.false_or, Bool.false_or] at this
          exact this
        refine part_tl (lp := [ν]) (lg := lg) (q := q) (X1 := X) (X2 := Xg) (mp := m2) (l1 := n) (np := n2) (mg := m3) (l2 := n2) (ng := n3) (sc2 := sg) (sc1 := sc2) c hB hW stt hn0 ⟨by omega, by omega⟩ ?_ ho ?_ e1400 (PRW_w (fun j h1 h2 => by rw [mrg_l (by omega), mrg_r h1]) hpr) ⟨fun j h1 h2 => stg.2.2.1 j h2, Kc_tr (PCG_k (PCG_I (m := m2) PCG_rf (Or.inr (Or.inr rfl)) : PCG m2 (advc m2 q))) (PCG_k stg.2.2.2.1)⟩ (Nat.le_refl _) (by omega) sw.2.2.2.1.2 (ERW_g (q := q + 1) (by omega) (fun j h1 h2 => by rw [show j = q by omega]; omega) d2 (ERW_w (fun j h1 _ => mrg_r h1) d5)) ⟨fun j _ _ => ⟨rfl, rfl⟩, Kc_rf⟩ (by omega) (Nat.le_refl _) d6 n6 h34 hC
        · rw [f7.1 70 (by decide), aI 70 (by decide)]; exact y70
        · rw [f7.1 73 (by decide), aI 73 (by decide)]; exact y73
      · have hz : Kfc u3 u3 := hz
        refine pk_mo (Q := fun w2 (_ : Int32) => FLW w2) ?_ (fun v r hv => hW _ _ v r hv)
        refine Kf_pk (u0 := u3) ?_
        obtain ⟨hF0, hF1, hF2, hF3, hF4, hF5, hF6, hF7, hF8, hF9, hF10, hF11, hF12, hF13, hF14, hF15, hF16⟩ := yf_rc_M_behind (u0 := u3) (N := N) (d+1)
        repeat' (first | with_reducible assumption | with_reducible refine Kf_br ?_ ?_ | with_reducible refine Kf_bnd ?_ (fun _ _ _ => ?_) | with_reducible refine Kf_ck ?_ | with_reducible refine Kf_ltm ?_ (fun _ _ => ?_) | with_reducible refine Kf_some ?_ | with_reducible refine Kf_bo (fun _ => ?_) | with_reducible exact yf_fm_M_node (by assumption) | with_reducible exact yf_fm_M_pattern (by assumption) | with_reducible exact yf_fm_M_wrong (by assumption) | with_reducible exact yf_fm_M_rule (by assumption) | with_reducible exact yf_fm_M_isSign (by assumption) | with_reducible exact yf_fm_M_isWord (by assumption) | with_reducible exact yf_fm_M_takeSign (by assumption) | with_reducible exact yf_fm_M_takeWord (by assumption) | with_reducible exact yf_fm_M_needSign (by assumption) | with_reducible exact yf_fm_M_needWord (by assumption) | with_reducible exact yf_fm_M_opens (by assumption) | with_reducible exact yf_fm_M_boundIn (by assumption) | with_reducible exact yf_fr_M_found (by assumption) | with_reducible exact yf_fm_M_bind (by assumption) | with_reducible exact yf_fm_M_isUnderscore (by assumption) | with_reducible exact yf_fm_M_unbind (by assumption) | with_reducible exact yf_fm_M_term (by assumption) | with_reducible exact yf_fm_M_namePattern (by assumption) | with_reducible exact yf_fr_M_patternAt (by assumption) | with_reducible exact yf_fm_M_beginsUnit (by assumption) | with_reducible exact yf_fm_M_save (by assumption) | with_reducible exact yf_fm_M_addRoot (by assumption) | with_reducible exact yf_fm_M_level (by assumption) | with_reducible exact yf_fm_M_reduce (by assumption) | with_reducible exact yf_fm_M_takeBack (by assumption) | with_reducible exact yf_fm_M_forgetSaved (by assumption) | with_reducible exact yf_fr_M_last (by assumption) | with_reducible exact yf_fr_M_clause (by assumption) | with_reducible exact yf_fm_M_predefinedOf (by assumption) | with_reducible exact yf_fm_M_function0 (by assumption) | with_reducible exact yf_fm_M_program (by assumption) | with_reducible exact hF0 _ (by assumption) | with_reducible exact hF1 _ _ (by assumption) | with_reducible exact hF2 _ _ _ (by assumption) | with_reducible exact hF3 _ _ _ (by assumption) | with_reducible exact hF4 _ (by assumption) | with_reducible exact hF5 _ _ (by assumption) | with_reducible exact hF6 _ _ (by assumption) | with_reducible exact hF7 _ _ (by assumption) | with_reducible exact hF8 _ _ (by assumption) | with_reducible exact hF9 _ (by assumption) | with_reducible exact hF10 _ (by assumption) | with_reducible exact hF11 _ (by assumption) | with_reducible exact hF12 _ (by assumption) | with_reducible exact hF13 _ (by assumption) | with_reducible exact hF14 _ (by assumption) | with_reducible exact hF15 _ (by assumption) | with_reducible exact hF16 _ _ (by assumption) | with_reducible exact yf_fb_M_parts0_214 (by assumption) hF0 hF1 hF2 hF3 hF4 hF5 hF6 hF7 hF8 hF9 hF10 hF11 hF12 hF13 hF14 hF15 hF16 (yf_gg_M_parts0 hF0 hF1 hF2 hF3 hF4 hF5 hF6 hF7 hF8 hF9 hF10 hF11 hF12 hF13 hF14 hF15 hF16 _) | with_reducible exact yf_fb_M_parts0_127 (by assumption) hF0 hF1 hF2 hF3 hF4 hF5 hF6 hF7 hF8 hF9 hF10 hF11 hF12 hF13 hF14 hF15 hF16 (yf_gg_M_parts0 hF0 hF1 hF2 hF3 hF4 hF5 hF6 hF7 hF8 hF9 hF10 hF11 hF12 hF13 hF14 hF15 hF16 _) | with_reducible exact yf_fb_M_parts0_105 (by assumption) hF0 hF1 hF2 hF3 hF4 hF5 hF6 hF7 hF8 hF9 hF10 hF11 hF12 hF13 hF14 hF15 hF16 (yf_gg_M_parts0 hF0 hF1 hF2 hF3 hF4 hF5 hF6 hF7 hF8 hF9 hF10 hF11 hF12 hF13 hF14 hF15 hF16 _) | with_reducible exact yf_fb_M_parts0_74 (by assumption) hF0 hF1 hF2 hF3 hF4 hF5 hF6 hF7 hF8 hF9 hF10 hF11 hF12 hF13 hF14 hF15 hF16 (yf_gg_M_parts0 hF0 hF1 hF2 hF3 hF4 hF5 hF6 hF7 hF8 hF9 hF10 hF11 hF12 hF13 hF14 hF15 hF16 _) | with_reducible exact yf_fb_M_parts0_19 (by assumption) hF0 hF1 hF2 hF3 hF4 hF5 hF6 hF7 hF8 hF9 hF10 hF11 hF12 hF13 hF14 hF15 hF16 (yf_gg_M_parts0 hF0 hF1 hF2 hF3 hF4 hF5 hF6 hF7 hF8 hF9 hF10 hF11 hF12 hF13 hF14 hF15 hF16 _) | with_reducible exact yf_fb_M_parts0_17 (by assumption) hF0 hF1 hF2 hF3 hF4 hF5 hF6 hF7 hF8 hF9 hF10 hF11 hF12 hF13 hF14 hF15 hF16 (yf_gg_M_parts0 hF0 hF1 hF2 hF3 hF4 hF5 hF6 hF7 hF8 hF9 hF10 hF11 hF12 hF13 hF14 hF15 hF16 _) | with_reducible exact yf_fb_M_parts0_0 (by assumption) hF0 hF1 hF2 hF3 hF4 hF5 hF6 hF7 hF8 hF9 hF10 hF11 hF12 hF13 hF14 hF15 hF16 (yf_gg_M_parts0 hF0 hF1 hF2 hF3 hF4 hF5 hF6 hF7 hF8 hF9 hF10 hF11 hF12 hF13 hF14 hF15 hF16 _) | with_reducible exact (yf_gg_M_parts0 hF0 hF1 hF2 hF3 hF4 hF5 hF6 hF7 hF8 hF9 hF10 hF11 hF12 hF13 hF14 hF15 hF16 _) _ _ _ _ _ _ (by assumption) | with_reducible refine Kf_ltv (fun _ => ?_) | with_reducible refine Kf_I ?_ (by decide) | with_reducible refine Kf_A ?_ | with_reducible refine Kf_J ?_ | with_reducible refine Kf_L ?_)
    · rw [decide_eq_false k19, br_fq, if_neg k19, bnd_s, show decide ((0 : Int32) = 0) = true from rfl, br_tq, bnd_s]
      have stt : STQ m0 w0 K T Nk false m w p n (e :: t) (0 + 1) m2 y q n2 sc2 (max X 0) (mrg p (fun _ => 32) W) false false (fun _ => False) := by
        have := STQ_cl (CM := fun _ => False) (fun x => ⟨fun z => z.elim id id, False.elim⟩) s1
        rw [Nat.zero_max, Bool.false_or] at this
        rw [Nat.max_zero]
        exact this
      exact part_tl (lp := [ν]) (lg := []) (q := q) (X1 := X) (X2 := 0) (mp := m2) (l1 := n) (np := n2) (mg := m2) (l2 := n2) (ng := n2) (sc2 := sc2) (sc1 := sc2) c hB hW stt hn0 ⟨by omega, Nat.le_refl _⟩ y70 ho y73 e1400 (PRW_w (fun j h1 h2 => mrg_r h1) hpr) ⟨fun j _ _ => ⟨rfl, rfl⟩, Kc_rf⟩ (Nat.le_refl _) (Nat.le_refl _) sw.2.2.2.1.2 ⟨rfl, rfl, rfl, rfl, rfl, fun _ => BCo_no⟩ ⟨fun j _ _ => ⟨rfl, rfl⟩, Kc_rf⟩ (by omega) (Nat.le_refl _) (fun _ => rfl) n6 h34 hC
  · have hz : Kfc u u := hz.1
    refine pk_mo (Q := fun w2 (_ : Int32) => FLW w2) ?_ (fun v r hv => hW _ _ v r hv)
    refine Kf_pk (u0 := u) ?_
    obtain ⟨hF0, hF1, hF2, hF3, hF4, hF5, hF6, hF7, hF8, hF9, hF10, hF11, hF12, hF13, hF14, hF15, hF16⟩ := yf_rc_M_behind (u0 := u) (N := N) d
    repeat' (first | with_reducible assumption | with_reducible refine Kf_br ?_ ?_ | with_reducible refine Kf_bnd ?_ (fun _ _ _ => ?_) | with_reducible refine Kf_ck ?_ | with_reducible refine Kf_ltm ?_ (fun _ _ => ?_) | with_reducible refine Kf_some ?_ | with_reducible refine Kf_bo (fun _ => ?_) | with_reducible exact yf_fm_M_node (by assumption) | with_reducible exact yf_fm_M_pattern (by assumption) | with_reducible exact yf_fm_M_wrong (by assumption) | with_reducible exact yf_fm_M_rule (by assumption) | with_reducible exact yf_fm_M_isSign (by assumption) | with_reducible exact yf_fm_M_isWord (by assumption) | with_reducible exact yf_fm_M_takeSign (by assumption) | with_reducible exact yf_fm_M_takeWord (by assumption) | with_reducible exact yf_fm_M_needSign (by assumption) | with_reducible exact yf_fm_M_needWord (by assumption) | with_reducible exact yf_fm_M_opens (by assumption) | with_reducible exact yf_fm_M_boundIn (by assumption) | with_reducible exact yf_fr_M_found (by assumption) | with_reducible exact yf_fm_M_bind (by assumption) | with_reducible exact yf_fm_M_isUnderscore (by assumption) | with_reducible exact yf_fm_M_unbind (by assumption) | with_reducible exact yf_fm_M_term (by assumption) | with_reducible exact yf_fm_M_namePattern (by assumption) | with_reducible exact yf_fr_M_patternAt (by assumption) | with_reducible exact yf_fm_M_beginsUnit (by assumption) | with_reducible exact yf_fm_M_save (by assumption) | with_reducible exact yf_fm_M_addRoot (by assumption) | with_reducible exact yf_fm_M_level (by assumption) | with_reducible exact yf_fm_M_reduce (by assumption) | with_reducible exact yf_fm_M_takeBack (by assumption) | with_reducible exact yf_fm_M_forgetSaved (by assumption) | with_reducible exact yf_fr_M_last (by assumption) | with_reducible exact yf_fr_M_clause (by assumption) | with_reducible exact yf_fm_M_predefinedOf (by assumption) | with_reducible exact yf_fm_M_function0 (by assumption) | with_reducible exact yf_fm_M_program (by assumption) | with_reducible exact hF0 _ (by assumption) | with_reducible exact hF1 _ _ (by assumption) | with_reducible exact hF2 _ _ _ (by assumption) | with_reducible exact hF3 _ _ _ (by assumption) | with_reducible exact hF4 _ (by assumption) | with_reducible exact hF5 _ _ (by assumption) | with_reducible exact hF6 _ _ (by assumption) | with_reducible exact hF7 _ _ (by assumption) | with_reducible exact hF8 _ _ (by assumption) | with_reducible exact hF9 _ (by assumption) | with_reducible exact hF10 _ (by assumption) | with_reducible exact hF11 _ (by assumption) | with_reducible exact hF12 _ (by assumption) | with_reducible exact hF13 _ (by assumption) | with_reducible exact hF14 _ (by assumption) | with_reducible exact hF15 _ (by assumption) | with_reducible exact hF16 _ _ (by assumption) | with_reducible exact yf_fb_M_parts0_214 (by assumption) hF0 hF1 hF2 hF3 hF4 hF5 hF6 hF7 hF8 hF9 hF10 hF11 hF12 hF13 hF14 hF15 hF16 (yf_gg_M_parts0 hF0 hF1 hF2 hF3 hF4 hF5 hF6 hF7 hF8 hF9 hF10 hF11 hF12 hF13 hF14 hF15 hF16 _) | with_reducible exact yf_fb_M_parts0_127 (by assumption) hF0 hF1 hF2 hF3 hF4 hF5 hF6 hF7 hF8 hF9 hF10 hF11 hF12 hF13 hF14 hF15 hF16 (yf_gg_M_parts0 hF0 hF1 hF2 hF3 hF4 hF5 hF6 hF7 hF8 hF9 hF10 hF11 hF12 hF13 hF14 hF15 hF16 _) | with_reducible exact yf_fb_M_parts0_105 (by assumption) hF0 hF1 hF2 hF3 hF4 hF5 hF6 hF7 hF8 hF9 hF10 hF11 hF12 hF13 hF14 hF15 hF16 (yf_gg_M_parts0 hF0 hF1 hF2 hF3 hF4 hF5 hF6 hF7 hF8 hF9 hF10 hF11 hF12 hF13 hF14 hF15 hF16 _) | with_reducible exact yf_fb_M_parts0_74 (by assumption) hF0 hF1 hF2 hF3 hF4 hF5 hF6 hF7 hF8 hF9 hF10 hF11 hF12 hF13 hF14 hF15 hF16 (yf_gg_M_parts0 hF0 hF1 hF2 hF3 hF4 hF5 hF6 hF7 hF8 hF9 hF10 hF11 hF12 hF13 hF14 hF15 hF16 _) | with_reducible exact yf_fb_M_parts0_19 (by assumption) hF0 hF1 hF2 hF3 hF4 hF5 hF6 hF7 hF8 hF9 hF10 hF11 hF12 hF13 hF14 hF15 hF16 (yf_gg_M_parts0 hF0 hF1 hF2 hF3 hF4 hF5 hF6 hF7 hF8 hF9 hF10 hF11 hF12 hF13 hF14 hF15 hF16 _) | with_reducible exact yf_fb_M_parts0_17 (by assumption) hF0 hF1 hF2 hF3 hF4 hF5 hF6 hF7 hF8 hF9 hF10 hF11 hF12 hF13 hF14 hF15 hF16 (yf_gg_M_parts0 hF0 hF1 hF2 hF3 hF4 hF5 hF6 hF7 hF8 hF9 hF10 hF11 hF12 hF13 hF14 hF15 hF16 _) | with_reducible exact yf_fb_M_parts0_0 (by assumption) hF0 hF1 hF2 hF3 hF4 hF5 hF6 hF7 hF8 hF9 hF10 hF11 hF12 hF13 hF14 hF15 hF16 (yf_gg_M_parts0 hF0 hF1 hF2 hF3 hF4 hF5 hF6 hF7 hF8 hF9 hF10 hF11 hF12 hF13 hF14 hF15 hF16 _) | with_reducible exact (yf_gg_M_parts0 hF0 hF1 hF2 hF3 hF4 hF5 hF6 hF7 hF8 hF9 hF10 hF11 hF12 hF13 hF14 hF15 hF16 _) _ _ _ _ _ _ (by assumption) | with_reducible refine Kf_ltv (fun _ => ?_) | with_reducible refine Kf_I ?_ (by decide) | with_reducible refine Kf_A ?_ | with_reducible refine Kf_J ?_ | with_reducible refine Kf_L ?_)
theorem cho_pp {F : MS → Int32 → Option (MS × (Int32 ⊕ Nat))} (c : CTZ m0 w0 K T nm Nk) (hB : HBo N m0 w0 K T nm Nk d) (hG : HGc N m0 w0 K T nm Nk d) (hW : ∀ m k w r, FLW w → R m (.inr k) w r) (h : RLP m0 w0 T p m w) (hn : m.1 306 = I (n : Nat)) (hn0 : n ≤ 2 * p) (hR : RNs w (e :: t)) (nd : ND w) (h70 : w.1 70 = I (o : Nat)) (ho : o ≤ 25) (h73 : w.1 73 = 0)
    (h34 : v4 = -1 ∨ v3 ≠ -1)
    (hC : ∀ m3 ρ w3 a b, a ≠ -1 → PAR N m0 w0 K T nm Nk p n e t m w m3 ρ w3 → PP R (F m3 ρ) (fb_M_parts0_214 N (rc_M_behind N d) (gg_M_parts0 N (rc_M_behind N d) M) w3 1 v2 a b)) :
    PP R (bTm ((hrc_Pa_matched N D).2.2.2.2.1 m) F) (fb_M_parts0_19 N (rc_M_behind N d) (gg_M_parts0 N (rc_M_behind N d) M) w 1 v2 v3 v4 1) := by
  have T4 := c.1.1.1
  have e1400 := e1400_p hR
  cases D with
  | zero => exact pp_nl
  | succ D =>
  refine par_hd (F := fun _ => none) hR (fun x v6 n6 sx x69 => ?_)
  rw [if_neg (by decide)]
  show PP R (bTm (bTm ((hrc_Pa_matched N D).2.2.2.2.2.2.2.2.2.2.2.2.2.2.2.2.2.2.1 m 0 4000) (fun u2 r2 => hb_Pa_part_30 N (hrc_Pa_matched N D) () u2 (m.1 665) 0 r2)) F) _
  rw [bTm_as, h.2.2.1]
  have s0 := STQ_s (STQ_0 (K := K) (Nk := Nk) (gd := false) (W := fun _ => 32) h hn hR nd) sx x69
  have x70 : x.1 70 = I (o : Nat) := by rw [sx.1 70 (by decide)]; exact h70
  have x73 : x.1 73 = 0 := by rw [sx.1 73 (by decide)]; exact h73
  unfold fb_M_parts0_105
  refine r_ck (fun _ => r_ck (fun _ => r_lt ?_))
  rw [show decide ((1 : Int32) = 0) = false from rfl, br_fq]
  have sm1 : SMS x (upA x 40 (upd (x.2.2.1 40) v6.toNatClampNeg (-1))) := SMS_A SMS_rf (by unfold SMX; omega) (by omega)
  have s1 := STQ_s s0 sm1 rfl
  generalize hy : upA x 40 (upd (x.2.2.1 40) v6.toNatClampNeg (-1)) = y at s1 ⊢
  have y70 : y.1 70 = I (o : Nat) := by rw [← hy]; exact x70
  have y73 : y.1 73 = 0 := by rw [← hy]; exact x73
  clear hy sm1
  refine pp_bTn (hG D m y p n (e :: t) o s1.1 hn hn0 (STQ_rn s1) (STQ_nd s1) y70 ho y73) (fun m3 φ u3 r3 hz => ?_) (fun m3 k3 u3 r3 hz => ?_)
  · obtain ⟨lg, q3, n3, sg, s3c, Xg, Wg, Rg, Zg, CLg, d1, d2, d3, stg, d5, d6, d7, d8⟩ := hz
    rw [d1]
    have nb3 := stg.2.1
    have f7 := stg.2.2.2.2.1.2.2.2.2.2.2.1
    have stt : STQ m0 w0 K T Nk false m w p n (e :: t) (0 + 1) m3 u3 q3 n3 s3c (max 0 Xg) (mrg p (fun _ => 32) Wg) Rg Zg CLg := by
      have := STQ_cl (CM := CLg) (fun x => ⟨fun z => z.elim False.elim id, Or.inr⟩) (STQ_tr s1 stg)
      rw [Bool.false_or, Bool.false_or] at this
      exact this
    refine part_tl (lp := []) (lg := lg) (q := p) (X1 := 0) (X2 := Xg) (mp := m) (l1 := n) (np := n) (mg := m3) (l2 := n) (ng := n3) (sc2 := sg) (sc1 := e :: t) c hB hW stt hn0 ⟨Nat.le_refl _, by omega⟩ ?_ ho ?_ e1400 ⟨rfl, rfl, rfl⟩ ⟨fun j h1 h2 => absurd h2 (by omega), PCG_k stg.2.2.2.1⟩ (Nat.le_refl _) (by omega) (by decide) (ERW_w (fun j h1 _ => mrg_r h1) d5) ⟨fun j _ _ => ⟨rfl, rfl⟩, Kc_rf⟩ (Nat.le_refl _) (Nat.le_refl _) d6 n6 h34 hC
    · rw [f7.1 70 (by decide)]; exact y70
    · rw [f7.1 73 (by decide)]; exact y73
  · have hz : Kfc u3 u3 := hz
    refine pk_mo (Q := fun w2 (_ : Int32) => FLW w2) ?_ (fun v r hv => hW _ _ v r hv)
    refine Kf_pk (u0 := u3) ?_
    obtain ⟨hF0, hF1, hF2, hF3, hF4, hF5, hF6, hF7, hF8, hF9, hF10, hF11, hF12, hF13, hF14, hF15, hF16⟩ := yf_rc_M_behind (u0 := u3) (N := N) d
    repeat' (first | with_reducible assumption | with_reducible refine Kf_br ?_ ?_ | with_reducible refine Kf_bnd ?_ (fun _ _ _ => ?_) | with_reducible refine Kf_ck ?_ | with_reducible refine Kf_ltm ?_ (fun _ _ => ?_) | with_reducible refine Kf_some ?_ | with_reducible refine Kf_bo (fun _ => ?_) | with_reducible exact yf_fm_M_node (by assumption) | with_reducible exact yf_fm_M_pattern (by assumption) | with_reducible exact yf_fm_M_wrong (by assumption) | with_reducible exact yf_fm_M_rule (by assumption) | with_reducible exact yf_fm_M_isSign (by assumption) | with_reducible exact yf_fm_M_isWord (by assumption) | with_reducible exact yf_fm_M_takeSign (by assumption) | with_reducible exact yf_fm_M_takeWord (by assumption) | with_reducible exact yf_fm_M_needSign (by assumption) | with_reducible exact yf_fm_M_needWord (by assumption) | with_reducible exact yf_fm_M_opens (by assumption) | with_reducible exact yf_fm_M_boundIn (by assumption) | with_reducible exact yf_fr_M_found (by assumption) | with_reducible exact yf_fm_M_bind (by assumption) | with_reducible exact yf_fm_M_isUnderscore (by assumption) | with_reducible exact yf_fm_M_unbind (by assumption) | with_reducible exact yf_fm_M_term (by assumption) | with_reducible exact yf_fm_M_namePattern (by assumption) | with_reducible exact yf_fr_M_patternAt (by assumption) | with_reducible exact yf_fm_M_beginsUnit (by assumption) | with_reducible exact yf_fm_M_save (by assumption) | with_reducible exact yf_fm_M_addRoot (by assumption) | with_reducible exact yf_fm_M_level (by assumption) | with_reducible exact yf_fm_M_reduce (by assumption) | with_reducible exact yf_fm_M_takeBack (by assumption) | with_reducible exact yf_fm_M_forgetSaved (by assumption) | with_reducible exact yf_fr_M_last (by assumption) | with_reducible exact yf_fr_M_clause (by assumption) | with_reducible exact yf_fm_M_predefinedOf (by assumption) | with_reducible exact yf_fm_M_function0 (by assumption) | with_reducible exact yf_fm_M_program (by assumption) | with_reducible exact hF0 _ (by assumption) | with_reducible exact hF1 _ _ (by assumption) | with_reducible exact hF2 _ _ _ (by assumption) | with_reducible exact hF3 _ _ _ (by assumption) | with_reducible exact hF4 _ (by assumption) | with_reducible exact hF5 _ _ (by assumption) | with_reducible exact hF6 _ _ (by assumption) | with_reducible exact hF7 _ _ (by assumption) | with_reducible exact hF8 _ _ (by assumption) | with_reducible exact hF9 _ (by assumption) | with_reducible exact hF10 _ (by assumption) | with_reducible exact hF11 _ (by assumption) | with_reducible exact hF12 _ (by assumption) | with_reducible exact hF13 _ (by assumption) | with_reducible exact hF14 _ (by assumption) | with_reducible exact hF15 _ (by assumption) | with_reducible exact hF16 _ _ (by assumption) | with_reducible exact yf_fb_M_parts0_214 (by assumption) hF0 hF1 hF2 hF3 hF4 hF5 hF6 hF7 hF8 hF9 hF10 hF11 hF12 hF13 hF14 hF15 hF16 (yf_gg_M_parts0 hF0 hF1 hF2 hF3 hF4 hF5 hF6 hF7 hF8 hF9 hF10 hF11 hF12 hF13 hF14 hF15 hF16 _) | with_reducible exact yf_fb_M_parts0_127 (by assumption) hF0 hF1 hF2 hF3 hF4 hF5 hF6 hF7 hF8 hF9 hF10 hF11 hF12 hF13 hF14 hF15 hF16 (yf_gg_M_parts0 hF0 hF1 hF2 hF3 hF4 hF5 hF6 hF7 hF8 hF9 hF10 hF11 hF12 hF13 hF14 hF15 hF16 _) | with_reducible exact yf_fb_M_parts0_105 (by assumption) hF0 hF1 hF2 hF3 hF4 hF5 hF6 hF7 hF8 hF9 hF10 hF11 hF12 hF13 hF14 hF15 hF16 (yf_gg_M_parts0 hF0 hF1 hF2 hF3 hF4 hF5 hF6 hF7 hF8 hF9 hF10 hF11 hF12 hF13 hF14 hF15 hF16 _) | with_reducible exact yf_fb_M_parts0_74 (by assumption) hF0 hF1 hF2 hF3 hF4 hF5 hF6 hF7 hF8 hF9 hF10 hF11 hF12 hF13 hF14 hF15 hF16 (yf_gg_M_parts0 hF0 hF1 hF2 hF3 hF4 hF5 hF6 hF7 hF8 hF9 hF10 hF11 hF12 hF13 hF14 hF15 hF16 _) | with_reducible exact yf_fb_M_parts0_19 (by assumption) hF0 hF1 hF2 hF3 hF4 hF5 hF6 hF7 hF8 hF9 hF10 hF11 hF12 hF13 hF14 hF15 hF16 (yf_gg_M_parts0 hF0 hF1 hF2 hF3 hF4 hF5 hF6 hF7 hF8 hF9 hF10 hF11 hF12 hF13 hF14 hF15 hF16 _) | with_reducible exact yf_fb_M_parts0_17 (by assumption) hF0 hF1 hF2 hF3 hF4 hF5 hF6 hF7 hF8 hF9 hF10 hF11 hF12 hF13 hF14 hF15 hF16 (yf_gg_M_parts0 hF0 hF1 hF2 hF3 hF4 hF5 hF6 hF7 hF8 hF9 hF10 hF11 hF12 hF13 hF14 hF15 hF16 _) | with_reducible exact yf_fb_M_parts0_0 (by assumption) hF0 hF1 hF2 hF3 hF4 hF5 hF6 hF7 hF8 hF9 hF10 hF11 hF12 hF13 hF14 hF15 hF16 (yf_gg_M_parts0 hF0 hF1 hF2 hF3 hF4 hF5 hF6 hF7 hF8 hF9 hF10 hF11 hF12 hF13 hF14 hF15 hF16 _) | with_reducible exact (yf_gg_M_parts0 hF0 hF1 hF2 hF3 hF4 hF5 hF6 hF7 hF8 hF9 hF10 hF11 hF12 hF13 hF14 hF15 hF16 _) _ _ _ _ _ _ (by assumption) | with_reducible refine Kf_ltv (fun _ => ?_) | with_reducible refine Kf_I ?_ (by decide) | with_reducible refine Kf_A ?_ | with_reducible refine Kf_J ?_ | with_reducible refine Kf_L ?_)
end
