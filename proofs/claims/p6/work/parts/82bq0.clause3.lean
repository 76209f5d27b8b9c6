set_option maxRecDepth 100000
def HCl (N : Nat) (m0 w0 : MS) (K : Nat → Nat) (T : Nat) (nm Nk : Nat → Nat) (d : Nat) : Prop := ∀ (D : Nat) (m w : MS) (p n : Nat) (sc : SCT) (o tok : Nat) (v1 : Int32), RLP m0 w0 T (p + 1) m (adv w p) → WP w K T p → w.1 67 = 0 → K p = 20 → m.1 306 = I (n : Nat) → n ≤ 2 * (p + 1) → RNs w sc → ND w → w.1 70 = I (o : Nat) → o ≤ 25 → w.1 73 = 0 → tok ≤ 4000 → PP (CLZ N m0 w0 K T nm Nk tok (p + 1) n sc m w) (bTm ((hrc_Pa_matched N D).2.2.2.2.2.2.2.2.2.2.2.2.2.2.2.2.2.2.2 m 1 6 21) (fun u9 r9 => (hrc_Pa_matched N D).2.2.2.2.2.1 u9 (I (tok : Nat)) r9)) ((rc_M_behind N d).2.2.2.2.2.2.2.2.2.2.2.2.2.2.2.2 w v1)
section
variable {α : Type} {R : MS → Int32 ⊕ Nat → MS → Int32 → Prop} {A : Option (MS × α)} {m0 w0 m w v u m2 m3 w2 x' y' z' mF mB wB mp mg : MS} {K nm Nk W W1 W2 WA WB : Nat → Nat} {T p n N q q1 q3 qx X Y X1 X2 XA n0 n1 n2 n3 lo lo2 l1 l2 np ng p0 p2 p4 ν μ π a b L L' k d o oo M D s s2 kd j j2 tok : Nat} {sc sc1 sc2 sc3 sc4 sc5 scB t t2 t3 t4 t5 : SCT} {e e2 e3 e4 e5 : List Nat × List Nat × Nat} {gd Rf Rg Zf Zg R1 Z1 own cs : Bool} {BC : MS → Prop} {v1 v2 v3 v4 v5 v6 v1c r ξ φ ca cb cc x y : Int32} {S : SG_M_behind} {NC : Nat → Prop} {CL CM CL1 : Int32 × Int32 × Int32 → Prop} {l lp lg : List Nat}
theorem cl83_f (h : FLW w) : PK (fun w2 (_ : Int32) => FLW w2) (fb_M_clause_183 N (rc_M_behind N d) (gg_M_clause N (rc_M_behind N d) M) w v2) := by
  have hz : Kfc w w := h
  refine Kf_pk (u0 := w) ?_
  obtain ⟨hF0, hF1, hF2, hF3, hF4, hF5, hF6, hF7, hF8, hF9, hF10, hF11, hF12, hF13, hF14, hF15, hF16⟩ := yf_rc_M_behind (u0 := w) (N := N) d
  repeat' (first | with_reducible assumption | with_reducible refine Kf_br ?_ ?_ | with_reducible refine Kf_bnd ?_ (fun _ _ _ => ?_) | with_reducible refine Kf_ck ?_ | with_reducible refine Kf_ltm ?_ (fun _ _ => ?_) | with_reducible refine Kf_some ?_ | with_reducible refine Kf_bo (fun _ => ?_) | with_reducible exact yf_fm_M_node (by assumption) | with_reducible exact yf_fm_M_pattern (by assumption) | with_reducible exact yf_fm_M_wrong (by assumption) | with_reducible exact yf_fm_M_rule (by assumption) | with_reducible exact yf_fm_M_isSign (by assumption) | with_reducible exact yf_fm_M_isWord (by assumption) | with_reducible exact yf_fm_M_takeSign (by assumption) | with_reducible exact yf_fm_M_takeWord (by assumption) | with_reducible exact yf_fm_M_needSign (by assumption) | with_reducible exact yf_fm_M_needWord (by assumption) | with_reducible exact yf_fm_M_opens (by assumption) | with_reducible exact yf_fm_M_boundIn (by assumption) | with_reducible exact yf_fr_M_found (by assumption) | with_reducible exact yf_fm_M_bind (by assumption) | with_reducible exact yf_fm_M_isUnderscore (by assumption) | with_reducible exact yf_fm_M_unbind (by assumption) | with_reducible exact yf_fm_M_term (by assumption) | with_reducible exact yf_fm_M_namePattern (by assumption) | with_reducible exact yf_fr_M_patternAt (by assumption) | with_reducible exact yf_fm_M_beginsUnit (by assumption) | with_reducible exact yf_fm_M_save (by assumption) | with_reducible exact yf_fm_M_addRoot (by assumption) | with_reducible exact yf_fm_M_level (by assumption) | with_reducible exact yf_fm_M_reduce (by assumption) | with_reducible exact yf_fm_M_takeBack (by assumption) | with_reducible exact yf_fm_M_forgetSaved (by assumption) | with_reducible exact yf_fr_M_last (by assumption) | with_reducible exact yf_fr_M_clause (by assumption) | with_reducible exact yf_fm_M_predefinedOf (by assumption) | with_reducible exact yf_fm_M_function0 (by assumption) | with_reducible exact yf_fm_M_program (by assumption) | with_reducible exact hF0 _ (by assumption) | with_reducible exact hF1 _ _ (by assumption) | with_reducible exact hF2 _ _ _ (by assumption) | with_reducible exact hF3 _ _ _ (by assumption) | with_reducible exact hF4 _ (by assumption) | with_reducible exact hF5 _ _ (by assumption) | with_reducible exact hF6 _ _ (by assumption) | with_reducible exact hF7 _ _ (by assumption) | with_reducible exact hF8 _ _ (by assumption) | with_reducible exact hF9 _ (by assumption) | with_reducible exact hF10 _ (by assumption) | with_reducible exact hF11 _ (by assumption) | with_reducible exact hF12 _ (by assumption) | with_reducible exact hF13 _ (by assumption) | with_reducible exact hF14 _ (by assumption) | with_reducible exact hF15 _ (by assumption) | with_reducible exact hF16 _ _ (by assumption) | with_reducible exact yf_fb_M_clause_183 (by assumption) hF0 hF1 hF2 hF3 hF4 hF5 hF6 hF7 hF8 hF9 hF10 hF11 hF12 hF13 hF14 hF15 hF16 (yf_gg_M_clause hF0 hF1 hF2 hF3 hF4 hF5 hF6 hF7 hF8 hF9 hF10 hF11 hF12 hF13 hF14 hF15 hF16 _) | with_reducible exact yf_fb_M_clause_172 (by assumption) hF0 hF1 hF2 hF3 hF4 hF5 hF6 hF7 hF8 hF9 hF10 hF11 hF12 hF13 hF14 hF15 hF16 (yf_gg_M_clause hF0 hF1 hF2 hF3 hF4 hF5 hF6 hF7 hF8 hF9 hF10 hF11 hF12 hF13 hF14 hF15 hF16 _) | with_reducible exact yf_fb_M_clause_134 (by assumption) hF0 hF1 hF2 hF3 hF4 hF5 hF6 hF7 hF8 hF9 hF10 hF11 hF12 hF13 hF14 hF15 hF16 (yf_gg_M_clause hF0 hF1 hF2 hF3 hF4 hF5 hF6 hF7 hF8 hF9 hF10 hF11 hF12 hF13 hF14 hF15 hF16 _) | with_reducible exact yf_fb_M_clause_103 (by assumption) hF0 hF1 hF2 hF3 hF4 hF5 hF6 hF7 hF8 hF9 hF10 hF11 hF12 hF13 hF14 hF15 hF16 (yf_gg_M_clause hF0 hF1 hF2 hF3 hF4 hF5 hF6 hF7 hF8 hF9 hF10 hF11 hF12 hF13 hF14 hF15 hF16 _) | with_reducible exact yf_fb_M_clause_75 (by assumption) hF0 hF1 hF2 hF3 hF4 hF5 hF6 hF7 hF8 hF9 hF10 hF11 hF12 hF13 hF14 hF15 hF16 (yf_gg_M_clause hF0 hF1 hF2 hF3 hF4 hF5 hF6 hF7 hF8 hF9 hF10 hF11 hF12 hF13 hF14 hF15 hF16 _) | with_reducible exact yf_fb_M_clause_0 (by assumption) hF0 hF1 hF2 hF3 hF4 hF5 hF6 hF7 hF8 hF9 hF10 hF11 hF12 hF13 hF14 hF15 hF16 (yf_gg_M_clause hF0 hF1 hF2 hF3 hF4 hF5 hF6 hF7 hF8 hF9 hF10 hF11 hF12 hF13 hF14 hF15 hF16 _) | with_reducible exact (yf_gg_M_clause hF0 hF1 hF2 hF3 hF4 hF5 hF6 hF7 hF8 hF9 hF10 hF11 hF12 hF13 hF14 hF15 hF16 _) _ _ _ _ (by assumption) | with_reducible refine Kf_ltv (fun _ => ?_) | with_reducible refine Kf_I ?_ (by decide) | with_reducible refine Kf_A ?_ | with_reducible refine Kf_J ?_ | with_reducible refine Kf_L ?_)
theorem cl_tl (c : CTZ m0 w0 K T nm Nk) (c45 : ∀ p, p ≤ T → K p ≠ 45) (hB : HBo N m0 w0 K T nm Nk d) (hG : ∀ d', d' ≤ d → HGc N m0 w0 K T nm Nk d') (st : STN m0 w0 K T Nk mB wB p0 n scB s m2 w2 qx n1 sc1 X1 W false false (fun _ => False)) (hn0 : n ≤ 2 * p0) (h70 : w2.1 70 = I (o : Nat)) (ho : o ≤ 25) (h73 : w2.1 73 = 0) (hp : PRW N K nm m2 n n1 true W lp p0 qx scB sc1 X1) (hX1 : X1 ≤ 1400) (hlp : lp.length ≤ 6) (htk : tok ≤ 4000) (hJ : CJb wB w2 v2 lp.length) {S' : SF_Pa_matched} : PP (CLZ N m0 w0 K T nm Nk tok p0 n scB mB wB) (bTm (hb_Pa_rowUpTo_18 N S' () m2 21 (I ((lp.headD 0 : Nat) : Int))) (fun u9 r9 => (hrc_Pa_matched N D).2.2.2.2.2.1 u9 (I (tok : Nat)) r9)) (fb_M_clause_183 N (rc_M_behind N d) (gg_M_clause N (rc_M_behind N d) M) w2 v2) := by
  have T4 := c.1.1.1
  have hc := RLP_c c st.1
  have hw := RLP_w c st.1
  have h0 := st.1.2.2.2.2.2.2
  have nb := st.2.1
  unfold hb_Pa_rowUpTo_18 fb_M_clause_183
  by_cases k21 : K qx = 21
  · have ql : qx < T := TWK_lt c st.1.2.2.2.2.1 (by omega) (by omega)
    rw [need_e (s := 21) hc k21 (by decide) rfl, bTm_l, bTm_l, ndS_1 (s := 1) hw h0 (by decide) rfl k21, bnd_s]
    have s1 := STN_ad st ql (by omega)
    have aI : ∀ k, k ≠ 69 → (adv w2 qx).1 k = w2.1 k := fun k hk => by unfold adv; rw [upI_ne hk]
    have y70 : (adv w2 qx).1 70 = I (o : Nat) := by rw [aI 70 (by decide)]; exact h70
    have y73 : (adv w2 qx).1 73 = 0 := by rw [aI 73 (by decide)]; exact h73
    have yJ : CJb wB (adv w2 qx) v2 lp.length := CJ_k hJ (Kb_I Kb_rf (by decide))
    generalize hmx : advc m2 qx = mx at s1 ⊢
    have mxn : ∀ j, nod mx j = nod m2 j ∧ mx.2.2.1 21 j = m2.2.2.1 21 j := fun j => by rw [← hmx]; exact ⟨rfl, rfl⟩
    have mxk : Kcc m2 mx := by rw [← hmx]; exact kc_ad
    clear hmx
    generalize adv w2 qx = y at s1 y70 y73 yJ ⊢
    have hc2 := RLP_c c s1.1
    have hw2 := RLP_w c s1.1
    have h2 := s1.1.2.2.2.2.2.2
    have qT := s1.1.2.2.2.2.1
    have k46 := hc2.1.1.k46 hc2.2.2
    cases d with
    | zero => exact pp_nr
    | succ d =>
    cases D with
    | zero => exact pp_nl
    | succ D =>
    show PP _ (hb_Pa_part_0 N (hrc_Pa_matched N D) () mx (I (tok : Nat)) (I ((lp.headD 0 : Nat) : Int))) (bnd (fb_M_guard_0 N (rc_M_behind N d) () y) _)
    unfold hb_Pa_part_0 fb_M_guard_0
    rw [look_e hc2 (c45 _ qT), bTm_l, I_dn (a := K (qx + 1)) (b := 19) (s := 19) (by omega) (by decide) rfl, tkW_e (k := 19) (s := 14) hw2 h2 (by decide) rfl]
    by_cases k19 : K (qx + 1) = 19
    · have ql2 : qx + 1 < T := TWK_lt c qT (by omega) (by omega)
      rw [decide_eq_true k19, br_tq, if_pos k19, bnd_s, show decide ((1 : Int32) = 0) = false from rfl, br_fq, bnd_as2, hc2.2.1, i_suc]
      have s2 := STN_ad s1 ql2 (by omega)
      have bI : ∀ k, k ≠ 69 → (adv y (qx + 1)).1 k = y.1 k := fun k hk => by unfold adv; rw [upI_ne hk]
      refine l_lt ?_
      refine pp_bTn (pp_kr (hG d (by omega) D (advc mx (qx + 1)) (adv y (qx + 1)) (qx + 1 + 1) n1 sc1 o s2.1 s2.2.1.2.1 (by have := s2.2.1; omega) s2.2.2.2.2.1 (STW_nd s2.2.2.2.2) (by rw [bI 70 (by decide)]; exact y70) ho (by rw [bI 73 (by decide)]; exact y73)) ((yb_rc_M_behind (N := N) d).2.2.2.2.2.2.2.2.2.2.2.2.2.2.1 _ _ Kb_rf)) (fun m3 φ u3 r3 hz => ?_) (fun m3 k3 u3 r3 hz => ?_)
      · obtain ⟨hz, hkb⟩ := hz
        have zJ := CJ_k (CJ_k yJ (Kb_I Kb_rf (by decide))) hkb
        obtain ⟨lg, q3, n3, sg, s3c, Xg, Wg, Rg, Zg, CLg, d1, d2, d3, stg, d5, d6, d7, d8⟩ := hz
        rw [d1, bnd_s]
        have nb3 := stg.2.1
        have f7 := stg.2.2.2.2.1.2.2.2.2.2.2.1
        have stt := STN_cl (CM := CLg) (fun x => ⟨fun z => z.elim False.elim id, Or.inr⟩) (STN_tr s2 stg)
        rw [Bool.false_or, Bool.false_or] at stt
        refine cl_end (lp := lp) (lg := lg) (q := qx) (q3 := q3) (X1 := X1) (X2 := Xg) (mp := m2) (l1 := n) (np := n1) (mg := m3) (l2 := n1) (ng := n3) (sc2 := sg) (sc1 := sc1) c hB stt hn0 ⟨by omega, by omega, Nat.le_refl _, by omega⟩ (fun j h1 h2 => absurd h2 (by omega)) ?_ ho ?_ (PRW_w (fun j h1 h2 => mrg_l (by omega)) hp) ⟨fun j h1 h2 => ⟨(stg.2.2.1 j h2).1.trans (mxn j).1, (stg.2.2.1 j h2).2.trans (mxn j).2⟩, Kc_tr mxk (Kc_tr kc_ad (PCG_k stg.2.2.2.1))⟩ (Nat.le_refl _) (by omega) hX1 hlp htk (ERW_g (q := qx + 1 + 1) (by omega) (fun j h1 h2 => by
          have : j = qx ∨ j = qx + 1 := by omega
          rcases this with z | z <;> rw [z] <;> omega) d2 (ERW_w (fun j h1 _ => mrg_r h1) d5)) ⟨fun j _ _ => ⟨rfl, rfl⟩, Kc_rf⟩ (by omega) (Nat.le_refl _) d6 stt.2.2.2.2.2.2.2.1.1 zJ
        · rw [f7.1 70 (by decide), bI 70 (by decide)]; exact y70
        · rw [f7.1 73 (by decide), bI 73 (by decide)]; exact y73
      · have hz : Kfc u3 u3 := hz.1
        refine Kf_pk (u0 := u3) ?_
        obtain ⟨hF0, hF1, hF2, hF3, hF4, hF5, hF6, hF7, hF8, hF9, hF10, hF11, hF12, hF13, hF14, hF15, hF16⟩ := yf_rc_M_behind (u0 := u3) (N := N) (d+1)
        repeat' (first | with_reducible assumption | with_reducible refine Kf_br ?_ ?_ | with_reducible refine Kf_bnd ?_ (fun _ _ _ => ?_) | with_reducible refine Kf_ck ?_ | with_reducible refine Kf_ltm ?_ (fun _ _ => ?_) | with_reducible refine Kf_some ?_ | with_reducible refine Kf_bo (fun _ => ?_) | with_reducible exact yf_fm_M_node (by assumption) | with_reducible exact yf_fm_M_pattern (by assumption) | with_reducible exact yf_fm_M_wrong (by assumption) | with_reducible exact yf_fm_M_rule (by assumption) | with_reducible exact yf_fm_M_isSign (by assumption) | with_reducible exact yf_fm_M_isWord (by assumption) | with_reducible exact yf_fm_M_takeSign (by assumption) | with_reducible exact yf_fm_M_takeWord (by assumption) | with_reducible exact yf_fm_M_needSign (by assumption) | with_reducible exact yf_fm_M_needWord (by assumption) | with_reducible exact yf_fm_M_opens (by assumption) | with_reducible exact yf_fm_M_boundIn (by assumption) | with_reducible exact yf_fr_M_found (by assumption) | with_reducible exact yf_fm_M_bind (by assumption) | with_reducible exact yf_fm_M_isUnderscore (by assumption) | with_reducible exact yf_fm_M_unbind (by assumption) | with_reducible exact yf_fm_M_term (by assumption) | with_reducible exact yf_fm_M_namePattern (by assumption) | with_reducible exact yf_fr_M_patternAt (by assumption) | with_reducible exact yf_fm_M_beginsUnit (by assumption) | with_reducible exact yf_fm_M_save (by assumption) | with_reducible exact yf_fm_M_addRoot (by assumption) | with_reducible exact yf_fm_M_level (by assumption) | with_reducible exact yf_fm_M_reduce (by assumption) | with_reducible exact yf_fm_M_takeBack (by assumption) | with_reducible exact yf_fm_M_forgetSaved (by assumption) | with_reducible exact yf_fr_M_last (by assumption) | with_reducible exact yf_fr_M_clause (by assumption) | with_reducible exact yf_fm_M_predefinedOf (by assumption) | with_reducible exact yf_fm_M_function0 (by assumption) | with_reducible exact yf_fm_M_program (by assumption) | with_reducible exact hF0 _ (by assumption) | with_reducible exact hF1 _ _ (by assumption) | with_reducible exact hF2 _ _ _ (by assumption) | with_reducible exact hF3 _ _ _ (by assumption) | with_reducible exact hF4 _ (by assumption) | with_reducible exact hF5 _ _ (by assumption) | with_reducible exact hF6 _ _ (by assumption) | with_reducible exact hF7 _ _ (by assumption) | with_reducible exact hF8 _ _ (by assumption) | with_reducible exact hF9 _ (by assumption) | with_reducible exact hF10 _ (by assumption) | with_reducible exact hF11 _ (by assumption) | with_reducible exact hF12 _ (by assumption) | with_reducible exact hF13 _ (by assumption) | with_reducible exact hF14 _ (by assumption) | with_reducible exact hF15 _ (by assumption) | with_reducible exact hF16 _ _ (by assumption) | with_reducible exact yf_fb_M_clause_183 (by assumption) hF0 hF1 hF2 hF3 hF4 hF5 hF6 hF7 hF8 hF9 hF10 hF11 hF12 hF13 hF14 hF15 hF16 (yf_gg_M_clause hF0 hF1 hF2 hF3 hF4 hF5 hF6 hF7 hF8 hF9 hF10 hF11 hF12 hF13 hF14 hF15 hF16 _) | with_reducible exact yf_fb_M_clause_172 (by assumption) hF0 hF1 hF2 hF3 hF4 hF5 hF6 hF7 hF8 hF9 hF10 hF11 hF12 hF13 hF14 hF15 hF16 (yf_gg_M_clause hF0 hF1 hF2 hF3 hF4 hF5 hF6 hF7 hF8 hF9 hF10 hF11 hF12 hF13 hF14 hF15 hF16 _) | with_reducible exact yf_fb_M_clause_134 (by assumption) hF0 hF1 hF2 hF3 hF4 hF5 hF6 hF7 hF8 hF9 hF10 hF11 hF12 hF13 hF14 hF15 hF16 (yf_gg_M_clause hF0 hF1 hF2 hF3 hF4 hF5 hF6 hF7 hF8 hF9 hF10 hF11 hF12 hF13 hF14 hF15 hF16 _) | with_reducible exact yf_fb_M_clause_103 (by assumption) hF0 hF1 hF2 hF3 hF4 hF5 hF6 hF7 hF8 hF9 hF10 hF11 hF12 hF13 hF14 hF15 hF16 (yf_gg_M_clause hF0 hF1 hF2 hF3 hF4 hF5 hF6 hF7 hF8 hF9 hF10 hF11 hF12 hF13 hF14 hF15 hF16 _) | with_reducible exact yf_fb_M_clause_75 (by assumption) hF0 hF1 hF2 hF3 hF4 hF5 hF6 hF7 hF8 hF9 hF10 hF11 hF12 hF13 hF14 hF15 hF16 (yf_gg_M_clause hF0 hF1 hF2 hF3 hF4 hF5 hF6 hF7 hF8 hF9 hF10 hF11 hF12 hF13 hF14 hF15 hF16 _) | with_reducible exact yf_fb_M_clause_0 (by assumption) hF0 hF1 hF2 hF3 hF4 hF5 hF6 hF7 hF8 hF9 hF10 hF11 hF12 hF13 hF14 hF15 hF16 (yf_gg_M_clause hF0 hF1 hF2 hF3 hF4 hF5 hF6 hF7 hF8 hF9 hF10 hF11 hF12 hF13 hF14 hF15 hF16 _) | with_reducible exact (yf_gg_M_clause hF0 hF1 hF2 hF3 hF4 hF5 hF6 hF7 hF8 hF9 hF10 hF11 hF12 hF13 hF14 hF15 hF16 _) _ _ _ _ (by assumption) | with_reducible refine Kf_ltv (fun _ => ?_) | with_reducible refine Kf_I ?_ (by decide) | with_reducible refine Kf_A ?_ | with_reducible refine Kf_J ?_ | with_reducible refine Kf_L ?_)
    · rw [decide_eq_false k19, br_fq, if_neg k19, bnd_s, show decide ((0 : Int32) = 0) = true from rfl, br_tq, bnd_s]
      have stt : STN m0 w0 K T Nk mB wB p0 n scB (s + 2) mx y (qx + 1) n1 sc1 (max X1 0) W false false (fun _ => False) := by
        rw [Nat.max_zero]; exact s1
      exact cl_end (lp := lp) (lg := []) (q := qx) (q3 := qx) (X1 := X1) (X2 := 0) (mp := m2) (l1 := n) (np := n1) (mg := mx) (l2 := n1) (ng := n1) (sc2 := sc1) (sc1 := sc1) c hB stt hn0 ⟨by omega, by omega, by omega, by omega⟩ (fun j h1 h2 => by rw [show j = qx by omega]; omega) y70 ho y73 hp ⟨fun j h1 h2 => mxn j, mxk⟩ (Nat.le_refl _) (Nat.le_refl _) hX1 hlp htk ⟨rfl, rfl, rfl, rfl, rfl, fun _ => BCo_no⟩ ⟨fun j _ _ => ⟨rfl, rfl⟩, Kc_rf⟩ (by omega) (Nat.le_refl _) (fun _ => rfl) st.2.2.2.2.2.2.2.1.1 yJ
  · refine pp_rf (RFS_T (RFS_T (need_x (s := 21) hc k21 (by decide) rfl))) (fun mm => ?_)
    refine pk_bnd (pk_mo (ndS_0 (N := N) (s := 1) hw h0 (by decide) rfl k21) (fun v r2 z => ?_))
    have hz : Kfc v v := z
    refine Kf_pk (u0 := v) ?_
    obtain ⟨hF0, hF1, hF2, hF3, hF4, hF5, hF6, hF7, hF8, hF9, hF10, hF11, hF12, hF13, hF14, hF15, hF16⟩ := yf_rc_M_behind (u0 := v) (N := N) d
    repeat' (first | with_reducible assumption | with_reducible refine Kf_br ?_ ?_ | with_reducible refine Kf_bnd ?_ (fun _ _ _ => ?_) | with_reducible refine Kf_ck ?_ | with_reducible refine Kf_ltm ?_ (fun _ _ => ?_) | with_reducible refine Kf_some ?_ | with_reducible refine Kf_bo (fun _ => ?_) | with_reducible exact yf_fm_M_node (by assumption) | with_reducible exact yf_fm_M_pattern (by assumption) | with_reducible exact yf_fm_M_wrong (by assumption) | with_reducible exact yf_fm_M_rule (by assumption) | with_reducible exact yf_fm_M_isSign (by assumption) | with_reducible exact yf_fm_M_isWord (by assumption) | with_reducible exact yf_fm_M_takeSign (by assumption) | with_reducible exact yf_fm_M_takeWord (by assumption) | with_reducible exact yf_fm_M_needSign (by assumption) | with_reducible exact yf_fm_M_needWord (by assumption) | with_reducible exact yf_fm_M_opens (by assumption) | with_reducible exact yf_fm_M_boundIn (by assumption) | with_reducible exact yf_fr_M_found (by assumption) | with_reducible exact yf_fm_M_bind (by assumption) | with_reducible exact yf_fm_M_isUnderscore (by assumption) | with_reducible exact yf_fm_M_unbind (by assumption) | with_reducible exact yf_fm_M_term (by assumption) | with_reducible exact yf_fm_M_namePattern (by assumption) | with_reducible exact yf_fr_M_patternAt (by assumption) | with_reducible exact yf_fm_M_beginsUnit (by assumption) | with_reducible exact yf_fm_M_save (by assumption) | with_reducible exact yf_fm_M_addRoot (by assumption) | with_reducible exact yf_fm_M_level (by assumption) | with_reducible exact yf_fm_M_reduce (by assumption) | with_reducible exact yf_fm_M_takeBack (by assumption) | with_reducible exact yf_fm_M_forgetSaved (by assumption) | with_reducible exact yf_fr_M_last (by assumption) | with_reducible exact yf_fr_M_clause (by assumption) | with_reducible exact yf_fm_M_predefinedOf (by assumption) | with_reducible exact yf_fm_M_function0 (by assumption) | with_reducible exact yf_fm_M_program (by assumption) | with_reducible exact hF0 _ (by assumption) | with_reducible exact hF1 _ _ (by assumption) | with_reducible exact hF2 _ _ _ (by assumption) | with_reducible exact hF3 _ _ _ (by assumption) | with_reducible exact hF4 _ (by assumption) | with_reducible exact hF5 _ _ (by assumption) | with_reducible exact hF6 _ _ (by assumption) | with_reducible exact hF7 _ _ (by assumption) | with_reducible exact hF8 _ _ (by assumption) | with_reducible exact hF9 _ (by assumption) | with_reducible exact hF10 _ (by assumption) | with_reducible exact hF11 _ (by assumption) | with_reducible exact hF12 _ (by assumption) | with_reducible exact hF13 _ (by assumption) | with_reducible exact hF14 _ (by assumption) | with_reducible exact hF15 _ (by assumption) | with_reducible exact hF16 _ _ (by assumption) | with_reducible exact yf_fb_M_clause_183 (by assumption) hF0 hF1 hF2 hF3 hF4 hF5 hF6 hF7 hF8 hF9 hF10 hF11 hF12 hF13 hF14 hF15 hF16 (yf_gg_M_clause hF0 hF1 hF2 hF3 hF4 hF5 hF6 hF7 hF8 hF9 hF10 hF11 hF12 hF13 hF14 hF15 hF16 _) | with_reducible exact yf_fb_M_clause_172 (by assumption) hF0 hF1 hF2 hF3 hF4 hF5 hF6 hF7 hF8 hF9 hF10 hF11 hF12 hF13 hF14 hF15 hF16 (yf_gg_M_clause hF0 hF1 hF2 hF3 hF4 hF5 hF6 hF7 hF8 hF9 hF10 hF11 hF12 hF13 hF14 hF15 hF16 _) | with_reducible exact yf_fb_M_clause_134 (by assumption) hF0 hF1 hF2 hF3 hF4 hF5 hF6 hF7 hF8 hF9 hF10 hF11 hF12 hF13 hF14 hF15 hF16 (yf_gg_M_clause hF0 hF1 hF2 hF3 hF4 hF5 hF6 hF7 hF8 hF9 hF10 hF11 hF12 hF13 hF14 hF15 hF16 _) | with_reducible exact yf_fb_M_clause_103 (by assumption) hF0 hF1 hF2 hF3 hF4 hF5 hF6 hF7 hF8 hF9 hF10 hF11 hF12 hF13 hF14 hF15 hF16 (yf_gg_M_clause hF0 hF1 hF2 hF3 hF4 hF5 hF6 hF7 hF8 hF9 hF10 hF11 hF12 hF13 hF14 hF15 hF16 _) | with_reducible exact yf_fb_M_clause_75 (by assumption) hF0 hF1 hF2 hF3 hF4 hF5 hF6 hF7 hF8 hF9 hF10 hF11 hF12 hF13 hF14 hF15 hF16 (yf_gg_M_clause hF0 hF1 hF2 hF3 hF4 hF5 hF6 hF7 hF8 hF9 hF10 hF11 hF12 hF13 hF14 hF15 hF16 _) | with_reducible exact yf_fb_M_clause_0 (by assumption) hF0 hF1 hF2 hF3 hF4 hF5 hF6 hF7 hF8 hF9 hF10 hF11 hF12 hF13 hF14 hF15 hF16 (yf_gg_M_clause hF0 hF1 hF2 hF3 hF4 hF5 hF6 hF7 hF8 hF9 hF10 hF11 hF12 hF13 hF14 hF15 hF16 _) | with_reducible exact (yf_gg_M_clause hF0 hF1 hF2 hF3 hF4 hF5 hF6 hF7 hF8 hF9 hF10 hF11 hF12 hF13 hF14 hF15 hF16 _) _ _ _ _ (by assumption) | with_reducible refine Kf_ltv (fun _ => ?_) | with_reducible refine Kf_I ?_ (by decide) | with_reducible refine Kf_A ?_ | with_reducible refine Kf_J ?_ | with_reducible refine Kf_L ?_)
theorem s_STN (n' : ND w) (k : SMS w v) (h : STN m0 w0 K T Nk mB v p n sc s m2 w2 q n2 sc2 X W Rf Zf CL) : STN m0 w0 K T Nk mB w p n sc s m2 w2 q n2 sc2 X W Rf Zf CL := ⟨h.1, h.2.1, h.2.2.1, h.2.2.2.1, s_STW n' k h.2.2.2.2⟩
theorem CLZ_b {z : Int32 ⊕ Nat} (n' : ND w) (k : SMS w v) (h : CLZ N m0 w0 K T nm Nk tok p0 n scB mB v m2 z w2 r) : CLZ N m0 w0 K T nm Nk tok p0 n scB mB w m2 z w2 r := by
  cases z with
  | inr _ => exact h
  | inl ρ =>
    obtain ⟨π, p4, n5, q1, sc1, e5, t5, X1, X2, W, R1, R2, Z1, Z2, CL1, CL2, lp, a1, a2, a3, a4, a5, a6, a7, a8, a9, a10, a11⟩ := h
    exact ⟨π, p4, n5, q1, sc1, e5, t5, X1, X2, W, R1, R2, Z1, Z2, CL1, CL2, lp, a1, a2, a3, s_STN n' k a4, a5, a6, a7, a8, a9, fun hb => by
      have e := k.1 75 (by decide)
      obtain ⟨b1, b2, b3⟩ := a10 (by rw [e]; exact hb)
      exact ⟨b1, b2, b3.trans e⟩, a11⟩
theorem cl_hd {A' : Option (MS × (Int32 ⊕ Nat))} (hW : ∀ m k w r, FLW w → R m (.inr k) w r) (hw : WP w K T p) (h0 : w.1 67 = 0) (k20 : K p = 20) (h : ∀ x v2, SMS w x → x.1 69 = w.1 69 → x.2.2.1 41 v2.toNatClampNeg = 0 → (∃ d : Nat, x.1 46 = I (d : Nat) ∧ v2.toNatClampNeg < d ∧ d ≤ 100000) → PP R A' (bnd (fm_M_isSign N (adv x p) 1) (fun u24 r24 => br (decide (r24 = 0)) (gg_M_clause N S N u24 v2 (-1) 1) (fb_M_clause_183 N S (gg_M_clause N S N) u24 v2)))) : PP R A' (fb_M_clause_0 N S (gg_M_clause N S N) w v1) := by
  unfold fb_M_clause_0
  refine r_lt (r_ck (fun z44 => r_lt (r_ck (fun _ => r_lt (r_ck (fun _ => r_lt (r_ck (fun _ => r_lt (r_ck (fun _ => r_lt ?_))))))))))
  have hd : ∃ d : Nat, w.1 46 + 1 = I (d : Nat) ∧ (w.1 46).toNatClampNeg < d ∧ d ≤ 100000 := by
    obtain ⟨a, ha, hb⟩ := inb_N z44
    have l44 : ln 44 ≤ 99999 := by decide
    exact ⟨a + 1, by rw [ha]; exact i_suc, by rw [ha, tnI (n := a) rfl (by omega)]; exact Nat.lt_succ_self _, by omega⟩
  generalize hx1 : upI w 46 (w.1 46 + 1) = x1
  have m1 : SMS w x1 := by rw [← hx1]; exact SMS_I SMS_rf (by decide) (by decide)
  have n1 : x1.1 69 = w.1 69 := by rw [← hx1]; exact upI_ne (by decide)
  have f1 : x1.1 46 = w.1 46 + 1 := by rw [← hx1]; exact upI_at
  clear hx1
  generalize hx2 : upA x1 44 (upd (x1.2.2.1 44) (w.1 46).toNatClampNeg v1) = x2
  have m2 : SMS w x2 := by rw [← hx2]; exact SMS_A m1 (by unfold SMX; omega) (by omega)
  have n2 : x2.1 69 = w.1 69 := by rw [← hx2]; exact n1
  have f2 : x2.1 46 = w.1 46 + 1 := by rw [← hx2]; exact f1
  clear hx2
  generalize hx3 : upA x2 45 (upd (x2.2.2.1 45) (w.1 46).toNatClampNeg (-1)) = x3
  have m3 : SMS w x3 := by rw [← hx3]; exact SMS_A m2 (by unfold SMX; omega) (by omega)
  have n3 : x3.1 69 = w.1 69 := by rw [← hx3]; exact n2
  have f3 : x3.1 46 = w.1 46 + 1 := by rw [← hx3]; exact f2
  clear hx3
  generalize hx4 : upA x3 42 (upd (x3.2.2.1 42) (w.1 46).toNatClampNeg (-1)) = x4
  have m4 : SMS w x4 := by rw [← hx4]; exact SMS_A m3 (by unfold SMX; omega) (by omega)
  have n4 : x4.1 69 = w.1 69 := by rw [← hx4]; exact n3
  have f4 : x4.1 46 = w.1 46 + 1 := by rw [← hx4]; exact f3
  clear hx4
  generalize hx5 : upA x4 41 (upd (x4.2.2.1 41) (w.1 46).toNatClampNeg 0) = x5
  have m5 : SMS w x5 := by rw [← hx5]; exact SMS_A m4 (by unfold SMX; omega) (by omega)
  have n5 : x5.1 69 = w.1 69 := by rw [← hx5]; exact n4
  have f5 : x5.1 46 = w.1 46 + 1 := by rw [← hx5]; exact f4
  have o5 : x5.2.2.1 41 (w.1 46).toNatClampNeg = 0 := by rw [← hx5, upA_at, upd_at]
  clear hx5
  generalize hx6 : upA x5 40 (upd (x5.2.2.1 40) (w.1 46).toNatClampNeg (-1)) = x6
  have m6 : SMS w x6 := by rw [← hx6]; exact SMS_A m5 (by unfold SMX; omega) (by omega)
  have n6 : x6.1 69 = w.1 69 := by rw [← hx6]; exact n5
  have f6 : x6.1 46 = w.1 46 + 1 := by rw [← hx6]; exact f5
  have o6 : x6.2.2.1 41 (w.1 46).toNatClampNeg = 0 := by rw [← hx6, upA_no (by decide)]; exact o5
  clear hx6
  have hw6 : WP x6 K T p := ⟨⟨hw.1.1, fun j hj => by rw [m6.2.1 6 (by unfold SMX; omega)]; exact hw.1.2.1 j hj, fun j hj => by rw [m6.2.1 7 (by unfold SMX; omega)]; exact hw.1.2.2 j hj⟩, by rw [n6]; exact hw.2.1, hw.2.2⟩
  have h06 : x6.1 67 = 0 := by rw [m6.1 67 (by decide)]; exact h0
  have a67 : (adv x6 p).1 67 = 0 := by unfold adv; rw [upI_ne (by decide)]; exact h06
  rw [ndS_1 (s := 0) hw6 h06 (by decide) rfl k20, bnd_s, decide_eq_true a67, br_tq]
  exact h x6 (w.1 46) m6 n6 o6 (by rw [f6]; exact hd)
theorem HCl_s (c : CTZ m0 w0 K T nm Nk) (c45 : ∀ p, p ≤ T → K p ≠ 45) (hB : HBo N m0 w0 K T nm Nk d) (hG : ∀ d', d' ≤ d → HGc N m0 w0 K T nm Nk d') : HCl N m0 w0 K T nm Nk (d + 1) := by
  intro D m w p n sc o tok v1 h hw h0 k20 hn hn2 hR nd h70 ho h73 htk
  have T4 := c.1.1.1
  show PP _ _ (fb_M_clause_0 N (rc_M_behind N d) (gg_M_clause N (rc_M_behind N d) N) w v1)
  refine cl_hd (fun _ _ _ _ z => z) hw h0 k20 (fun x v2 sx x69 x41 x46 => ?_)
  have hx6 : SMS w (adv x p) := SMS_tr sx SMS_ad
  have ax : (adv x p).1 69 = I ((p + 1 : Nat) : Int) := by unfold adv; rw [upI_at]
  have y41 : (adv x p).2.2.1 41 v2.toNatClampNeg = 0 := x41
  have y46 : ∃ d : Nat, (adv x p).1 46 = I (d : Nat) ∧ v2.toNatClampNeg < d ∧ d ≤ 100000 := by unfold adv; rw [upI_ne (by decide)]; exact x46
  generalize adv x p = y at hx6 ax y41 y46 ⊢
  have rly : RLP m0 w0 T (p + 1) m y := by
    refine ⟨h.1, Kt_tr h.2.1 (Kt_tr (v := w) ⟨fun k hk => ?_, fun _ _ => rfl⟩ (SMS_k hx6)), h.2.2.1, ax, h.2.2.2.2.1, ?_, ?_⟩
    · unfold adv; rw [upI_ne (by rintro rfl; revert hk; decide)]
    · rw [hx6.1 70 (by decide), h.2.2.2.2.2.1]; unfold adv; rw [upI_ne (by decide)]
    · rw [hx6.1 67 (by decide)]; exact h0
  have rny : RNs y sc := RNs_e hR (hx6.1 65 (by decide)) (fun k h1 h2 => hx6.2.1 k (by unfold SMX; omega))
  have ndy : ND y := SMS_nd hx6 nd
  have y70 : y.1 70 = I (o : Nat) := by rw [hx6.1 70 (by decide)]; exact h70
  have y73 : y.1 73 = 0 := by rw [hx6.1 73 (by decide)]; exact h73
  refine pp_mo (R := CLZ N m0 w0 K T nm Nk tok (p + 1) n sc m y) ?_ (fun m' z w' r q => CLZ_b nd hx6 q)
  have hc := RLP_c c rly
  have hwy := RLP_w c rly
  have h0y := rly.2.2.2.2.2.2
  have pT := rly.2.2.2.2.1
  have k46 := hc.1.1.k46 hc.2.2
  have s0 := STQ_0 (K := K) (Nk := Nk) (gd := false) (W := fun _ => 32) rly hn rny ndy
  cases D with
  | zero => exact pp_nl
  | succ D =>
  show PP _ (bTm (hb_Pa_rowUpTo_0 N (hrc_Pa_matched N D) () m 1 6 21) _) _
  unfold hb_Pa_rowUpTo_0
  rw [look_e hc (c45 _ pT), bTm_l, isS_e (k := 21) (s := 1) hwy (by decide) rfl, bnd_s, I_dn (a := K (p + 1)) (b := 21) (s := 21) (by omega) (by decide) rfl]
  by_cases k21 : K (p + 1) = 21
  · rw [decide_eq_true k21, br_tq, if_pos k21, show decide ((1 : Int32) = 0) = false from rfl, br_fq]
    exact cl_tl (lp := []) (X1 := 0) (qx := p + 1) (D := D + 1) c c45 hB hG (STN_q s0) hn2 y70 ho y73 ⟨rfl, rfl, rfl⟩ (by decide) (by decide) htk (fun _ => ⟨y41, y46, rfl⟩)
  · rw [decide_eq_false k21, br_fq, if_neg k21, show decide ((0 : Int32) = 0) = true from rfl, br_tq]
    cases D with
    | zero => exact pp_nl
    | succ D =>
    show PP _ (bTm (bTm (hb_Pa_row_0 N (hrc_Pa_matched N D) (hg_Pa_row N (hrc_Pa_matched N D) N) m 1 6) _) _) _
    unfold hb_Pa_row_0 hb_Pa_row_16
    rw [show decide ((1 : Int32) = 0) = false from rfl, br_fq, bTm_as, bTm_as]
    have go : ∀ M, PP (CLZ N m0 w0 K T nm Nk tok (p + 1) n sc m y) (bTm ((hrc_Pa_matched N D).2.2.2.2.2.2.2.2.2.2.2.2.2.2.2.2.2.1 m) (fun u r => bTm (hg_Pa_row N (hrc_Pa_matched N D) N u 1 6 r r 1) (fun u3 r3 => bTm (hb_Pa_rowUpTo_18 N (hrc_Pa_matched N (D + 1)) () u3 21 r3) (fun u9 r9 => (hrc_Pa_matched N (D + 1 + 1)).2.2.2.2.2.1 u9 (I (tok : Nat)) r9)))) (gg_M_clause N (rc_M_behind N d) M y v2 (-1) 1) := fun M => by
      cases M with
      | zero => exact pp_nr
      | succ M =>
      show PP _ _ (fb_M_clause_75 N (rc_M_behind N d) (gg_M_clause N (rc_M_behind N d) M) y v2 (-1) 1)
      unfold fb_M_clause_75 fb_M_clause_103
      rw [show decide ((1 : Int32) = 0) = false from rfl, br_fq, decide_eq_true h0y, br_tq, y41, show decide ((0 : Int32) = 6) = false from rfl, br_fq]
      refine r_ck (fun _ => ?_)
      refine pp_bTn (pp_kr (pts_all (own := true) c rfl 60 D m y (p + 1) n sc rly hn hn2 rny) (pk_and (yj_fr_M_patternAt (u0 := y) (v1 := 1) (N := N) Kj_rf) (yv_fr_M_patternAt (u0 := y) (v1 := 1) (N := N) Kv_rf))) (fun m2 ε w2 r q => ?_) (fun m2 kk w2 r q => ?_)
      · obtain ⟨pz, kj, k41⟩ := q
        have k41 : w2.2.2.1 41 = y.2.2.1 41 := k41
        have go2 : ∀ z : MS, (∀ k, z.1 k = w2.1 k) → (∀ k, k ≠ 37 → k ≠ 40 → z.2.2.1 k = w2.2.2.1 k) → PP (CLZ N m0 w0 K T nm Nk tok (p + 1) n sc m y) (bTm (hg_Pa_row N (hrc_Pa_matched N D) N m2 1 6 ε ε 1) (fun u3 r3 => bTm (hb_Pa_rowUpTo_18 N (hrc_Pa_matched N (D + 1)) () u3 21 r3) (fun u9 r9 => (hrc_Pa_matched N (D + 1 + 1)).2.2.2.2.2.1 u9 (I (tok : Nat)) r9))) (fb_M_clause_134 N (rc_M_behind N d) (gg_M_clause N (rc_M_behind N d) M) z v2 r) := fun z zi zr => by
          unfold fb_M_clause_134
          refine r_ck (fun _ => r_ck (fun _ => r_lt (r_ck (fun _ => ?_))))
          have z41 : z.2.2.1 41 v2.toNatClampNeg + 1 = I ((1 : Nat) : Int) := by rw [zr 41 (by decide) (by decide), k41, y41]; rfl
          rw [z41]
          generalize hzz : upA z 41 (upd (z.2.2.1 41) v2.toNatClampNeg (I ((1 : Nat) : Int))) = zz
          have zzi : ∀ k, zz.1 k = w2.1 k := fun k => by rw [← hzz]; exact zi k
          have zzr : ∀ k, k ≠ 37 → k ≠ 40 → k ≠ 41 → zz.2.2.1 k = w2.2.2.1 k := fun k h1 h2 h3 => by rw [← hzz, upA_no h3]; exact zr k h1 h2
          have zz41 : zz.2.2.1 41 v2.toNatClampNeg = I ((1 : Nat) : Int) := by rw [← hzz, upA_at, upd_at]
          clear hzz
          obtain ⟨ν, p3, e1, hI⟩ := RWI_1 (w3 := zz) pz ⟨fun k _ => zzi k, fun k hk => zzr k (by omega) (by omega) (by omega)⟩ (zzi 69) (zzi 66) (fun k hk => zzr k (by omega) (by omega) (by omega))
          rw [e1]
          have kjz : Kjc y zz := ⟨fun k hk => (zzi k).trans (kj.1 k hk), fun k hk => (zzr k (by omega) (by omega) (by omega)).trans (kj.2 k hk)⟩
          refine clp (SC := hrc_Pa_matched N D) (R := CLZ N m0 w0 K T nm Nk tok (p + 1) n sc m y) (fC := fun u3 r3 => bTm (hb_Pa_rowUpTo_18 N (hrc_Pa_matched N (D + 1)) () u3 21 r3) (fun u9 r9 => (hrc_Pa_matched N (D + 1 + 1)).2.2.2.2.2.1 u9 (I (tok : Nat)) r9)) c c45 hn2 (pts_all (own := true) c rfl 60 D) (fun M3 m3 w3 p3 l hI3 kj3 k413 k26 hl6 => ?_) (fun m3 p3 φ hc3 k26 => ?_) (fun _ _ _ _ z => z) 5 1 M N m2 zz p3 [ν] r (by decide) (by decide) rfl hI kjz zz41
          · obtain ⟨n3, sc3, X3, W3, st3, pr3, lt3, x3⟩ := STN_row hI3 kj3 ndy
            have f7 := st3.2.2.2.2.2.2.2.2.2.2.1
            exact cl_tl (lp := l) (X1 := X3) (qx := p3) (D := D + 1 + 1) c c45 hB hG st3 hn2 (by rw [f7.1 70 (by decide)]; exact y70) ho (by rw [f7.1 73 (by decide)]; exact y73) pr3 x3 hl6 htk (fun _ => ⟨k413, by rw [kj3.1 46 (by decide)]; exact y46, kj3.1 75 (by decide)⟩)
          · refine RFS_T ?_
            unfold hb_Pa_rowUpTo_18
            exact RFS_T (need_x (k := 21) (s := 21) hc3 (by omega) (by decide) rfl)
        refine r_br (fun _ => r_ck (fun _ => r_lt (go2 _ (fun _ => rfl) (fun k h1 h2 => upA_no h2)))) (fun _ => r_ck (fun _ => r_lt (go2 _ (fun _ => rfl) (fun k h1 h2 => upA_no h1))))
      · have q0 : FLW w2 := q.1
        exact pk_br (fun _ => pk_ck (fun _ => pk_lt (cl4_f q0))) (fun _ => pk_ck (fun _ => pk_lt (cl4_f q0)))
    exact go N
end
