set_option maxRecDepth 100000
section
variable {m0 w0 m w v u mB wB m2 w2 m3 w3 mi : MS} {K nm Nk W W2 : Nat → Nat} {T p n N q X Y n2 p0 n0 n3 p2 ν μ κ o s L d D k q1 q2 lo li ni : Nat} {sc sc1 sc2 sc3 t : SCT} {gd Rf Zf Rg Zg : Bool} {l : List Nat} {r v1 v2 v3 v4 v5 x y : Int32} {CL CM : Int32 × Int32 × Int32 → Prop} {NC : Nat → Prop} {B1 B2 BC : MS → Prop}
theorem bTm_lt {α β γ : Type} {x : γ} {f : γ → Option (MS × (β ⊕ Nat))} {g : MS → β → Option (MS × (α ⊕ Nat))} : bTm (lt x f) g = lt x (fun a => bTm (f a) g) := rfl
theorem bTm_ck {α β : Type} {b : Bool} {x : Option (MS × (β ⊕ Nat))} {g : MS → β → Option (MS × (α ⊕ Nat))} : bTm (ck b x) g = ck b (bTm x g) := by
  cases b <;> rfl
theorem ggP_f {M : Nat} (h : FLW w) : PK (fun w2 (_ : Int32) => FLW w2) (gg_M_primary N (rc_M_behind N d) M w v1 v2) := by
  refine Kf_pk (u0 := w) ?_
  have h : Kfc w w := h
  obtain ⟨hF0, hF1, hF2, hF3, hF4, hF5, hF6, hF7, hF8, hF9, hF10, hF11, hF12, hF13, hF14, hF15, hF16⟩ := yf_rc_M_behind (u0 := w) (N := N) d
  repeat' (first | with_reducible assumption | with_reducible refine Kf_br ?_ ?_ | with_reducible refine Kf_bnd ?_ (fun _ _ _ => ?_) | with_reducible refine Kf_ck ?_ | with_reducible refine Kf_ltm ?_ (fun _ _ => ?_) | with_reducible refine Kf_some ?_ | with_reducible refine Kf_bo (fun _ => ?_) | with_reducible exact yf_fm_M_node (by assumption) | with_reducible exact yf_fm_M_pattern (by assumption) | with_reducible exact yf_fm_M_wrong (by assumption) | with_reducible exact yf_fm_M_rule (by assumption) | with_reducible exact yf_fm_M_isSign (by assumption) | with_reducible exact yf_fm_M_isWord (by assumption) | with_reducible exact yf_fm_M_takeSign (by assumption) | with_reducible exact yf_fm_M_takeWord (by assumption) | with_reducible exact yf_fm_M_needSign (by assumption) | with_reducible exact yf_fm_M_needWord (by assumption) | with_reducible exact yf_fm_M_opens (by assumption) | with_reducible exact yf_fm_M_boundIn (by assumption) | with_reducible exact yf_fr_M_found (by assumption) | with_reducible exact yf_fm_M_bind (by assumption) | with_reducible exact yf_fm_M_isUnderscore (by assumption) | with_reducible exact yf_fm_M_unbind (by assumption) | with_reducible exact yf_fm_M_term (by assumption) | with_reducible exact yf_fm_M_namePattern (by assumption) | with_reducible exact yf_fr_M_patternAt (by assumption) | with_reducible exact yf_fm_M_beginsUnit (by assumption) | with_reducible exact yf_fm_M_save (by assumption) | with_reducible exact yf_fm_M_addRoot (by assumption) | with_reducible exact yf_fm_M_level (by assumption) | with_reducible exact yf_fm_M_reduce (by assumption) | with_reducible exact yf_fm_M_takeBack (by assumption) | with_reducible exact yf_fm_M_forgetSaved (by assumption) | with_reducible exact yf_fr_M_last (by assumption) | with_reducible exact yf_fr_M_clause (by assumption) | with_reducible exact yf_fm_M_predefinedOf (by assumption) | with_reducible exact yf_fm_M_function0 (by assumption) | with_reducible exact yf_fm_M_program (by assumption) | with_reducible exact hF0 _ (by assumption) | with_reducible exact hF1 _ _ (by assumption) | with_reducible exact hF2 _ _ _ (by assumption) | with_reducible exact hF3 _ _ _ (by assumption) | with_reducible exact hF4 _ (by assumption) | with_reducible exact hF5 _ _ (by assumption) | with_reducible exact hF6 _ _ (by assumption) | with_reducible exact hF7 _ _ (by assumption) | with_reducible exact hF8 _ _ (by assumption) | with_reducible exact hF9 _ (by assumption) | with_reducible exact hF10 _ (by assumption) | with_reducible exact hF11 _ (by assumption) | with_reducible exact hF12 _ (by assumption) | with_reducible exact hF13 _ (by assumption) | with_reducible exact hF14 _ (by assumption) | with_reducible exact hF15 _ (by assumption) | with_reducible exact hF16 _ _ (by assumption) | with_reducible exact yf_fb_M_primary_182 (by assumption) hF0 hF1 hF2 hF3 hF4 hF5 hF6 hF7 hF8 hF9 hF10 hF11 hF12 hF13 hF14 hF15 hF16 (yf_gg_M_primary hF0 hF1 hF2 hF3 hF4 hF5 hF6 hF7 hF8 hF9 hF10 hF11 hF12 hF13 hF14 hF15 hF16 _) | with_reducible exact yf_fb_M_primary_157 (by assumption) hF0 hF1 hF2 hF3 hF4 hF5 hF6 hF7 hF8 hF9 hF10 hF11 hF12 hF13 hF14 hF15 hF16 (yf_gg_M_primary hF0 hF1 hF2 hF3 hF4 hF5 hF6 hF7 hF8 hF9 hF10 hF11 hF12 hF13 hF14 hF15 hF16 _) | with_reducible exact yf_fb_M_primary_128 (by assumption) hF0 hF1 hF2 hF3 hF4 hF5 hF6 hF7 hF8 hF9 hF10 hF11 hF12 hF13 hF14 hF15 hF16 (yf_gg_M_primary hF0 hF1 hF2 hF3 hF4 hF5 hF6 hF7 hF8 hF9 hF10 hF11 hF12 hF13 hF14 hF15 hF16 _) | with_reducible exact yf_fb_M_primary_122 (by assumption) hF0 hF1 hF2 hF3 hF4 hF5 hF6 hF7 hF8 hF9 hF10 hF11 hF12 hF13 hF14 hF15 hF16 (yf_gg_M_primary hF0 hF1 hF2 hF3 hF4 hF5 hF6 hF7 hF8 hF9 hF10 hF11 hF12 hF13 hF14 hF15 hF16 _) | with_reducible exact yf_fb_M_primary_118 (by assumption) hF0 hF1 hF2 hF3 hF4 hF5 hF6 hF7 hF8 hF9 hF10 hF11 hF12 hF13 hF14 hF15 hF16 (yf_gg_M_primary hF0 hF1 hF2 hF3 hF4 hF5 hF6 hF7 hF8 hF9 hF10 hF11 hF12 hF13 hF14 hF15 hF16 _) | with_reducible exact yf_fb_M_primary_0 (by assumption) hF0 hF1 hF2 hF3 hF4 hF5 hF6 hF7 hF8 hF9 hF10 hF11 hF12 hF13 hF14 hF15 hF16 (yf_gg_M_primary hF0 hF1 hF2 hF3 hF4 hF5 hF6 hF7 hF8 hF9 hF10 hF11 hF12 hF13 hF14 hF15 hF16 _) | with_reducible exact (yf_gg_M_primary hF0 hF1 hF2 hF3 hF4 hF5 hF6 hF7 hF8 hF9 hF10 hF11 hF12 hF13 hF14 hF15 hF16 _) _ _ _ (by assumption) | with_reducible refine Kf_ltv (fun _ => ?_) | with_reducible refine Kf_I ?_ (by decide) | with_reducible refine Kf_A ?_ | with_reducible refine Kf_J ?_ | with_reducible refine Kf_L ?_)
theorem cal_f {M : Nat} (h : FLW w) : PK (fun w2 (_ : Int32) => FLW w2) (bnd (fm_M_node N w 12 v1) (fun u10 r10 => ck (inb v1 (ln 7)) (ck (inb r10 (ln 25)) (lt (upA u10 25 (upd (u10.2.2.1 25) r10.toNatClampNeg (u10.2.2.1 7 p))) (fun w11 => ck (inb r10 (ln 26)) (lt (upA w11 26 (upd (w11.2.2.1 26) r10.toNatClampNeg (w11.1 84))) (fun w12 => br (decide ((w12.1 73) = 0)) (fb_M_primary_118 N (rc_M_behind N d) (gg_M_primary N (rc_M_behind N d) M) w12 v1 (r10) (27) (r10) (0)) (fb_M_primary_118 N (rc_M_behind N d) (gg_M_primary N (rc_M_behind N d) M) w12 v1 (r10) (27) (r10) (1))))))))) := by
  refine Kf_pk (u0 := w) ?_
  have h : Kfc w w := h
  obtain ⟨hF0, hF1, hF2, hF3, hF4, hF5, hF6, hF7, hF8, hF9, hF10, hF11, hF12, hF13, hF14, hF15, hF16⟩ := yf_rc_M_behind (u0 := w) (N := N) d
  repeat' (first | with_reducible assumption | with_reducible refine Kf_br ?_ ?_ | with_reducible refine Kf_bnd ?_ (fun _ _ _ => ?_) | with_reducible refine Kf_ck ?_ | with_reducible refine Kf_ltm ?_ (fun _ _ => ?_) | with_reducible refine Kf_some ?_ | with_reducible refine Kf_bo (fun _ => ?_) | with_reducible exact yf_fm_M_node (by assumption) | with_reducible exact yf_fm_M_pattern (by assumption) | with_reducible exact yf_fm_M_wrong (by assumption) | with_reducible exact yf_fm_M_rule (by assumption) | with_reducible exact yf_fm_M_isSign (by assumption) | with_reducible exact yf_fm_M_isWord (by assumption) | with_reducible exact yf_fm_M_takeSign (by assumption) | with_reducible exact yf_fm_M_takeWord (by assumption) | with_reducible exact yf_fm_M_needSign (by assumption) | with_reducible exact yf_fm_M_needWord (by assumption) | with_reducible exact yf_fm_M_opens (by assumption) | with_reducible exact yf_fm_M_boundIn (by assumption) | with_reducible exact yf_fr_M_found (by assumption) | with_reducible exact yf_fm_M_bind (by assumption) | with_reducible exact yf_fm_M_isUnderscore (by assumption) | with_reducible exact yf_fm_M_unbind (by assumption) | with_reducible exact yf_fm_M_term (by assumption) | with_reducible exact yf_fm_M_namePattern (by assumption) | with_reducible exact yf_fr_M_patternAt (by assumption) | with_reducible exact yf_fm_M_beginsUnit (by assumption) | with_reducible exact yf_fm_M_save (by assumption) | with_reducible exact yf_fm_M_addRoot (by assumption) | with_reducible exact yf_fm_M_level (by assumption) | with_reducible exact yf_fm_M_reduce (by assumption) | with_reducible exact yf_fm_M_takeBack (by assumption) | with_reducible exact yf_fm_M_forgetSaved (by assumption) | with_reducible exact yf_fr_M_last (by assumption) | with_reducible exact yf_fr_M_clause (by assumption) | with_reducible exact yf_fm_M_predefinedOf (by assumption) | with_reducible exact yf_fm_M_function0 (by assumption) | with_reducible exact yf_fm_M_program (by assumption) | with_reducible exact hF0 _ (by assumption) | with_reducible exact hF1 _ _ (by assumption) | with_reducible exact hF2 _ _ _ (by assumption) | with_reducible exact hF3 _ _ _ (by assumption) | with_reducible exact hF4 _ (by assumption) | with_reducible exact hF5 _ _ (by assumption) | with_reducible exact hF6 _ _ (by assumption) | with_reducible exact hF7 _ _ (by assumption) | with_reducible exact hF8 _ _ (by assumption) | with_reducible exact hF9 _ (by assumption) | with_reducible exact hF10 _ (by assumption) | with_reducible exact hF11 _ (by assumption) | with_reducible exact hF12 _ (by assumption) | with_reducible exact hF13 _ (by assumption) | with_reducible exact hF14 _ (by assumption) | with_reducible exact hF15 _ (by assumption) | with_reducible exact hF16 _ _ (by assumption) | with_reducible exact yf_fb_M_primary_182 (by assumption) hF0 hF1 hF2 hF3 hF4 hF5 hF6 hF7 hF8 hF9 hF10 hF11 hF12 hF13 hF14 hF15 hF16 (yf_gg_M_primary hF0 hF1 hF2 hF3 hF4 hF5 hF6 hF7 hF8 hF9 hF10 hF11 hF12 hF13 hF14 hF15 hF16 _) | with_reducible exact yf_fb_M_primary_157 (by assumption) hF0 hF1 hF2 hF3 hF4 hF5 hF6 hF7 hF8 hF9 hF10 hF11 hF12 hF13 hF14 hF15 hF16 (yf_gg_M_primary hF0 hF1 hF2 hF3 hF4 hF5 hF6 hF7 hF8 hF9 hF10 hF11 hF12 hF13 hF14 hF15 hF16 _) | with_reducible exact yf_fb_M_primary_128 (by assumption) hF0 hF1 hF2 hF3 hF4 hF5 hF6 hF7 hF8 hF9 hF10 hF11 hF12 hF13 hF14 hF15 hF16 (yf_gg_M_primary hF0 hF1 hF2 hF3 hF4 hF5 hF6 hF7 hF8 hF9 hF10 hF11 hF12 hF13 hF14 hF15 hF16 _) | with_reducible exact yf_fb_M_primary_122 (by assumption) hF0 hF1 hF2 hF3 hF4 hF5 hF6 hF7 hF8 hF9 hF10 hF11 hF12 hF13 hF14 hF15 hF16 (yf_gg_M_primary hF0 hF1 hF2 hF3 hF4 hF5 hF6 hF7 hF8 hF9 hF10 hF11 hF12 hF13 hF14 hF15 hF16 _) | with_reducible exact yf_fb_M_primary_118 (by assumption) hF0 hF1 hF2 hF3 hF4 hF5 hF6 hF7 hF8 hF9 hF10 hF11 hF12 hF13 hF14 hF15 hF16 (yf_gg_M_primary hF0 hF1 hF2 hF3 hF4 hF5 hF6 hF7 hF8 hF9 hF10 hF11 hF12 hF13 hF14 hF15 hF16 _) | with_reducible exact yf_fb_M_primary_0 (by assumption) hF0 hF1 hF2 hF3 hF4 hF5 hF6 hF7 hF8 hF9 hF10 hF11 hF12 hF13 hF14 hF15 hF16 (yf_gg_M_primary hF0 hF1 hF2 hF3 hF4 hF5 hF6 hF7 hF8 hF9 hF10 hF11 hF12 hF13 hF14 hF15 hF16 _) | with_reducible exact (yf_gg_M_primary hF0 hF1 hF2 hF3 hF4 hF5 hF6 hF7 hF8 hF9 hF10 hF11 hF12 hF13 hF14 hF15 hF16 _) _ _ _ (by assumption) | with_reducible refine Kf_ltv (fun _ => ?_) | with_reducible refine Kf_I ?_ (by decide) | with_reducible refine Kf_A ?_ | with_reducible refine Kf_J ?_ | with_reducible refine Kf_L ?_)
theorem cal_ex (c : CTZ m0 w0 K T nm Nk) (cA : CTA m0 w0 K T) (c45 : ∀ p, p ≤ T → K p ≠ 45) (hA : HAg N m0 w0 K T nm Nk d) (h : RLP m0 w0 T p m w) (hn : m.1 306 = I (n : Nat)) (hn2 : n ≤ 2 * p) (hR : RNs w sc) (nd : ND w) (h70 : w.1 70 = I ((o + 1 : Nat) : Int)) (ho : o + 1 ≤ 25) (hg : decide (w.1 73 = 0) = !gd) (hk : K p = 2) (hk2 : K (p + 1) = 20) {M D2 : Nat} : PP (EXZ N m0 w0 K T nm Nk p n gd sc o NC0 m w) (bTm (hm_Pa_atomOrCall N (hrc_Pa_matched N D) m) (fun u r => hm_Pa_applied N (hrc_Pa_matched N D2) u r)) (bnd ((rc_M_behind N d).2.2.2.2.2.2.2.2.2.1 (adv w p)) (fun u9 _ => bnd (fm_M_node N u9 12 (I (p : Nat))) (fun u10 r10 => ck (inb (I (p : Nat)) (ln 7)) (ck (inb r10 (ln 25)) (lt (upA u10 25 (upd (u10.2.2.1 25) r10.toNatClampNeg (u10.2.2.1 7 p))) (fun w11 => ck (inb r10 (ln 26)) (lt (upA w11 26 (upd (w11.2.2.1 26) r10.toNatClampNeg (w11.1 84))) (fun w12 => br (decide ((w12.1 73) = 0)) (fb_M_primary_118 N (rc_M_behind N d) (gg_M_primary N (rc_M_behind N d) M) w12 (I (p : Nat)) (r10) (27) (r10) (0)) (fb_M_primary_118 N (rc_M_behind N d) (gg_M_primary N (rc_M_behind N d) M) w12 (I (p : Nat)) (r10) (27) (r10) (1)))))))))) := by
  have hc := RLP_c c h
  have hw := RLP_w c h
  have t4 := c.1.1.1
  have pT := h.2.2.2.2.1
  have hl : p < T := TWK_lt c pT (by omega) (by omega)
  have hl2 : p + 1 < T := TWK_lt c hl (by omega) (by omega)
  obtain ⟨mf, f1, f2, f3, f4, f5, f6, f7, f8⟩ := lf_f (N := N) hc hl hn (by omega)
  have e7 : ∀ k, k ≠ 69 → (adv w p).1 k = w.1 k := fun k hk => by unfold adv; exact upI_ne hk
  unfold hm_Pa_atomOrCall hb_Pa_atomOrCall_0
  rw [f1, bnd_s, look_e f8 (by omega), bTm_l, hk2, show decide (I ((20 : Nat) : Int) = 20) = true from rfl, br_tq]
  have st : STQ m0 w0 K T Nk gd m w p n sc 1 mf (adv w p) (p + 1) (n + 1) sc 0 (fun _ => 32) false false (fun _ => False) := ⟨RLP_go h hl f2 f5 (SMS_k SMS_ad) (by unfold adv; exact upI_at) (e7 70 (by decide)) (e7 67 (by decide)), ⟨by omega, f4, by omega, by omega⟩, f3, f2, STW_gap (STW_s (STW_0 (Nk := Nk) (K := K) (W := fun _ => 32) hR nd) SMS_ad) ⟨Nat.le_refl _, by omega⟩ (fun j h1 h2 => absurd h2 (by omega)) (fun j h1 h2 => by rw [show j = p by omega]; omega), fun _ _ => rfl, SNW_rf⟩
  rw [bTm_lt]
  refine l_lt ?_
  rw [f5, i_suc, hc.2.1, bTm_as]
  cases D with
  | zero => exact pp_nl
  | succ D =>
    show PP _ (bTm (hm_Pa_rowUpTo N (hrc_Pa_matched N D) (advc mf (p + 1)) 0 6 21) _) _
    refine pp_bTn (hA D mf (adv w p) (p + 1) (n + 1) sc gd (o + 1) st.1 f4 (by omega) (STQ_rn st) (STQ_nd st) (by rw [e7 70 (by decide)]; exact h70) ho (by rw [e7 73 (by decide)]; exact hg) hk2) (fun m2 φ w2 _ qz => ?_) (fun m2 kk w2 _ qz => cal_f qz)
    obtain ⟨l, q, e1, e84, n2, q1, sc2, X, W, Rf, Zf, CL, b1, b2, b3, b4, b5⟩ := qz
    have nb := b1.2.1
    have qT := b1.1.2.2.2.2.1
    rw [e1]
    have s2 := STQ_tr st b1
    rw [show max 0 X = X by omega, Bool.false_or, Bool.false_or] at s2
    have s2 := STQ_cl (CM := CL) (fun x => ⟨fun z => z.elim False.elim id, Or.inr⟩) s2
    have he := ERW_lo (n := n) (by omega) (ERW_w (W2 := mrg (p + 1) (fun _ => 32) W) (fun j h _ => mrg_r (by omega)) b2)
    generalize mrg (p + 1) (fun _ => 32) W = W9 at s2 he
    have x7 : w2.2.2.1 7 p = m2.2.2.1 7 p := by
      rw [s2.1.2.1.2 7 (by decide), s2.1.1.2 7 (by decide)]
      exact (cA p hl (Or.inr hk)).symm
    have w73 : w2.1 73 = w.1 73 := s2.2.2.2.2.1.2.2.2.2.2.2.1.1 73 (by decide)
    refine call_r (gd := gd) (x := m2.2.2.1 7 p) (y := I ((l.length : Nat) : Int)) s2.2.2.2.2.1 x7 e84 (by omega) (by rw [w73]; exact hg) (fun u r hu ui ur => ?_)
    rw [bTm_ck]
    refine l_ck (fun _ => ?_)
    rw [bnd_as]
    refine l_bnd (pk_mo (NXT_len (ERW_nxt (by omega) b2)) (fun u14 r14 e14 => ?_))
    obtain ⟨e14, e15⟩ := e14
    subst e14
    rw [tnI (n := p) rfl (by omega), e15]
    show PP _ (bTm (bnd (hm_Tr_add N u14 14 (I (p : Nat)) (u14.2.2.1 7 p) (I ((l.headD 0 : Nat) : Int)) (I ((l.length : Nat) : Int))) _) _) _
    rw [add_e nb.2.1 (by omega), bnd_s, bTm_l]
    have Ao := adN_o (m := u14) (n := n2) (a := 14) (b := I (p : Nat)) (c := u14.2.2.1 7 p) (d := I ((l.headD 0 : Nat) : Int)) (f := I ((l.length : Nat) : Int))
    have An := adN_nod (m := u14) (n := n2) (a := 14) (b := I (p : Nat)) (c := u14.2.2.1 7 p) (d := I ((l.headD 0 : Nat) : Int)) (f := I ((l.length : Nat) : Int))
    have kc : Kcc u14 (adN u14 n2 14 (I (p : Nat)) (u14.2.2.1 7 p) (I ((l.headD 0 : Nat) : Int)) (I ((l.length : Nat) : Int))) := ⟨fun k hk => adN_i (by omega), fun k hk => adN_r (by omega)⟩
    have s3 := STQ_add (s := 4) (a := 14) (b := I (p : Nat)) (c := u14.2.2.1 7 p) (d := I ((l.headD 0 : Nat) : Int)) (f := I ((l.length : Nat) : Int)) s2
    generalize hAA : adN u14 n2 14 (I (p : Nat)) (u14.2.2.1 7 p) (I ((l.headD 0 : Nat) : Int)) (I ((l.length : Nat) : Int)) = A at Ao An kc s3
    obtain ⟨g1, g2, g3, g4, g5, g6, g7⟩ := s3
    have r4 : RLP m0 w0 T q A u := by
      obtain ⟨h1, h2, h3, h4, h5, h6, h7⟩ := g1
      exact ⟨h1, Kt_tr h2 ⟨fun k hk => ui k (by rintro rfl; revert hk; decide), fun k hk => ur k (by unfold TRW at hk; simp only [List.mem_cons, List.not_mem_nil, or_false] at hk; omega)⟩, h3, by rw [ui 69 (by decide)]; exact h4, h5, by rw [ui 70 (by decide)]; exact h6, by rw [ui 67 (by decide)]; exact h7⟩
    have ex : EXZ N m0 w0 K T nm Nk p n gd sc o NC0 m w A (.inl (I ((n2 + 1 : Nat) : Int))) u r := by
      refine ⟨q, n2 + 1, n2 + 1, sc2, X, W9, Rf, Zf, fun z => CL z ∨ z = (u14.2.2.1 7 p, I ((l.length : Nat) : Int), b2c gd), rfl, ⟨by omega, Nat.le_refl _⟩, by omega, STQ_s2 (s := 4) ⟨r4, g2, g3, g4, hu, g6, g7⟩ (by omega), An.2, ?_, ?_, 14, nod_16 An.1, by decide, fun z => absurd z (by decide), fun _ z => by omega, p, by omega, nod_17 An.1⟩
      · have e := exn_call (N := N) (gd := gd) (lo := n) (q := p + 2) (q2 := q1) (p := p) (p2 := q) An.1 (by omega) (by omega) (Nat.le_refl _) (by omega) ⟨by omega, by omega, by omega⟩ (fun j h1 h2 => by
            by_cases z : j = p
            · rw [z]; omega
            · rw [show j = p + 1 by omega]; omega) b3.2.2 he Ao kc (by omega)
        refine EXN_bc (fun m => ?_) e
        constructor
        · rintro ⟨z, z1 | z1, z2⟩
          · exact Or.inl ⟨z, z1, z2⟩
          · rw [z1] at z2; exact Or.inr z2
        · rintro (⟨z, z1, z2⟩ | z)
          · exact ⟨z, Or.inl z1, z2⟩
          · exact ⟨_, Or.inr rfl, z⟩
      · exact PTX_der (PTX_leaf (NC := NC0) (o := o) (lo := n) f6 (by omega) (Nat.le_refl _) (by omega) (by omega) hl (by omega)) An.1 (by omega) (Nat.le_refl _) (by omega) (by decide) (by decide) (by decide) (fun _ z => z) (Or.inr hk2)
    exact app_pp c c45 hA hn2 h70 ho hg ex
theorem HPr_s (c : CTZ m0 w0 K T nm Nk) (cA : CTA m0 w0 K T) (c45 : ∀ p, p ≤ T → K p ≠ 45) (hA : HAg N m0 w0 K T nm Nk d) (hL : HAl N m0 w0 K T nm Nk d) : HPr N m0 w0 K T nm Nk (d + 1) := by
  intro D m w p n sc gd o h hn hn2 hR nd h70 ho hg
  show PP _ (bTm (hm_Pa_primary N (hrc_Pa_matched N D) m) (fun u r => hm_Pa_applied N (hrc_Pa_matched N D) u r)) (fb_M_primary_0 N (rc_M_behind N d) (gg_M_primary N (rc_M_behind N d) N) w)
  have hc := RLP_c c h
  have hw := RLP_w c h
  have t4 := c.1.1.1
  have pT := h.2.2.2.2.1
  have h0 := h.2.2.2.2.2.2
  unfold fb_M_primary_0
  rw [decide_eq_true h0, br_tq]
  refine r_ck (fun _ => ?_)
  rw [(WP_i hw).2.1, srt_dc hw srK_1, hw.2.1, i_suc]
  have p1 : (I ((p + 1 : Nat) : Int)).toNatClampNeg = p + 1 := tnI rfl (by omega)
  rw [p1]
  have alo : ¬ (K p = 2 ∧ K (p + 1) = 20) → PP (EXZ N m0 w0 K T nm Nk p n gd sc o NC0 m w) (bTm (hm_Pa_primary N (hrc_Pa_matched N D) m) (fun u r => hm_Pa_applied N (hrc_Pa_matched N D) u r)) (fb_M_primary_122 N (rc_M_behind N d) (gg_M_primary N (rc_M_behind N d) N) w (I (p : Nat))) := fun hnc => by
    unfold fb_M_primary_122
    refine pp_bTn (hL D m w p n sc gd o h hn hn2 hR nd h70 ho hg hnc) (fun m2 ε w2 r2 q => app_pp c c45 hA hn2 h70 ho hg q) (fun m2 kk w2 r2 q => ggP_f q)
  by_cases k2 : K p = 2
  · have hl : p < T := TWK_lt c pT (by omega) (by omega)
    have k46 := hw.1.1.k46 (show p + 1 ≤ T from hl)
    rw [decide_eq_true k2, br_tq]
    refine r_ck (fun _ => ?_)
    rw [hw.1.2.1 (p + 1) hl]
    by_cases ks : 20 ≤ K (p + 1) ∧ K (p + 1) ≤ 44
    · have hl2 : p + 1 < T := TWK_lt c hl (by omega) (by omega)
      rw [decide_eq_true ((srK_6 _ k46).mpr ks), br_tq]
      refine r_ck (fun _ => ?_)
      rw [hw.1.2.2 (p + 1) hl2 (by omega)]
      by_cases k20 : K (p + 1) = 20
      · rw [k20, show decide (I ((svK 20 : Nat) : Int) = 0) = true from rfl, br_tq]
        refine r_lt ?_
        unfold hm_Pa_primary hb_Pa_primary_0
        rw [look_e hc (by omega), bTm_l, k2, show decide (I ((2 : Nat) : Int) = 1) = false from rfl, br_fq, show decide (I ((2 : Nat) : Int) = 2) = true from rfl, br_tq, bTm_id]
        cases D with
        | zero => exact pp_nl
        | succ D => exact cal_ex (D2 := D + 1) c cA c45 hA h hn hn2 hR nd h70 ho hg k2 k20
      · rw [decide_eq_false (p := I ((svK (K (p + 1)) : Nat) : Int) = 0) (fun z => k20 ((svK_s _ (by omega) 20 (by decide) ks.1 (by decide)).mp z)), br_fq]
        exact alo (fun z => k20 z.2)
    · rw [decide_eq_false (fun z => ks ((srK_6 _ k46).mp z)), br_fq]
      exact alo (fun z => ks (by omega))
  · rw [decide_eq_false k2, br_fq]
    exact alo (fun z => k2 z.1)
end
