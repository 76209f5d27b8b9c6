section
set_option maxRecDepth 100000
section
variable {m0 w0 m w v u mB wB m2 w2 m3 w3 mi : MS} {K nm Nk W W2 : Nat → Nat} {T p n N q X Y n2 p0 n0 n3 p2 ν μ κ o s L d D k q1 q2 lo li ni : Nat} {sc sc1 sc2 sc3 t : SCT} {gd Rf Zf Rg Zg : Bool} {l : List Nat} {r v1 v2 v3 v4 v5 x y : Int32} {CL CM : Int32 × Int32 × Int32 → Prop} {NC : Nat → Prop} {B1 B2 BC : MS → Prop}
theorem bTm_lt {α β γ : Type} {x : γ} {f : γ → Option (MS × (β ⊕ Nat))} {g : MS → β → Option (MS × (α ⊕ Nat))} : bTm (lt x f) g = lt x (fun a => bTm (f a) g) := rfl
theorem bTm_ck {α β : Type} {b : Bool} {x : Option (MS × (β ⊕ Nat))} {g : MS → β → Option (MS × (α ⊕ Nat))} : bTm (ck b x) g = ck b (bTm x g) := by
  cases b <;> rfl
theorem ggP_f {M : Nat} (h : FLW w) : PK (fun w2 (_ : Int32) => FLW w2) (gg_M_primary N (rc_M_behind N d) M w v1 v2) := by
  refine Kf_pk (u0 := w) ?_
  have h : Kfc w w := h
  obtain ⟨hF0, hF1, hF2, hF3, hF4, hF5, hF6, hF7, hF8, hF9, hF10, hF11, hF12, hF13, hF14, hF15, hF16⟩ := yf_rc_M_behind (u0 := w) (N := N) d
  repeat' (first | with_reducible assumption | with_reducible refine Kf_br ?_ ?_ | with_reducible refine Kf_bnd ?_ (fun _ _ _ => ?_) | with_reducible refine Kf_ck ?_ | with_reducible refine Kf_ltm ?_ (fun _ _ => ?_) | with_reducible refine Kf_some ?_ | with_reducible refine Kf_bo (fun _ => ?_) | with_reducible exact yf_fm_M_node (by assumption) | with_reducible exact yf_fm_M_pattern (by assumption) | with_reducible exact yf_fm_M_wrong (by assumption) | with_reducible exact yf_fm_M_rule (by assumption) | with_reducible exact yf_fm_M_isSign (by assumption) | with_reducible exact yf_fm_M_isWord (by assumption) | with_reducible exact yf_fm_M_takeSign (by assumption) | with_reducible exact yf_fm_M_takeWord (by assumption) | with_reducible exact yf_fm_M_needSign (by assumption) | with_reducible exact yf_fm_M_needWord (by assumption) | with_reducible exact yf_fm_M_opens (by assumption) | with_reducible exact yf_fm_M_boundIn (by assumption) | with_reducible exact yf_fr_M_found (by assumption) | with_reducible exact yf_fm_M_bind (by assumption) | with_reducible exact yf_fm_M_isUnderscore (by assumption) | with_reducible exact yf_fm_M_unbind (by assumption) | with_reducible exact yf_fm_M_term (by assumption) | with_reducible exact yf_fm_M_namePattern (by assumption) | with_reducible exact yf_fr_M_patternAt (by assumption) | with_reducible exact yf_fm_M_beginsUnit (by assumption) | with_reducible exact yf_fm_M_save (by assumption) | with_reducible exact yf_fm_M_addRoot (by assumption) | with_reducible exact yf_fm_M_level (by assumption) | with_reducible exact yf_fm_M_reduce (by assumption) | with_reducible exact yf_fm_M_takeBack (by assumption) | with_reducible exact yf_fm_M_forgetSaved (by assumption) | with_reducible exact yf_fr_M_last (by assumption) | with_reducible exact yf_fr_M_clause (by assumption) | with_reducible exact yf_fm_M_predefinedOf (by assumption) | with_reducible exact yf_fm_M_function0 (by assumption) | with_reducible exact yf_fm_M_program (by assumption) | with_reducible exact hF0 _ (by assumption) | with_reducible exact hF1 _ _ (by assumption) | with_reducible exact hF2 _ _ _ (by assumption) | with_reducible exact hF3 _ _ _ (by assumption) | with_reducible exact hF4 _ (by assumption) | with_reducible exact hF5 _ _ (by assumption) | with_reducible exact hF6 _ _ (by assumption) | with_reducible exact hF7 _ _ (by assumption) | with_reducible exact hF8 _ _ (by assumption) | with_reducible exact hF9 _ (by assumption) | with_reducible exact hF10 _ (by assumption) | with_reducible exact hF11 _ (by assumption) | with_reducible exact hF12 _ (by assumption) | with_reducible exact hF13 _ (by assumption) | with_reducible exact hF14 _ (by assumption) | with_reducible exact hF15 _ (by assumption) | with_reducible exact hF16 _ _ (by assumption) | with_reducible exact yf_fb_M_primary_182 (by assumption) hF0 hF1 hF2 hF3 hF4 hF5 hF6 hF7 hF8 hF9 hF10 hF11 hF12 hF13 hF14 hF15 hF16 (yf_gg_M_primary hF0 hF1 hF2 hF3 hF4 hF5 hF6 hF7 hF8 hF9 hF10 hF11 hF12 hF13 hF14 hF15 hF16 _) | with_reducible exact yf_fb_M_primary_157 (by assumption) hF0 hF1 hF2 hF3 hF4 hF5 hF6 hF7 hF8 hF9 hF10 hF11 hF12 hF13 hF14 hF15 hF16 (yf_gg_M_primary hF0 hF1 hF2 hF3 hF4 hF5 hF6 hF7 hF8 hF9 hF10 hF11 hF12 hF13 hF14 hF15 hF16 _) | with_reducible exact yf_fb_M_primary_128 (by assumption) hF0 hF1 hF2 hF3 hF4 hF5 hF6 hF7 hF8 hF9 hF10 hF11 hF12 hF13 hF14 hF15 hF16 (yf_gg_M_primary hF0 hF1 hF2 hF3 hF4 hF5 hF6 hF7 hF8 hF9 hF10 hF11 hF12 hF13 hF14 hF15 hF16 _) | with_reducible exact yf_fb_M_primary_122 (by assumption) hF0 hF1 hF2 hF3 hF4 hF5 hF6 hF7 hF8 hF9 hF10 hF11 hF12 hF13 hF14 hF15 hF16 (yf_gg_M_primary hF0 hF1 hF2 hF3 hF4 hF5 hF6 hF7 hF8 hF9 hF10 hF11 hF12 hF13 hF14 hF15 hF16 _) | with_reducible exact yf_fb_M_primary_118 (by assumption) hF0 hF1 hF2 hF3 hF4 hF5 hF6 hF7 hF8 hF9 hF10 hF11 hF12 hF13 hF14 hF15 hF16 (yf_gg_M_primary hF0 hF1 hF2 hF3 hF4 hF5 hF6 hF7 hF8 hF9 hF10 hF11 hF12 hF13 hF14 hF15 hF16 _) | with_reducible exact yf_fb_M_primary_0 (by assumption) hF0 hF1 hF2 hF3 hF4 hF5 hF6 hF7 hF8 hF9 hF10 hF11 hF12 hF13 hF14 hF15 hF16 (yf_gg_M_primary hF0 hF1 hF2 hF3 hF4 hF5 hF6 hF7 hF8 hF9 hF10 hF11 hF12 hF13 hF14 hF15 hF16 _) | with_reducible exact (yf_gg_M_primary hF0 hF1 hF2 hF3 hF4 hF5 hF6 hF7 hF8 hF9 hF10 hF11 hF12 hF13 hF14 hF15 hF16 _) _ _ _ (by assumption) | with_reducible refine Kf_ltv (fun _ => ?_) | with_reducible refine Kf_I ?_ (by decide) | with_reducible refine Kf_A ?_ | with_reducible refine Kf_J ?_ | with_reducible refine Kf_L ?_)
theorem cal_f {M : Nat} (h : FLW w) : PK (fun w2 (_ : Int32) => FLW w2) (bnd (fm_M_node N w 12 v1) (fun u10 r10 => ck (inb v1 (ln 7)) (ck (inb r10 (ln 25)) (lt (upA u10 25 (upd (u10.2.2.1 25) r10.toNatClampNeg (u10.2.2.1 7 p))) (fun w11 => ck (inb r10 (ln 26)) (lt (upA w11 26 (upd (w11.2.2.1 26) r10.toNatClampNeg (w11.1 84))) (fun w12 => br (decide ((w12.1 73) = 0)) (fb_M_primary_118 N (rc_M_behind N d) (gg_M_primary N (rc_M_behind N d) M) w12 v1 (r10) (27) (r10) (0)) (fb_M_primary_118 N (rc_M_behind N d) (gg_M_primary N (rc_M_behind N d) M) w12 v1 (r10) (27) (r10) (1))))))))) := by
  refine Kf_pk (u0 := w) ?_
  have h : Kfc w w := h
  obtain ⟨hF0, hF1, hF2, hF3, hF4, hF5, hF6, hF7, hF8, hF9, hF10, hF11, hF12, hF13, hF14, hF15, hF16⟩ := yf_rc_M_behind (u0 := w) (N := N) d
  repeat' (first | with_reducible assumption | with_reducible refine Kf_br ?_ ?_ | with_reducible refine Kf_bnd ?_ (fun _ _ _ => ?_) | with_reducible refine Kf_ck ?_ | with_reducible refine Kf_ltm ?_ (fun _ _ => ?_) | with_reducible refine Kf_some ?_ | with_reducible refine Kf_bo (fun _ => ?_) | with_reducible exact yf_fm_M_node (by assumption) | with_reducible exact yf_fm_M_pattern (by assumption) | with_reducible exact yf_fm_M_wrong (by assumption) | with_reducible exact yf_fm_M_rule (by assumption) | with_reducible exact yf_fm_M_isSign (by assumption) | with_reducible exact yf_fm_M_isWord (by assumption) | with_reducible exact yf_fm_M_takeSign (by assumption) | with_reducible exact yf_fm_M_takeWord (by assumption) | with_reducible exact yf_fm_M_needSign (by assumption) | with_reducible exact yf_fm_M_needWord (by assumption) | with_reducible exact yf_fm_M_opens (by assumption) | with_reducible exact yf_fm_M_boundIn (by assumption) | with_reducible exact yf_fr_M_found (by assumption) | with_reducible exact yf_fm_M_bind (by assumption) | with_reducible exact yf_fm_M_isUnderscore (by assumption) | with_reducible exact yf_fm_M_unbind (by assumption) | with_reducible exact yf_fm_M_term (by assumption) | with_reducible exact yf_fm_M_namePattern (by assumption) | with_reducible exact yf_fr_M_patternAt (by assumption) | with_reducible exact yf_fm_M_beginsUnit (by assumption) | with_reducible exact yf_fm_M_save (by assumption) | with_reducible exact yf_fm_M_addRoot (by assumption) | with_reducible exact yf_fm_M_level (by assumption) | with_reducible exact yf_fm_M_reduce (by assumption) | with_reducible exact yf_fm_M_takeBack (by assumption) | with_reducible exact yf_fm_M_forgetSaved (by assumption) | with_reducible exact yf_fr_M_last (by assumption) | with_reducible exact yf_fr_M_clause (by assumption) | with_reducible exact yf_fm_M_predefinedOf (by assumption) | with_reducible exact yf_fm_M_function0 (by assumption) | with_reducible exact yf_fm_M_program (by assumption) | with_reducible exact hF0 _ (by assumption) | with_reducible exact hF1 _ _ (by assumption) | with_reducible exact hF2 _ _ _ (by assumption) | with_reducible exact hF3 _ _ _ (by assumption) | with_reducible exact hF4 _ (by assumption) | with_reducible exact hF5 _ _ (by assumption) | with_reducible exact hF6 _ _ (by assumption) | with_reducible exact hF7 _ _ (by assumption) | with_reducible exact hF8 _ _ (by assumption) | with_reducible exact hF9 _ (by assumption) | with_reducible exact hF10 _ (by assumption) | with_reducible exact hF11 _ (by assumption) | with_reducible exact hF12 _ (by assumption) | with_reducible exact hF13 _ (by assumption) | with_reducible exact hF14 _ (by assumption) | with_reducible exact hF15 _ (by assumption) | with_reducible exact hF16 _ _ (by assumption) | with_reducible exact yf_fb_M_primary_182 (by assumption) hF0 hF1 hF2 hF3 hF4 hF5 hF6 hF7 hF8 hF9 hF10 hF11 hF12 hF13 hF14 hF15 hF16 (yf_gg_M_primary hF0 hF1 hF2 hF3 hF4 hF5 hF6 hF7 hF8 hF9 hF10 hF11 hF12 hF13 hF14 hF15 hF16 _) | with_reducible exact yf_fb_M_primary_157 (by assumption) hF0 hF1 hF2 hF3 hF4 hF5 hF6 hF7 hF8 hF9 hF10 hF11 hF12 hF13 hF14 hF15 hF16 (yf_gg_M_primary hF0 hF1 hF2 hF3 hF4 hF5 hF6 hF7 hF8 hF9 hF10 hF11 hF12 hF13 hF14 hF15 hF16 _) | with_reducible exact yf_fb_M_primary_128 (by assumption) hF0 hF1 hF2 hF3 hF4 hF5 hF6 hF7 hF8 hF9 hF10 hF11 hF12 hF13 hF14 hF15 hF16 (yf_gg_M_primary hF0 hF1 hF2 hF3 hF4 hF5 hF6 hF7 hF8 hF9 hF10 hF11 hF12 hF13 hF14 hF15 hF16 _) | with_reducible exact yf_fb_M_primary_122 (by assumption) hF0 hF1 hF2 hF3 hF4 hF5 hF6 hF7 hF8 hF9 hF10 hF11 hF12 hF13 hF14 hF15 hF16 (yf_gg_M_primary hF0 hF1 hF2 hF3 hF4 hF5 hF6 hF7 hF8 hF9 hF10 hF11 hF12 hF13 hF14 hF15 hF16 _) | with_reducible exact yf_fb_M_primary_118 (by assumption) hF0 hF1 hF2 hF3 hF4 hF5 hF6 hF7 hF8 hF9 hF10 hF11 hF12 hF13 hF14 hF15 hF16 (yf_gg_M_primary hF0 hF1 hF2 hF3 hF4 hF5 hF6 hF7 hF8 hF9 hF10 hF11 hF12 hF13 hF14 hF15 hF16 _) | with_reducible exact yf_fb_M_primary_0 (by assumption) hF0 hF1 hF2 hF3 hF4 hF5 hF6 hF7 hF8 hF9 hF10 hF11 hF12 hF13 hF14 hF15 hF16 (yf_gg_M_primary hF0 hF1 hF2 hF3 hF4 hF5 hF6 hF7 hF8 hF9 hF10 hF11 hF12 hF13 hF14 hF15 hF16 _) | with_reducible exact (yf_gg_M_primary hF0 hF1 hF2 hF3 hF4 hF5 hF6 hF7 hF8 hF9 hF10 hF11 hF12 hF13 hF14 hF15 hF16 _) _ _ _ (by assumption) | with_reducible refine Kf_ltv (fun _ => ?_) | with_reducible refine Kf_I ?_ (by decide) | with_reducible refine Kf_A ?_ | with_reducible refine Kf_J ?_ | with_reducible refine Kf_L ?_)
theorem cal_ex (c : CTZ m0 w0 K T nm Nk) (cA : CTA m0 w0 K T) (c45 : ∀ p, p ≤ T → K p ≠ 45) (hA : HAg N m0 w0 K T nm Nk d) (h : RLP m0 w0 T p m w) (hn : m.1 306 = I (n : Nat)) (hn2 : n ≤ 2 * p) (hR : RNs w sc) (nd : ND w) (h70 : w.1 70 = I ((o + 1 : Nat) : Int)) (ho : o + 1 ≤ 25) (hg : decide (w.1 73 = 0) = !gd) (hk : K p = 2) (hk2 : K (p + 1) = 20) {M D2 : Nat} : PP (EXZ N m0 w0 K T nm Nk p n gd sc o NC0 m w) (bTm (hm_Pa_atomOrCall N (hrc_Pa_matched N D) m) (fun u r => hm_Pa_applied N (hrc_Pa_matched N D2) u r)) (bnd ((rc_M_behind N d).2.2.2.2.2.2.2.2.2.1 (adv w p)) (fun u9 _ => bnd (fm_M_node N u9 12 (I (p : Nat))) (fun u10 r10 => ck (inb (I (p : Nat)) (ln 7)) (ck (inb r10 (ln 25)) (lt (upA u10 25 (upd (u10.2.2.1 25) r10.toNatClampNeg (u10.2.2.1 7 p))) (fun w11 => ck (inb r10 (ln 26)) (lt (upA w11 26 (upd (w11.2.2.1 26) r10.toNatClampNeg (w11.1 84))) (fun w12 => br (decide ((w12.1 73) = 0)) (fb_M_primary_118 N (rc_M_behind N d) (gg_M_primary N (rc_M_behind N d) M) w12 (I (p : Nat)) (r10) (27) (r10) (0)) (fb_M_primary_118 N (rc_M_behind N d) (gg_M_primary N (rc_M_behind N d) M) w12 (I (p : Nat)) (r10) (27) (r10) (1)))))))))) := by
  have hc := RLP_c c h
  have hw := RLP_w c h
  have t4 := c.1.1.1
  have pT := h.2.2.2.2.1
  have hl : p < T := TWK_lt c pT (by omega) (by omega)
  have hl2 : p + 1 < T := TWK_lt c hl (by omega) (by omega)
  obtain ⟨mf, f1, f2, f3, f4, f5, f6, f7, f8⟩ := lf_f (N := N) hc hl hn (by omega)
  have e7 : ∀ k, k ≠ 69 → (adv w p).1 k = w.1 k := fun k hk => by unfold adv; exact upI_ne hk
  unfold hm_Pa_atomOrCall hb_Pa_atomOrCall_0
  rw [f1, bnd_s, look_e f8 (by omega), bTm_l, hk2, show decide (I ((20 : Nat) : Int) = 20) = true from rfl, br_tq]
  have st : STQ m0 w0 K T Nk gd m w p n sc 1 mf (adv w p) (p + 1) (n + 1) sc 0 (fun _ => 32) false false (fun _ => False) := ⟨RLP_go h hl f2 f5 (SMS_k SMS_ad) (by unfold adv; exact upI_at) (e7 70 (by decide)) (e7 67 (by decide)), ⟨by omega, f4, by omega, by omega⟩, f3, f2, STW_gap (STW_s (STW_0 (Nk := Nk) (K := K) (W := fun _ => 32) hR nd) SMS_ad) ⟨Nat.le_refl _, by omega⟩ (fun j h1 h2 => absurd h2 (by omega)) (fun j h1 h2 => by rw [show j = p by omega]; omega), fun _ _ => rfl, SNW_rf⟩
  rw [bTm_lt]
  refine l_lt ?_
  rw [f5, i_suc, hc.2.1, bTm_as]
  cases D with
  | zero => exact pp_nl
  | succ D =>
    show PP _ (bTm (hm_Pa_rowUpTo N (hrc_Pa_matched N D) (advc mf (p + 1)) 0 6 21) _) _
    refine pp_bTn (hA D mf (adv w p) (p + 1) (n + 1) sc gd (o + 1) st.1 f4 (by omega) (STQ_rn st) (STQ_nd st) (by rw [e7 70 (by decide)]; exact h70) ho (by rw [e7 73 (by decide)]; exact hg) hk2) (fun m2 φ w2 _ qz => ?_) (fun m2 kk w2 _ qz => cal_f qz)
    obtain ⟨l, q, e1, e84, n2, q1, sc2, X, W, Rf, Zf, CL, b1, b2, b3, b4, b5⟩ := qz
    have nb := b1.2.1
    have qT := b1.1.2.2.2.2.1
    rw [e1]
    have s2 := STQ_tr st b1
    rw [show max 0 X = X by omega, Bool.false_or, Bool.false_or] at s2
    have s2 := STQ_cl (CM := CL) (fun x => ⟨fun z => z.elim False.elim id, Or.inr⟩) s2
    have he := ERW_lo (n := n) (by omega) (ERW_w (W2 := mrg (p + 1) (fun _ => 32) W) (fun j h _ => mrg_r (by omega)) b2)
    generalize mrg (p + 1) (fun _ => 32) W = W9 at s2 he
    have x7 : w2.2.2.1 7 p = m2.2.2.1 7 p := by
      rw [s2.1.2.1.2 7 (by decide), s2.1.1.2 7 (by decide)]
      exact (cA p hl (Or.inr hk)).symm
    have w73 : w2.1 73 = w.1 73 := s2.2.2.2.2.1.2.2.2.2.2.2.1.1 73 (by decide)
    refine call_r (gd := gd) (x := m2.2.2.1 7 p) (y := I ((l.length : Nat) : Int)) s2.2.2.2.2.1 x7 e84 (by omega) (by rw [w73]; exact hg) (fun u r hu ui ur => ?_)
    rw [bTm_ck]
    refine l_ck (fun _ => ?_)
    rw [bnd_as]
    refine l_bnd (pk_mo (NXT_len (ERW_nxt (by omega) b2)) (fun u14 r14 e14 => ?_))
    obtain ⟨e14, e15⟩ := e14
    subst e14
    rw [tnI (n := p) rfl (by omega), e15]
    show PP _ (bTm (bnd (hm_Tr_add N u14 14 (I (p : Nat)) (u14.2.2.1 7 p) (I ((l.headD 0 : Nat) : Int)) (I ((l.length : Nat) : Int))) _) _) _
    rw [add_e nb.2.1 (by omega), bnd_s, bTm_l]
    have Ao := adN_o (m := u14) (n := n2) (a := 14) (b := I (p : Nat)) (c := u14.2.2.1 7 p) (d := I ((l.headD 0 : Nat) : Int)) (f := I ((l.length : Nat) : Int))
    have An := adN_nod (m := u14) (n := n2) (a := 14) (b := I (p : Nat)) (c := u14.2.2.1 7 p) (d := I ((l.headD 0 : Nat) : Int)) (f := I ((l.length : Nat) : Int))
    have kc : Kcc u14 (adN u14 n2 14 (I (p : Nat)) (u14.2.2.1 7 p) (I ((l.headD 0 : Nat) : Int)) (I ((l.length : Nat) : Int))) := ⟨fun k hk => adN_i (by omega), fun k hk => adN_r (by omega)⟩
    have s3 := STQ_add (s := 4) (a := 14) (b := I (p : Nat)) (c := u14.2.2.1 7 p) (d := I ((l.headD 0 : Nat) : Int)) (f := I ((l.length : Nat) : Int)) s2
    generalize hAA : adN u14 n2 14 (I (p : Nat)) (u14.2.2.1 7 p) (I ((l.headD 0 : Nat) : Int)) (I ((l.length : Nat) : Int)) = A at Ao An kc s3
    obtain ⟨g1, g2, g3, g4, g5, g6, g7⟩ := s3
    have r4 : RLP m0 w0 T q A u := by
      obtain ⟨h1, h2, h3, h4, h5, h6, h7⟩ := g1
      exact ⟨h1, Kt_tr h2 ⟨fun k hk => ui k (by rintro rfl; revert hk; decide), fun k hk => ur k (by unfold TRW at hk; simp only [List.mem_cons, List.not_mem_nil, or_false] at hk; omega)⟩, h3, by rw [ui 69 (by decide)]; exact h4, h5, by rw [ui 70 (by decide)]; exact h6, by rw [ui 67 (by decide)]; exact h7⟩
    have ex : EXZ N m0 w0 K T nm Nk p n gd sc o NC0 m w A (.inl (I ((n2 + 1 : Nat) : Int))) u r := by
      refine ⟨q, n2 + 1, n2 + 1, sc2, X, W9, Rf, Zf, fun z => CL z ∨ z = (u14.2.2.1 7 p, I ((l.length : Nat) : Int), b2c gd), rfl, ⟨by omega, Nat.le_refl _⟩, by omega, STQ_s2 (s := 4) ⟨r4, g2, g3, g4, hu, g6, g7⟩ (by omega), An.2, ?_, ?_, 14, nod_16 An.1, by decide, fun z => absurd z (by decide), fun _ z => by omega, p, by omega, nod_17 An.1⟩
      · have e := exn_call (N := N) (gd := gd) (lo := n) (q := p + 2) (q2 := q1) (p := p) (p2 := q) An.1 (by omega) (by omega) (Nat.le_refl _) (by omega) ⟨by omega, by omega, by omega⟩ (fun j h1 h2 => by
            by_cases z : j = p
            · rw [z]; omega
            · rw [show j = p + 1 by omega]; omega) b3.2.2 he Ao kc (by omega)
        refine EXN_bc (fun m => ?_) e
        constructor
        · rintro ⟨z, z1 | z1, z2⟩
          · exact Or.inl ⟨z, z1, z2⟩
          · rw [z1] at z2; exact Or.inr z2
        · rintro (⟨z, z1, z2⟩ | z)
          · exact ⟨z, Or.inl z1, z2⟩
          · exact ⟨_, Or.inr rfl, z⟩
      · exact PTX_der (PTX_leaf (NC := NC0) (o := o) (lo := n) f6 (by omega) (Nat.le_refl _) (by omega) (by omega) hl (by omega)) An.1 (by omega) (Nat.le_refl _) (by omega) (by decide) (by decide) (by decide) (fun _ z => z) (Or.inr hk2)
    exact app_pp c c45 hA hn2 h70 ho hg ex
theorem HPr_s (c : CTZ m0 w0 K T nm Nk) (cA : CTA m0 w0 K T) (c45 : ∀ p, p ≤ T → K p ≠ 45) (hA : HAg N m0 w0 K T nm Nk d) (hL : HAl N m0 w0 K T nm Nk d) : HPr N m0 w0 K T nm Nk (d + 1) := by
  intro D m w p n sc gd o h hn hn2 hR nd h70 ho hg
  show PP _ (bTm (hm_Pa_primary N (hrc_Pa_matched N D) m) (fun u r => hm_Pa_applied N (hrc_Pa_matched N D) u r)) (fb_M_primary_0 N (rc_M_behind N d) (gg_M_primary N (rc_M_behind N d) N) w)
  have hc := RLP_c c h
  have hw := RLP_w c h
  have t4 := c.1.1.1
  have pT := h.2.2.2.2.1
  have h0 := h.2.2.2.2.2.2
  unfold fb_M_primary_0
  rw [decide_eq_true h0, br_tq]
  refine r_ck (fun _ => ?_)
  rw [(WP_i hw).2.1, srt_dc hw srK_1, hw.2.1, i_suc]
  have p1 : (I ((p + 1 : Nat) : Int)).toNatClampNeg = p + 1 := tnI rfl (by omega)
  rw [p1]
  have alo : ¬ (K p = 2 ∧ K (p + 1) = 20) → PP (EXZ N m0 w0 K T nm Nk p n gd sc o NC0 m w) (bTm (hm_Pa_primary N (hrc_Pa_matched N D) m) (fun u r => hm_Pa_applied N (hrc_Pa_matched N D) u r)) (fb_M_primary_122 N (rc_M_behind N d) (gg_M_primary N (rc_M_behind N d) N) w (I (p : Nat))) := fun hnc => by
    unfold fb_M_primary_122
    refine pp_bTn (hL D m w p n sc gd o h hn hn2 hR nd h70 ho hg hnc) (fun m2 ε w2 r2 q => app_pp c c45 hA hn2 h70 ho hg q) (fun m2 kk w2 r2 q => ggP_f q)
  by_cases k2 : K p = 2
  · have hl : p < T := TWK_lt c pT (by omega) (by omega)
    have k46 := hw.1.1.k46 (show p + 1 ≤ T from hl)
    rw [decide_eq_true k2, br_tq]
    refine r_ck (fun _ => ?_)
    rw [hw.1.2.1 (p + 1) hl]
    by_cases ks : 20 ≤ K (p + 1) ∧ K (p + 1) ≤ 44
    · have hl2 : p + 1 < T := TWK_lt c hl (by omega) (by omega)
      rw [decide_eq_true ((srK_6 _ k46).mpr ks), br_tq]
      refine r_ck (fun _ => ?_)
      rw [hw.1.2.2 (p + 1) hl2 (by omega)]
      by_cases k20 : K (p + 1) = 20
      · rw [k20, show decide (I ((svK 20 : Nat) : Int) = 0) = true from rfl, br_tq]
        refine r_lt ?_
        unfold hm_Pa_primary hb_Pa_primary_0
        rw [look_e hc (by omega), bTm_l, k2, show decide (I ((2 : Nat) : Int) = 1) = false from rfl, br_fq, show decide (I ((2 : Nat) : Int) = 2) = true from rfl, br_tq, bTm_id]
        cases D with
        | zero => exact pp_nl
        | succ D => exact cal_ex (D2 := D + 1) c cA c45 hA h hn hn2 hR nd h70 ho hg k2 k20
      · rw [decide_eq_false (p := I ((svK (K (p + 1)) : Nat) : Int) = 0) (fun z => k20 ((svK_s _ (by omega) 20 (by decide) ks.1 (by decide)).mp z)), br_fq]
        exact alo (fun z => k20 z.2)
    · rw [decide_eq_false (fun z => ks ((srK_6 _ k46).mp z)), br_fq]
      exact alo (fun z => ks (by omega))
  · rw [decide_eq_false k2, br_fq]
    exact alo (fun z => k2 z.1)
end
end
section
set_option maxRecDepth 100000
def UNS (w w2 : MS) (k : Nat) : Prop := (k = 0 ∧ w2.1 83 = w.1 83 ∧ w2.1 70 = w.1 70) ∨ ∃ t0 : Nat, w.1 83 = I (t0 : Nat) ∧ t0 + k ≤ 3000 ∧ w2.1 83 = I ((t0 + k : Nat) : Int) ∧ (∀ i, t0 ≤ i → i < t0 + k → w2.2.2.1 79 i = 7) ∧ ∃ δ : Nat, w.1 70 = I (δ : Nat) ∧ δ + k ≤ 30 ∧ w2.1 70 = I ((δ + k : Nat) : Int)
def bkW (w w2 : MS) : MS := upI (upI w2 83 (w.1 83)) 70 (w.1 70)
section
variable {m0 w0 m w v u mB wB m2 w2 m3 w3 mi : MS} {K nm Nk W W2 : Nat → Nat} {T p n N q X Y n2 p0 n0 n3 p2 ν μ κ o s L d D k q1 q2 lo li ni : Nat} {sc sc1 sc2 sc3 t : SCT} {gd Rf Zf Rg Zg : Bool} {l : List Nat} {r v1 v2 v3 v4 v5 x y : Int32} {CL CM : Int32 × Int32 × Int32 → Prop} {NC : Nat → Prop} {B1 B2 BC : MS → Prop}
theorem inb_N {n : Nat} (h : inb x n = true) : ∃ a : Nat, x = I (a : Nat) ∧ a < n := by
  unfold inb at h
  have h := of_decide_eq_true h
  refine ⟨x.toNatClampNeg, ?_, by omega⟩
  have h0 : ¬ x < 0 := fun z => h (Or.inl z)
  have e : (0 : Int) ≤ x.toInt := by
    have : ¬ x.toInt < (0 : Int32).toInt := fun z => h0 (Int32.lt_iff_toInt_lt.mpr z)
    have z0 : (0 : Int32).toInt = 0 := rfl
    omega
  have e2 : ((x.toNatClampNeg : Nat) : Int) = x.toInt := by
    show ((x.toInt.toNat : Nat) : Int) = _
    omega
  rw [e2]
  exact I_of x
theorem bnd_ck {α β : Type} {b : Bool} {x : Option (MS × β)} {g : MS → β → Option (MS × α)} : bnd (ck b x) g = ck b (bnd x g) := by cases b <;> rfl
theorem bnd_lt {α β γ : Type} {x : γ} {f : γ → Option (MS × β)} {g : MS → β → Option (MS × α)} : bnd (lt x f) g = lt x (fun a => bnd (f a) g) := rfl
theorem bnd_br {α β : Type} {b : Bool} {x y : Option (MS × β)} {g : MS → β → Option (MS × α)} : bnd (br b x y) g = br b (bnd x g) (bnd y g) := by cases b <;> rfl
theorem bnd_as2 {α β γ : Type} {o : Option (MS × β)} {f : MS → β → Option (MS × γ)} {g : MS → γ → Option (MS × α)} : bnd (bnd o f) g = bnd o (fun u r => bnd (f u r) g) := by cases o <;> rfl
theorem upI_id (h : w.1 k = x) : upI w k x = w := by
  have e : (fun j => if j = k then x else w.1 j) = w.1 := by
    funext j
    by_cases z : j = k
    · subst z; rw [if_pos rfl, h]
    · rw [if_neg z]
  unfold upI
  rw [e]
theorem bkW_i (h : k ≠ 83) (h2 : k ≠ 70) : (bkW w w2).1 k = w2.1 k := by unfold bkW; rw [upI_ne h2, upI_ne h]
theorem bkW_83 : (bkW w w2).1 83 = w.1 83 := by unfold bkW; rw [upI_ne (by decide), upI_at]
theorem bkW_70 : (bkW w w2).1 70 = w.1 70 := by unfold bkW; rw [upI_at]
theorem bkW_r : (bkW w w2).2.2.1 = w2.2.2.1 := rfl
theorem I_sn {a : Nat} : I ((a + 1 : Nat) : Int) - 1 = I (a : Nat) := by
  rw [show (1 : Int32) = I 1 from rfl, I_sub]; congr 1; omega
theorem red_1 {R : MS → Int32 ⊕ Nat → MS → Int32 → Prop} {a : Option (MS × (Int32 ⊕ Nat))} {M b0 t lv : Nat} {f : MS → Int32 → Option (MS × Int32)} (h83 : w.1 83 = I ((t + 1 : Nat) : Int)) (ht : t < 3000) (hb : b0 ≤ t) (h79 : w.2.2.1 79 t = 7) (hlv : lv ≤ 6) (hG : ∀ u r M', SMS (upI (upI w 83 (I (t : Nat))) 70 (w.1 70 - 1)) u → u.1 69 = w.1 69 → PP R a (bnd (gg_M_reduce N M' u (I (b0 : Nat)) (I (lv : Nat)) r 1) f)) : PP R a (bnd (gg_M_reduce N M w (I (b0 : Nat)) (I (lv : Nat)) r 1) f) := by
  cases M with
  | zero => exact pp_nr
  | succ M =>
    show PP R a (bnd (fb_M_reduce_6 N (gg_M_reduce N M) w (I (b0 : Nat)) (I (lv : Nat)) r 1) f)
    unfold fb_M_reduce_6 fb_M_reduce_56 fb_M_reduce_61
    rw [show decide ((1 : Int32) = 0) = false from rfl, br_fq, h83, decI (by omega) (by omega) (by omega) (by omega), decide_eq_false (by omega), br_fq, I_sn, bnd_ck]
    refine r_ck (fun _ => ?_)
    rw [bnd_lt]
    refine r_lt ?_
    rw [tnI (n := t) rfl (by omega), h79, show (7 : Int32) = I ((7 : Nat) : Int) from rfl, decide_eq_true ((I_lt (by omega) (by omega) (by omega) (by omega)).mpr (by omega)), br_tq, br_fq, bnd_lt]
    refine r_lt ?_
    rw [show decide (I ((7 : Nat) : Int) = I ((7 : Nat) : Int)) = true from decide_eq_true rfl, br_tq, bnd_lt]
    refine r_lt ?_
    have e70 : (upI w 83 (I (t : Nat))).1 70 = w.1 70 := upI_ne (by decide)
    rw [e70]
    generalize hw9 : upI (upI w 83 (I (t : Nat))) 70 (w.1 70 - 1) = w9 at hG ⊢
    have e69 : w9.1 69 = w.1 69 := by rw [← hw9, upI_ne (by decide), upI_ne (by decide)]
    have go : ∀ t1 : Int32, (vp_nar .byte (t1.toInt8.toInt32) ≠ 12 ∧ vp_nar .byte (t1.toInt8.toInt32) ≠ 15) → PP R a (bnd (fb_M_reduce_121 N (gg_M_reduce N M) w9 (I (b0 : Nat)) (I (lv : Nat)) 1 t1) f) := fun t1 h1 => by
      unfold fb_M_reduce_121 fb_M_reduce_255
      rw [bnd_ck]
      refine r_ck (fun _ => ?_)
      rw [bnd_as2]
      refine r_bnd (pk_mo (node_s h1) (fun u r2 q => ?_))
      exact hG u r2 M q.1 (q.2.1.trans e69)
    rw [bnd_ck]
    refine r_ck (fun _ => ?_)
    rw [bnd_ck]
    refine r_ck (fun _ => ?_)
    rw [bnd_br]
    exact r_br (fun _ => go 7 (by decide)) (fun _ => go 8 (by decide))
theorem red_un {R : MS → Int32 ⊕ Nat → MS → Int32 → Prop} {a : Option (MS × (Int32 ⊕ Nat))} {b0 lv t0 δ : Nat} {f : MS → Int32 → Option (MS × Int32)} (hlv : lv ≤ 6) (hb : b0 ≤ t0) : ∀ (k M : Nat) (w2 : MS) (r : Int32), t0 + k ≤ 3000 → w2.1 83 = I ((t0 + k : Nat) : Int) → (∀ i, t0 ≤ i → i < t0 + k → w2.2.2.1 79 i = 7) → w2.1 70 = I ((δ + k : Nat) : Int) → (∀ u r' M', SMS (upI (upI w2 83 (I (t0 : Nat))) 70 (I (δ : Nat))) u → u.1 69 = w2.1 69 → PP R a (bnd (gg_M_reduce N M' u (I (b0 : Nat)) (I (lv : Nat)) r' 1) f)) → PP R a (bnd (gg_M_reduce N M w2 (I (b0 : Nat)) (I (lv : Nat)) r 1) f)
  | 0, M, w2, r, h1, h2, h3, h4, hG => by
    have e : upI (upI w2 83 (I (t0 : Nat))) 70 (I (δ : Nat)) = w2 := by
      have e1 : upI w2 83 (I (t0 : Nat)) = w2 := upI_id h2
      rw [e1]; exact upI_id h4
    exact hG w2 r M (by rw [e]; exact SMS_rf) rfl
  | k + 1, M, w2, r, h1, h2, h3, h4, hG => by
    refine red_1 (t := t0 + k) h2 (by omega) (by omega) (h3 _ (by omega) (by omega)) hlv (fun u r1 M1 s1 h69 => ?_)
    have i83 : u.1 83 = I ((t0 + k : Nat) : Int) := by rw [s1.1 83 (by decide), upI_ne (by decide), upI_at]
    have i70 : u.1 70 = I ((δ + k : Nat) : Int) := by rw [s1.1 70 (by decide), upI_at, h4]; exact I_sn
    refine red_un hlv hb k M1 u r1 (by omega) i83 (fun i i1 i2 => ?_) i70 (fun u2 r2 M2 s2 h69b => ?_)
    · rw [s1.2.1 79 (by unfold SMX; omega)]; exact h3 i i1 (by omega)
    · refine hG u2 r2 M2 (SMS_tr ?_ s2) (h69b.trans h69)
      have s3 : SMS (upI (upI w2 83 (I ((t0 + k : Nat) : Int))) 70 (w2.1 70 - 1)) u := s1
      refine ⟨fun j hj => ?_, fun j hj => s3.2.1 j hj, fun a' e1 e2 => ?_⟩
      · by_cases z : j = 70
        · subst z; rw [upI_at, upI_at]
        · rw [upI_ne z, upI_ne z]
          by_cases y : j = 83
          · subst y; rw [upI_at, upI_at]
          · rw [upI_ne y, upI_ne y, s3.1 j hj, upI_ne z, upI_ne y]
      · have f1 : (upI (upI w2 83 (I ((t0 + k : Nat) : Int))) 70 (w2.1 70 - 1)).1 32 = I (a' : Nat) := by
          rw [upI_ne (by decide), upI_ne (by decide)]
          rw [upI_ne (by decide), upI_ne (by decide)] at e1
          exact e1
        obtain ⟨b', g1, g2, g3⟩ := s3.2.2 a' f1 e2
        exact ⟨b', ⟨by rw [upI_ne (by decide), upI_ne (by decide)]; exact g1.1, g1.2⟩, g2, g3⟩
end
end
section
set_option maxRecDepth 100000
def wkR (N : Nat) (S : SG_M_behind) (M : Nat) (v1 : Int32) (w : MS) (r : Int32) : Option (MS × Int32) := br (decide ((w.1 67) = 0)) (bnd (fm_M_level N w) (fun u15 r15 => fb_M_worked_129 N S (gg_M_worked N S M) u15 v1 r r15)) (fb_M_worked_129 N S (gg_M_worked N S M) w v1 r 0)
section
variable {m0 w0 m w v u mB wB m2 w2 m3 w3 mi w' : MS} {K nm Nk W W2 : Nat → Nat} {T p n N q X Y n2 p0 n0 n3 p2 ν μ κ o s L d D k q1 q2 lo li ni t0 : Nat} {sc sc1 sc2 sc3 t : SCT} {gd Rf Zf Rg Zg : Bool} {l : List Nat} {r v1 v2 v3 v4 v5 x y : Int32} {CL CM : Int32 × Int32 × Int32 → Prop} {NC : Nat → Prop} {B1 B2 BC : MS → Prop}
theorem STW_un (h : STW Nk K q p2 sc sc2 X W Rf Zf CL w' (bkW w' w2)) (hi : ∀ k, k ≠ 69 → k ≠ 70 → k ≠ 83 → w'.1 k = w.1 k) (hr : ∀ k, k ≠ 79 → k ≠ 80 → w'.2.2.1 k = w.2.2.1 k) (hj : ∀ k j, j ≠ t0 → w'.2.2.1 k j = w.2.2.1 k j) (h83 : w.1 83 = I (t0 : Nat)) (ht : t0 < 3000) (h83' : w'.1 83 = I ((t0 + 1 : Nat) : Int)) : STW Nk K q p2 sc sc2 X W Rf Zf CL w (bkW w w2) := by
  obtain ⟨a1, a2, a3, a4, a5, a6, a7, a, b, a8, a9, a10⟩ := h
  have bi : ∀ k, k ≠ 70 → k ≠ 83 → (bkW w w2).1 k = (bkW w' w2).1 k := fun k h1 h2 => by rw [bkW_i h2 h1, bkW_i h2 h1]
  refine ⟨RNs_e a1 (bi 65 (by decide) (by decide)) (fun _ _ _ => rfl), a2, a3, a4, by rw [bi 66 (by decide) (by decide), a5, hi 66 (by decide) (by decide) (by decide)], by rw [bi 72 (by decide) (by decide), a6, hi 72 (by decide) (by decide) (by decide)], ⟨fun k hk => ?_, fun k hk => ?_, fun j jj => ?_, fun j jj => ?_, fun i i1 i2 j jj => ?_⟩, a, b, ⟨by rw [← hi 32 (by decide) (by decide) (by decide)]; exact a8.1, by rw [bi 32 (by decide) (by decide)]; exact a8.2.1, a8.2.2⟩, fun x => a9 x, fun j jj => ?_⟩
  · by_cases z : k = 70
    · subst z; exact bkW_70
    · by_cases z2 : k = 83
      · subst z2; exact bkW_83
      · rw [bi k z z2, a7.1 k hk, hi k (by rintro rfl; revert hk; decide) z z2]
  · rw [bkW_r]
    have := a7.2.1 k hk
    rw [bkW_r] at this
    rw [this, hr k (by omega) (by omega)]
  · have := a7.2.2.1 j (by rw [hi 75 (by decide) (by decide) (by decide)]; exact jj)
    rw [bkW_r] at this ⊢
    rw [this, hr 74 (by decide) (by decide)]
  · have := a7.2.2.2.1 j (by rw [hi 77 (by decide) (by decide) (by decide)]; exact jj)
    rw [bkW_r] at this ⊢
    rw [this, hr 76 (by decide) (by decide)]
  · rw [h83, tnI (n := t0) rfl (by omega)] at jj
    have := a7.2.2.2.2 i i1 i2 j (by rw [h83', tnI (n := t0 + 1) rfl (by omega)]; omega)
    rw [bkW_r] at this ⊢
    rw [this, hj i j (by omega)]
  · have := a10 j jj
    rw [hr 23 (by decide) (by decide), hr 25 (by decide) (by decide), hr 26 (by decide) (by decide), hr 27 (by decide) (by decide)] at this
    exact this
theorem w45_f {M : Nat} (h : FLW w) : PK (fun w2 (_ : Int32) => FLW w2) (fb_M_worked_102 N (rc_M_behind N d) (gg_M_worked N (rc_M_behind N d) M) w v1) := by
  refine Kf_pk (u0 := w) ?_
  have h : Kfc w w := h
  obtain ⟨hF0, hF1, hF2, hF3, hF4, hF5, hF6, hF7, hF8, hF9, hF10, hF11, hF12, hF13, hF14, hF15, hF16⟩ := yf_rc_M_behind (u0 := w) (N := N) d
  repeat' (first | with_reducible assumption | with_reducible refine Kf_br ?_ ?_ | with_reducible refine Kf_bnd ?_ (fun _ _ _ => ?_) | with_reducible refine Kf_ck ?_ | with_reducible refine Kf_ltm ?_ (fun _ _ => ?_) | with_reducible refine Kf_some ?_ | with_reducible refine Kf_bo (fun _ => ?_) | with_reducible exact yf_fm_M_node (by assumption) | with_reducible exact yf_fm_M_pattern (by assumption) | with_reducible exact yf_fm_M_wrong (by assumption) | with_reducible exact yf_fm_M_rule (by assumption) | with_reducible exact yf_fm_M_isSign (by assumption) | with_reducible exact yf_fm_M_isWord (by assumption) | with_reducible exact yf_fm_M_takeSign (by assumption) | with_reducible exact yf_fm_M_takeWord (by assumption) | with_reducible exact yf_fm_M_needSign (by assumption) | with_reducible exact yf_fm_M_needWord (by assumption) | with_reducible exact yf_fm_M_opens (by assumption) | with_reducible exact yf_fm_M_boundIn (by assumption) | with_reducible exact yf_fr_M_found (by assumption) | with_reducible exact yf_fm_M_bind (by assumption) | with_reducible exact yf_fm_M_isUnderscore (by assumption) | with_reducible exact yf_fm_M_unbind (by assumption) | with_reducible exact yf_fm_M_term (by assumption) | with_reducible exact yf_fm_M_namePattern (by assumption) | with_reducible exact yf_fr_M_patternAt (by assumption) | with_reducible exact yf_fm_M_beginsUnit (by assumption) | with_reducible exact yf_fm_M_save (by assumption) | with_reducible exact yf_fm_M_addRoot (by assumption) | with_reducible exact yf_fm_M_level (by assumption) | with_reducible exact yf_fm_M_reduce (by assumption) | with_reducible exact yf_fm_M_takeBack (by assumption) | with_reducible exact yf_fm_M_forgetSaved (by assumption) | with_reducible exact yf_fr_M_last (by assumption) | with_reducible exact yf_fr_M_clause (by assumption) | with_reducible exact yf_fm_M_predefinedOf (by assumption) | with_reducible exact yf_fm_M_function0 (by assumption) | with_reducible exact yf_fm_M_program (by assumption) | with_reducible exact hF0 _ (by assumption) | with_reducible exact hF1 _ _ (by assumption) | with_reducible exact hF2 _ _ _ (by assumption) | with_reducible exact hF3 _ _ _ (by assumption) | with_reducible exact hF4 _ (by assumption) | with_reducible exact hF5 _ _ (by assumption) | with_reducible exact hF6 _ _ (by assumption) | with_reducible exact hF7 _ _ (by assumption) | with_reducible exact hF8 _ _ (by assumption) | with_reducible exact hF9 _ (by assumption) | with_reducible exact hF10 _ (by assumption) | with_reducible exact hF11 _ (by assumption) | with_reducible exact hF12 _ (by assumption) | with_reducible exact hF13 _ (by assumption) | with_reducible exact hF14 _ (by assumption) | with_reducible exact hF15 _ (by assumption) | with_reducible exact hF16 _ _ (by assumption) | with_reducible exact yf_fb_M_worked_334 (by assumption) hF0 hF1 hF2 hF3 hF4 hF5 hF6 hF7 hF8 hF9 hF10 hF11 hF12 hF13 hF14 hF15 hF16 (yf_gg_M_worked hF0 hF1 hF2 hF3 hF4 hF5 hF6 hF7 hF8 hF9 hF10 hF11 hF12 hF13 hF14 hF15 hF16 _).1 (yf_gg_M_worked hF0 hF1 hF2 hF3 hF4 hF5 hF6 hF7 hF8 hF9 hF10 hF11 hF12 hF13 hF14 hF15 hF16 _).2 | with_reducible exact yf_fb_M_worked_331 (by assumption) hF0 hF1 hF2 hF3 hF4 hF5 hF6 hF7 hF8 hF9 hF10 hF11 hF12 hF13 hF14 hF15 hF16 (yf_gg_M_worked hF0 hF1 hF2 hF3 hF4 hF5 hF6 hF7 hF8 hF9 hF10 hF11 hF12 hF13 hF14 hF15 hF16 _).1 (yf_gg_M_worked hF0 hF1 hF2 hF3 hF4 hF5 hF6 hF7 hF8 hF9 hF10 hF11 hF12 hF13 hF14 hF15 hF16 _).2 | with_reducible exact yf_fb_M_worked_292 (by assumption) hF0 hF1 hF2 hF3 hF4 hF5 hF6 hF7 hF8 hF9 hF10 hF11 hF12 hF13 hF14 hF15 hF16 (yf_gg_M_worked hF0 hF1 hF2 hF3 hF4 hF5 hF6 hF7 hF8 hF9 hF10 hF11 hF12 hF13 hF14 hF15 hF16 _).1 (yf_gg_M_worked hF0 hF1 hF2 hF3 hF4 hF5 hF6 hF7 hF8 hF9 hF10 hF11 hF12 hF13 hF14 hF15 hF16 _).2 | with_reducible exact yf_fb_M_worked_269 (by assumption) hF0 hF1 hF2 hF3 hF4 hF5 hF6 hF7 hF8 hF9 hF10 hF11 hF12 hF13 hF14 hF15 hF16 (yf_gg_M_worked hF0 hF1 hF2 hF3 hF4 hF5 hF6 hF7 hF8 hF9 hF10 hF11 hF12 hF13 hF14 hF15 hF16 _).1 (yf_gg_M_worked hF0 hF1 hF2 hF3 hF4 hF5 hF6 hF7 hF8 hF9 hF10 hF11 hF12 hF13 hF14 hF15 hF16 _).2 | with_reducible exact yf_fb_M_worked_243 (by assumption) hF0 hF1 hF2 hF3 hF4 hF5 hF6 hF7 hF8 hF9 hF10 hF11 hF12 hF13 hF14 hF15 hF16 (yf_gg_M_worked hF0 hF1 hF2 hF3 hF4 hF5 hF6 hF7 hF8 hF9 hF10 hF11 hF12 hF13 hF14 hF15 hF16 _).1 (yf_gg_M_worked hF0 hF1 hF2 hF3 hF4 hF5 hF6 hF7 hF8 hF9 hF10 hF11 hF12 hF13 hF14 hF15 hF16 _).2 | with_reducible exact yf_fb_M_worked_189 (by assumption) hF0 hF1 hF2 hF3 hF4 hF5 hF6 hF7 hF8 hF9 hF10 hF11 hF12 hF13 hF14 hF15 hF16 (yf_gg_M_worked hF0 hF1 hF2 hF3 hF4 hF5 hF6 hF7 hF8 hF9 hF10 hF11 hF12 hF13 hF14 hF15 hF16 _).1 (yf_gg_M_worked hF0 hF1 hF2 hF3 hF4 hF5 hF6 hF7 hF8 hF9 hF10 hF11 hF12 hF13 hF14 hF15 hF16 _).2 | with_reducible exact yf_fb_M_worked_141 (by assumption) hF0 hF1 hF2 hF3 hF4 hF5 hF6 hF7 hF8 hF9 hF10 hF11 hF12 hF13 hF14 hF15 hF16 (yf_gg_M_worked hF0 hF1 hF2 hF3 hF4 hF5 hF6 hF7 hF8 hF9 hF10 hF11 hF12 hF13 hF14 hF15 hF16 _).1 (yf_gg_M_worked hF0 hF1 hF2 hF3 hF4 hF5 hF6 hF7 hF8 hF9 hF10 hF11 hF12 hF13 hF14 hF15 hF16 _).2 | with_reducible exact yf_fb_M_worked_129 (by assumption) hF0 hF1 hF2 hF3 hF4 hF5 hF6 hF7 hF8 hF9 hF10 hF11 hF12 hF13 hF14 hF15 hF16 (yf_gg_M_worked hF0 hF1 hF2 hF3 hF4 hF5 hF6 hF7 hF8 hF9 hF10 hF11 hF12 hF13 hF14 hF15 hF16 _).1 (yf_gg_M_worked hF0 hF1 hF2 hF3 hF4 hF5 hF6 hF7 hF8 hF9 hF10 hF11 hF12 hF13 hF14 hF15 hF16 _).2 | with_reducible exact yf_fb_M_worked_109 (by assumption) hF0 hF1 hF2 hF3 hF4 hF5 hF6 hF7 hF8 hF9 hF10 hF11 hF12 hF13 hF14 hF15 hF16 (yf_gg_M_worked hF0 hF1 hF2 hF3 hF4 hF5 hF6 hF7 hF8 hF9 hF10 hF11 hF12 hF13 hF14 hF15 hF16 _).1 (yf_gg_M_worked hF0 hF1 hF2 hF3 hF4 hF5 hF6 hF7 hF8 hF9 hF10 hF11 hF12 hF13 hF14 hF15 hF16 _).2 | with_reducible exact yf_fb_M_worked_102 (by assumption) hF0 hF1 hF2 hF3 hF4 hF5 hF6 hF7 hF8 hF9 hF10 hF11 hF12 hF13 hF14 hF15 hF16 (yf_gg_M_worked hF0 hF1 hF2 hF3 hF4 hF5 hF6 hF7 hF8 hF9 hF10 hF11 hF12 hF13 hF14 hF15 hF16 _).1 (yf_gg_M_worked hF0 hF1 hF2 hF3 hF4 hF5 hF6 hF7 hF8 hF9 hF10 hF11 hF12 hF13 hF14 hF15 hF16 _).2 | with_reducible exact yf_fb_M_worked_45 (by assumption) hF0 hF1 hF2 hF3 hF4 hF5 hF6 hF7 hF8 hF9 hF10 hF11 hF12 hF13 hF14 hF15 hF16 (yf_gg_M_worked hF0 hF1 hF2 hF3 hF4 hF5 hF6 hF7 hF8 hF9 hF10 hF11 hF12 hF13 hF14 hF15 hF16 _).1 (yf_gg_M_worked hF0 hF1 hF2 hF3 hF4 hF5 hF6 hF7 hF8 hF9 hF10 hF11 hF12 hF13 hF14 hF15 hF16 _).2 | with_reducible exact yf_fb_M_worked_20 (by assumption) hF0 hF1 hF2 hF3 hF4 hF5 hF6 hF7 hF8 hF9 hF10 hF11 hF12 hF13 hF14 hF15 hF16 (yf_gg_M_worked hF0 hF1 hF2 hF3 hF4 hF5 hF6 hF7 hF8 hF9 hF10 hF11 hF12 hF13 hF14 hF15 hF16 _).1 (yf_gg_M_worked hF0 hF1 hF2 hF3 hF4 hF5 hF6 hF7 hF8 hF9 hF10 hF11 hF12 hF13 hF14 hF15 hF16 _).2 | with_reducible exact yf_fb_M_worked_9 (by assumption) hF0 hF1 hF2 hF3 hF4 hF5 hF6 hF7 hF8 hF9 hF10 hF11 hF12 hF13 hF14 hF15 hF16 (yf_gg_M_worked hF0 hF1 hF2 hF3 hF4 hF5 hF6 hF7 hF8 hF9 hF10 hF11 hF12 hF13 hF14 hF15 hF16 _).1 (yf_gg_M_worked hF0 hF1 hF2 hF3 hF4 hF5 hF6 hF7 hF8 hF9 hF10 hF11 hF12 hF13 hF14 hF15 hF16 _).2 | with_reducible exact yf_fb_M_worked_0 (by assumption) hF0 hF1 hF2 hF3 hF4 hF5 hF6 hF7 hF8 hF9 hF10 hF11 hF12 hF13 hF14 hF15 hF16 (yf_gg_M_worked hF0 hF1 hF2 hF3 hF4 hF5 hF6 hF7 hF8 hF9 hF10 hF11 hF12 hF13 hF14 hF15 hF16 _).1 (yf_gg_M_worked hF0 hF1 hF2 hF3 hF4 hF5 hF6 hF7 hF8 hF9 hF10 hF11 hF12 hF13 hF14 hF15 hF16 _).2 | with_reducible exact (yf_gg_M_worked hF0 hF1 hF2 hF3 hF4 hF5 hF6 hF7 hF8 hF9 hF10 hF11 hF12 hF13 hF14 hF15 hF16 _).1 _ _ _ _ (by assumption) | with_reducible exact (yf_gg_M_worked hF0 hF1 hF2 hF3 hF4 hF5 hF6 hF7 hF8 hF9 hF10 hF11 hF12 hF13 hF14 hF15 hF16 _).2 _ _ (by assumption) | with_reducible exact (yf_gg_M_worked hF0 hF1 hF2 hF3 hF4 hF5 hF6 hF7 hF8 hF9 hF10 hF11 hF12 hF13 hF14 hF15 hF16 _).2 _ _ _ _ (by assumption) | with_reducible refine Kf_ltv (fun _ => ?_) | with_reducible refine Kf_I ?_ (by decide) | with_reducible refine Kf_A ?_ | with_reducible refine Kf_J ?_ | with_reducible refine Kf_L ?_)
theorem wG2_f {M : Nat} (h : FLW w) : PK (fun w2 (_ : Int32) => FLW w2) ((gg_M_worked N (rc_M_behind N d) M).2 w v1) := by
  refine Kf_pk (u0 := w) ?_
  have h : Kfc w w := h
  obtain ⟨hF0, hF1, hF2, hF3, hF4, hF5, hF6, hF7, hF8, hF9, hF10, hF11, hF12, hF13, hF14, hF15, hF16⟩ := yf_rc_M_behind (u0 := w) (N := N) d
  exact (yf_gg_M_worked hF0 hF1 hF2 hF3 hF4 hF5 hF6 hF7 hF8 hF9 hF10 hF11 hF12 hF13 hF14 hF15 hF16 M).2 _ _ h
theorem wkR_f {M : Nat} (h : FLW w) : PK (fun w2 (_ : Int32) => FLW w2) (wkR N (rc_M_behind N d) M v1 w r) := by
  refine Kf_pk (u0 := w) ?_
  have h : Kfc w w := h
  obtain ⟨hF0, hF1, hF2, hF3, hF4, hF5, hF6, hF7, hF8, hF9, hF10, hF11, hF12, hF13, hF14, hF15, hF16⟩ := yf_rc_M_behind (u0 := w) (N := N) d
  unfold wkR
  repeat' (first | with_reducible assumption | with_reducible refine Kf_br ?_ ?_ | with_reducible refine Kf_bnd ?_ (fun _ _ _ => ?_) | with_reducible refine Kf_ck ?_ | with_reducible refine Kf_ltm ?_ (fun _ _ => ?_) | with_reducible refine Kf_some ?_ | with_reducible refine Kf_bo (fun _ => ?_) | with_reducible exact yf_fm_M_node (by assumption) | with_reducible exact yf_fm_M_pattern (by assumption) | with_reducible exact yf_fm_M_wrong (by assumption) | with_reducible exact yf_fm_M_rule (by assumption) | with_reducible exact yf_fm_M_isSign (by assumption) | with_reducible exact yf_fm_M_isWord (by assumption) | with_reducible exact yf_fm_M_takeSign (by assumption) | with_reducible exact yf_fm_M_takeWord (by assumption) | with_reducible exact yf_fm_M_needSign (by assumption) | with_reducible exact yf_fm_M_needWord (by assumption) | with_reducible exact yf_fm_M_opens (by assumption) | with_reducible exact yf_fm_M_boundIn (by assumption) | with_reducible exact yf_fr_M_found (by assumption) | with_reducible exact yf_fm_M_bind (by assumption) | with_reducible exact yf_fm_M_isUnderscore (by assumption) | with_reducible exact yf_fm_M_unbind (by assumption) | with_reducible exact yf_fm_M_term (by assumption) | with_reducible exact yf_fm_M_namePattern (by assumption) | with_reducible exact yf_fr_M_patternAt (by assumption) | with_reducible exact yf_fm_M_beginsUnit (by assumption) | with_reducible exact yf_fm_M_save (by assumption) | with_reducible exact yf_fm_M_addRoot (by assumption) | with_reducible exact yf_fm_M_level (by assumption) | with_reducible exact yf_fm_M_reduce (by assumption) | with_reducible exact yf_fm_M_takeBack (by assumption) | with_reducible exact yf_fm_M_forgetSaved (by assumption) | with_reducible exact yf_fr_M_last (by assumption) | with_reducible exact yf_fr_M_clause (by assumption) | with_reducible exact yf_fm_M_predefinedOf (by assumption) | with_reducible exact yf_fm_M_function0 (by assumption) | with_reducible exact yf_fm_M_program (by assumption) | with_reducible exact hF0 _ (by assumption) | with_reducible exact hF1 _ _ (by assumption) | with_reducible exact hF2 _ _ _ (by assumption) | with_reducible exact hF3 _ _ _ (by assumption) | with_reducible exact hF4 _ (by assumption) | with_reducible exact hF5 _ _ (by assumption) | with_reducible exact hF6 _ _ (by assumption) | with_reducible exact hF7 _ _ (by assumption) | with_reducible exact hF8 _ _ (by assumption) | with_reducible exact hF9 _ (by assumption) | with_reducible exact hF10 _ (by assumption) | with_reducible exact hF11 _ (by assumption) | with_reducible exact hF12 _ (by assumption) | with_reducible exact hF13 _ (by assumption) | with_reducible exact hF14 _ (by assumption) | with_reducible exact hF15 _ (by assumption) | with_reducible exact hF16 _ _ (by assumption) | with_reducible exact yf_fb_M_worked_334 (by assumption) hF0 hF1 hF2 hF3 hF4 hF5 hF6 hF7 hF8 hF9 hF10 hF11 hF12 hF13 hF14 hF15 hF16 (yf_gg_M_worked hF0 hF1 hF2 hF3 hF4 hF5 hF6 hF7 hF8 hF9 hF10 hF11 hF12 hF13 hF14 hF15 hF16 _).1 (yf_gg_M_worked hF0 hF1 hF2 hF3 hF4 hF5 hF6 hF7 hF8 hF9 hF10 hF11 hF12 hF13 hF14 hF15 hF16 _).2 | with_reducible exact yf_fb_M_worked_331 (by assumption) hF0 hF1 hF2 hF3 hF4 hF5 hF6 hF7 hF8 hF9 hF10 hF11 hF12 hF13 hF14 hF15 hF16 (yf_gg_M_worked hF0 hF1 hF2 hF3 hF4 hF5 hF6 hF7 hF8 hF9 hF10 hF11 hF12 hF13 hF14 hF15 hF16 _).1 (yf_gg_M_worked hF0 hF1 hF2 hF3 hF4 hF5 hF6 hF7 hF8 hF9 hF10 hF11 hF12 hF13 hF14 hF15 hF16 _).2 | with_reducible exact yf_fb_M_worked_292 (by assumption) hF0 hF1 hF2 hF3 hF4 hF5 hF6 hF7 hF8 hF9 hF10 hF11 hF12 hF13 hF14 hF15 hF16 (yf_gg_M_worked hF0 hF1 hF2 hF3 hF4 hF5 hF6 hF7 hF8 hF9 hF10 hF11 hF12 hF13 hF14 hF15 hF16 _).1 (yf_gg_M_worked hF0 hF1 hF2 hF3 hF4 hF5 hF6 hF7 hF8 hF9 hF10 hF11 hF12 hF13 hF14 hF15 hF16 _).2 | with_reducible exact yf_fb_M_worked_269 (by assumption) hF0 hF1 hF2 hF3 hF4 hF5 hF6 hF7 hF8 hF9 hF10 hF11 hF12 hF13 hF14 hF15 hF16 (yf_gg_M_worked hF0 hF1 hF2 hF3 hF4 hF5 hF6 hF7 hF8 hF9 hF10 hF11 hF12 hF13 hF14 hF15 hF16 _).1 (yf_gg_M_worked hF0 hF1 hF2 hF3 hF4 hF5 hF6 hF7 hF8 hF9 hF10 hF11 hF12 hF13 hF14 hF15 hF16 _).2 | with_reducible exact yf_fb_M_worked_243 (by assumption) hF0 hF1 hF2 hF3 hF4 hF5 hF6 hF7 hF8 hF9 hF10 hF11 hF12 hF13 hF14 hF15 hF16 (yf_gg_M_worked hF0 hF1 hF2 hF3 hF4 hF5 hF6 hF7 hF8 hF9 hF10 hF11 hF12 hF13 hF14 hF15 hF16 _).1 (yf_gg_M_worked hF0 hF1 hF2 hF3 hF4 hF5 hF6 hF7 hF8 hF9 hF10 hF11 hF12 hF13 hF14 hF15 hF16 _).2 | with_reducible exact yf_fb_M_worked_189 (by assumption) hF0 hF1 hF2 hF3 hF4 hF5 hF6 hF7 hF8 hF9 hF10 hF11 hF12 hF13 hF14 hF15 hF16 (yf_gg_M_worked hF0 hF1 hF2 hF3 hF4 hF5 hF6 hF7 hF8 hF9 hF10 hF11 hF12 hF13 hF14 hF15 hF16 _).1 (yf_gg_M_worked hF0 hF1 hF2 hF3 hF4 hF5 hF6 hF7 hF8 hF9 hF10 hF11 hF12 hF13 hF14 hF15 hF16 _).2 | with_reducible exact yf_fb_M_worked_141 (by assumption) hF0 hF1 hF2 hF3 hF4 hF5 hF6 hF7 hF8 hF9 hF10 hF11 hF12 hF13 hF14 hF15 hF16 (yf_gg_M_worked hF0 hF1 hF2 hF3 hF4 hF5 hF6 hF7 hF8 hF9 hF10 hF11 hF12 hF13 hF14 hF15 hF16 _).1 (yf_gg_M_worked hF0 hF1 hF2 hF3 hF4 hF5 hF6 hF7 hF8 hF9 hF10 hF11 hF12 hF13 hF14 hF15 hF16 _).2 | with_reducible exact yf_fb_M_worked_129 (by assumption) hF0 hF1 hF2 hF3 hF4 hF5 hF6 hF7 hF8 hF9 hF10 hF11 hF12 hF13 hF14 hF15 hF16 (yf_gg_M_worked hF0 hF1 hF2 hF3 hF4 hF5 hF6 hF7 hF8 hF9 hF10 hF11 hF12 hF13 hF14 hF15 hF16 _).1 (yf_gg_M_worked hF0 hF1 hF2 hF3 hF4 hF5 hF6 hF7 hF8 hF9 hF10 hF11 hF12 hF13 hF14 hF15 hF16 _).2 | with_reducible exact yf_fb_M_worked_109 (by assumption) hF0 hF1 hF2 hF3 hF4 hF5 hF6 hF7 hF8 hF9 hF10 hF11 hF12 hF13 hF14 hF15 hF16 (yf_gg_M_worked hF0 hF1 hF2 hF3 hF4 hF5 hF6 hF7 hF8 hF9 hF10 hF11 hF12 hF13 hF14 hF15 hF16 _).1 (yf_gg_M_worked hF0 hF1 hF2 hF3 hF4 hF5 hF6 hF7 hF8 hF9 hF10 hF11 hF12 hF13 hF14 hF15 hF16 _).2 | with_reducible exact yf_fb_M_worked_102 (by assumption) hF0 hF1 hF2 hF3 hF4 hF5 hF6 hF7 hF8 hF9 hF10 hF11 hF12 hF13 hF14 hF15 hF16 (yf_gg_M_worked hF0 hF1 hF2 hF3 hF4 hF5 hF6 hF7 hF8 hF9 hF10 hF11 hF12 hF13 hF14 hF15 hF16 _).1 (yf_gg_M_worked hF0 hF1 hF2 hF3 hF4 hF5 hF6 hF7 hF8 hF9 hF10 hF11 hF12 hF13 hF14 hF15 hF16 _).2 | with_reducible exact yf_fb_M_worked_45 (by assumption) hF0 hF1 hF2 hF3 hF4 hF5 hF6 hF7 hF8 hF9 hF10 hF11 hF12 hF13 hF14 hF15 hF16 (yf_gg_M_worked hF0 hF1 hF2 hF3 hF4 hF5 hF6 hF7 hF8 hF9 hF10 hF11 hF12 hF13 hF14 hF15 hF16 _).1 (yf_gg_M_worked hF0 hF1 hF2 hF3 hF4 hF5 hF6 hF7 hF8 hF9 hF10 hF11 hF12 hF13 hF14 hF15 hF16 _).2 | with_reducible exact yf_fb_M_worked_20 (by assumption) hF0 hF1 hF2 hF3 hF4 hF5 hF6 hF7 hF8 hF9 hF10 hF11 hF12 hF13 hF14 hF15 hF16 (yf_gg_M_worked hF0 hF1 hF2 hF3 hF4 hF5 hF6 hF7 hF8 hF9 hF10 hF11 hF12 hF13 hF14 hF15 hF16 _).1 (yf_gg_M_worked hF0 hF1 hF2 hF3 hF4 hF5 hF6 hF7 hF8 hF9 hF10 hF11 hF12 hF13 hF14 hF15 hF16 _).2 | with_reducible exact yf_fb_M_worked_9 (by assumption) hF0 hF1 hF2 hF3 hF4 hF5 hF6 hF7 hF8 hF9 hF10 hF11 hF12 hF13 hF14 hF15 hF16 (yf_gg_M_worked hF0 hF1 hF2 hF3 hF4 hF5 hF6 hF7 hF8 hF9 hF10 hF11 hF12 hF13 hF14 hF15 hF16 _).1 (yf_gg_M_worked hF0 hF1 hF2 hF3 hF4 hF5 hF6 hF7 hF8 hF9 hF10 hF11 hF12 hF13 hF14 hF15 hF16 _).2 | with_reducible exact yf_fb_M_worked_0 (by assumption) hF0 hF1 hF2 hF3 hF4 hF5 hF6 hF7 hF8 hF9 hF10 hF11 hF12 hF13 hF14 hF15 hF16 (yf_gg_M_worked hF0 hF1 hF2 hF3 hF4 hF5 hF6 hF7 hF8 hF9 hF10 hF11 hF12 hF13 hF14 hF15 hF16 _).1 (yf_gg_M_worked hF0 hF1 hF2 hF3 hF4 hF5 hF6 hF7 hF8 hF9 hF10 hF11 hF12 hF13 hF14 hF15 hF16 _).2 | with_reducible exact (yf_gg_M_worked hF0 hF1 hF2 hF3 hF4 hF5 hF6 hF7 hF8 hF9 hF10 hF11 hF12 hF13 hF14 hF15 hF16 _).1 _ _ _ _ (by assumption) | with_reducible exact (yf_gg_M_worked hF0 hF1 hF2 hF3 hF4 hF5 hF6 hF7 hF8 hF9 hF10 hF11 hF12 hF13 hF14 hF15 hF16 _).2 _ _ (by assumption) | with_reducible exact (yf_gg_M_worked hF0 hF1 hF2 hF3 hF4 hF5 hF6 hF7 hF8 hF9 hF10 hF11 hF12 hF13 hF14 hF15 hF16 _).2 _ _ _ _ (by assumption) | with_reducible refine Kf_ltv (fun _ => ?_) | with_reducible refine Kf_I ?_ (by decide) | with_reducible refine Kf_A ?_ | with_reducible refine Kf_J ?_ | with_reducible refine Kf_L ?_)
theorem un_ex {kd : Nat} {ε : Int32} (hkd : (kd = 17 ∧ K p = 34) ∨ (kd = 18 ∧ K p = 14)) (t4 : T ≤ 4000) (hl : p < T) (hn2 : n ≤ 2 * p) (ho : o + 1 < 25) (h : RLP m0 w0 T p m w) (hi : ∀ k, k ≠ 69 → k ≠ 70 → k ≠ 83 → w'.1 k = w.1 k) (hr : ∀ k, k ≠ 79 → k ≠ 80 → w'.2.2.1 k = w.2.2.1 k) (hj : ∀ k j, j ≠ t0 → w'.2.2.1 k j = w.2.2.1 k j) (h83 : w.1 83 = I (t0 : Nat)) (ht : t0 < 3000) (h83' : w'.1 83 = I ((t0 + 1 : Nat) : Int)) (hE : EXZ N m0 w0 K T nm Nk (p + 1) n gd sc (o + 1) NC0 (upI (advc m p) 666 (m.1 666 + 1)) w' m2 (.inl ε) (bkW w' w2) r) : ∃ (n2 μ : Nat), ε = I (μ : Nat) ∧ m2.1 306 = I (n2 : Nat) ∧ n2 + 1 < 8016 ∧ EXZ N m0 w0 K T nm Nk p n gd sc o NC0 m w (upI (adN m2 n2 (I (kd : Nat)) (I (p : Nat)) (I (μ : Nat)) 0 0) 666 ((adN m2 n2 (I (kd : Nat)) (I (p : Nat)) (I (μ : Nat)) 0 0).1 666 - 1)) (.inl (I ((n2 + 1 : Nat) : Int))) (bkW w w2) r := by
  obtain ⟨p2, n2, μ, sc2, X, W, Rf, Zf, CL, a1, a2, a3, a4, a5, a6, a7, kk, k1, k2, k3, k4, k5⟩ := hE
  obtain ⟨b1, b2, b3, b4, b5, b6, b7⟩ := a4
  have p2T := b1.2.2.2.2.1
  refine ⟨n2, μ, a1, b2.2.1, by omega, ?_⟩
  have Ai : ∀ k, k ≠ 306 → (adN m2 n2 (I (kd : Nat)) (I (p : Nat)) (I (μ : Nat)) 0 0).1 k = m2.1 k := fun k hk => adN_i hk
  have A3 : (adN m2 n2 (I (kd : Nat)) (I (p : Nat)) (I (μ : Nat)) 0 0).1 306 = I ((n2 + 1 : Nat) : Int) := adN_n
  have Ao := adN_o (m := m2) (n := n2) (a := I (kd : Nat)) (b := I (p : Nat)) (c := I (μ : Nat)) (d := 0) (f := 0)
  have An := adN_nod (m := m2) (n := n2) (a := I (kd : Nat)) (b := I (p : Nat)) (c := I (μ : Nat)) (d := 0) (f := 0)
  have kcA : Kcc m2 (adN m2 n2 (I (kd : Nat)) (I (p : Nat)) (I (μ : Nat)) 0 0) := ⟨fun k hk => adN_i (by omega), fun k hk => adN_r (by omega)⟩
  have pA : PCG (upI (advc m p) 666 (m.1 666 + 1)) (adN m2 n2 (I (kd : Nat)) (I (p : Nat)) (I (μ : Nat)) 0 0) := PCG_add b4
  generalize hA : adN m2 n2 (I (kd : Nat)) (I (p : Nat)) (I (μ : Nat)) 0 0 = A at Ai A3 Ao An kcA pA
  have m666 : m2.1 666 = m.1 666 + 1 := by rw [b4.1 666 (by decide), upI_at]
  have A666 : A.1 666 - 1 = m.1 666 := by rw [Ai 666 (by decide), m666, i_ps]
  have pF : PCG m (upI A 666 (A.1 666 - 1)) := PCG_tr (PCG_I (v := m) PCG_rf (Or.inr (Or.inr rfl))) (PCG_666 (m := advc m p) pA (by rw [A666]; unfold advc; rw [upI_ne (by decide)]))
  have gp : ∀ j, p ≤ j → j < p + 1 → K j ≠ 3 := fun j h1 h2 => by rw [show j = p by omega]; omega
  have koF : KPO n2 m2 (upI A 666 (A.1 666 - 1)) := fun j hj => Ao j hj
  have kcF : Kcc m2 (upI A 666 (A.1 666 - 1)) := ⟨fun k hk => by rw [upI_ne (by omega)]; exact kcA.1 k hk, kcA.2⟩
  have nF : nod (upI A 666 (A.1 666 - 1)) (n2 + 1) = (I (kd : Nat), I (p : Nat), I (μ : Nat), 0, 0) := An.1
  have st := STW_gap (p := p) (p2 := p2) (STW_un (w := w) b5 hi hr hj h83 ht h83') ⟨by omega, Nat.le_refl _⟩ gp (fun j h1 h2 => absurd h2 (by omega))
  have rl : RLP m0 w0 T p2 (upI A 666 (A.1 666 - 1)) (bkW w w2) := by
    obtain ⟨c1, c2, c3, c4, c5, c6, c7⟩ := b1
    refine ⟨Kc_tr h.1 (PCG_k pF), Kt_tr h.2.1 (WFE_k st.2.2.2.2.2.2.1), ?_, ?_, p2T, ?_, ?_⟩
    · rw [upI_ne (by decide), Ai 665 (by decide)]; exact c3
    · rw [bkW_i (by decide) (by decide)]; rw [bkW_i (by decide) (by decide)] at c4; exact c4
    · rw [upI_at, A666, bkW_70]; exact h.2.2.2.2.2.1
    · rw [bkW_i (by decide) (by decide)]; rw [bkW_i (by decide) (by decide)] at c7; exact c7
  refine ⟨p2, n2 + 1, n2 + 1, sc2, X, W, Rf, Zf, CL, rfl, ⟨by omega, Nat.le_refl _⟩, by omega, ⟨rl, ⟨by omega, by rw [upI_ne (by decide)]; exact A3, by omega, by omega⟩, KPO_tr b3 koF b2.2.2.1, pF, st, b6, b7⟩, An.2, ?_, ?_, kd, nod_16 nF, by omega, fun z => by omega, fun _ z => by omega, p, by omega, nod_17 nF⟩
  · exact exn_neg (k := kd) (μ := μ) (q := p + 1) (q2 := p2) (by omega) nF (by omega) (Nat.le_refl _) (by omega) ⟨by omega, by omega, Nat.le_refl _⟩ gp (fun j h1 h2 => absurd h2 (by omega)) a6 (Nat.le_refl _) koF kcF (by omega)
  · rcases hkd with ⟨rfl, hK⟩ | ⟨rfl, hK⟩
    · have e16 : (upI A 666 (A.1 666 - 1)).2.2.1 16 μ = I (kk : Nat) := (congrArg (fun z => z.1) (koF μ a2.2).1).trans k1
      exact PTX_neg (kk := kk) nF (by omega) (Nat.le_refl _) (by omega) ⟨a2.1, by omega⟩ e16 k2 hK hl (by omega) (fun z => ⟨(k3 z).1, by have := (k3 z).2.1; omega, (k3 z).2.2⟩) (fun z y => k4 z y)
    · exact PTX_no nF (by omega) (Nat.le_refl _) (by omega) (by decide) (by decide) (by decide) (by rw [hK]; rfl)
end
end
section
set_option maxRecDepth 100000
section
variable {m0 w0 m w v u mB wB m2 w2 m3 w3 mi w' : MS} {K nm Nk W W2 : Nat → Nat} {T p n N q X Y n2 p0 n0 n3 p2 ν μ κ o s L d D k q1 q2 lo li ni t0 : Nat} {sc sc1 sc2 sc3 t : SCT} {gd Rf Zf Rg Zg : Bool} {l : List Nat} {r v1 v2 v3 v4 v5 x y : Int32} {CL CM : Int32 × Int32 × Int32 → Prop} {NC : Nat → Prop} {B1 B2 BC : MS → Prop}
theorem un_pp {R : MS → Int32 ⊕ Nat → MS → Int32 → Prop} (c : CTZ m0 w0 K T nm Nk) (c45 : ∀ p, p ≤ T → K p ≠ 45) (hP : HPr N m0 w0 K T nm Nk d) (hW : ∀ m k w r, FLW w → R m (.inr k) w r) : ∀ (D M : Nat) (m w : MS) (p n : Nat) (sc : SCT) (o : Nat) (fC : MS → Int32 → Option (MS × (Int32 ⊕ Nat))), RLP m0 w0 T p m w → m.1 306 = I (n : Nat) → n ≤ 2 * p → RNs w sc → ND w → w.1 70 = I ((o + 1 : Nat) : Int) → o + 1 ≤ 25 → decide (w.1 73 = 0) = !gd → (∀ M2 m2 ε w2 r k, EXZ N m0 w0 K T nm Nk p n gd sc o NC0 m w m2 (.inl ε) (bkW w w2) r → UNS w w2 k → PP R (fC m2 ε) (wkR N (rc_M_behind N d) M2 v1 w2 r)) → PP R (bTm ((hrc_Pa_matched N D).2.2.2.2.2.2.2.2.2.2.2.2.1 m) fC) ((gg_M_worked N (rc_M_behind N d) M).2 w v1) := by
  intro D
  induction D with
  | zero => intros; exact pp_nl
  | succ D ih =>
    intro M m w p n sc o fC h hn hn2 hR nd h70 ho hg hC
    cases M with
    | zero => exact pp_nr
    | succ M =>
      show PP R (bTm (hb_Pa_unit_0 N (hrc_Pa_matched N D) () m) fC) (fb_M_worked_20 N (rc_M_behind N d) (gg_M_worked N (rc_M_behind N d) M) w v1)
      have hc := RLP_c c h
      have hw := RLP_w c h
      have t4 := c.1.1.1
      have pT := h.2.2.2.2.1
      have h0 := h.2.2.2.2.2.2
      have k46 := hc.1.1.k46 hc.2.2
      unfold hb_Pa_unit_0 fb_M_worked_20
      rw [look_e hc (c45 p pT), bTm_l, decide_eq_true h0, br_tq, isS_e (k := 34) (s := 19) hw (by decide) rfl, bnd_s, isV_e (k := 14) (s := 9) hw (by decide) rfl, bnd_s, I_dn (a := K p) (b := 34) (s := 34) (by omega) (by decide) rfl, I_dn (a := K p) (b := 14) (s := 14) (by omega) (by decide) rfl]
      have pre : ∀ kd : Nat, ((kd = 17 ∧ K p = 34) ∨ (kd = 18 ∧ K p = 14)) → PP R (bTm (hb_Pa_unit_26 N (hrc_Pa_matched N D) () m (I (K p : Nat))) fC) (fb_M_worked_45 N (rc_M_behind N d) (gg_M_worked N (rc_M_behind N d) M) w v1) := fun kd hkd => by
        have hl : p < T := TWK_lt c pT (by omega) (by omega)
        have hc1 : CP (advc m p) K T (p + 1) := advc_p hc hl
        have k461 := hc1.1.1.k46 hc1.2.2
        unfold hb_Pa_unit_26 fb_M_worked_45
        refine r_ck (fun z83 => ?_)
        obtain ⟨t0, h83, ht⟩ := inb_N z83
        have l79 : ln 79 = 3000 := rfl
        rw [l79] at ht
        refine r_lt (r_ck (fun _ => r_lt (r_lt (r_lt ?_))))
        rw [h83, tnI (n := t0) rfl (by omega)]
        generalize hw18 : upA (upA w 79 (upd (w.2.2.1 79) t0 (vp_nar .byte 7))) 80 _ = w18
        have i18 : ∀ k, w18.1 k = w.1 k := fun k => by rw [← hw18]; rfl
        have r18 : ∀ k, k ≠ 79 → k ≠ 80 → w18.2.2.1 k = w.2.2.1 k := fun k h1 h2 => by rw [← hw18, upA_no h2, upA_no h1]
        have j18 : ∀ k j, j ≠ t0 → w18.2.2.1 k j = w.2.2.1 k j := fun k j hj => by
          rw [← hw18]
          by_cases e80 : k = 80
          · subst e80
            rw [upA_at]
            have e83 : ((upA w 79 (upd (w.2.2.1 79) t0 (vp_nar .byte 7))).1 83).toNatClampNeg = t0 := by
              show (w.1 83).toNatClampNeg = t0
              rw [h83]; exact tnI rfl (by omega)
            rw [e83, upd_no hj, upA_no (by decide)]
          · rw [upA_no e80]
            by_cases e79 : k = 79
            · subst e79; rw [upA_at, upd_no hj]
            · rw [upA_no e79]
        have s18 : w18.2.2.1 79 t0 = 7 := by rw [← hw18, upA_no (by decide), upA_at, upd_at]; decide
        clear hw18
        have e83 : w18.1 83 + 1 = I ((t0 + 1 : Nat) : Int) := by rw [i18 83, h83, i_suc]
        rw [e83]
        have e69 : (upI w18 83 (I ((t0 + 1 : Nat) : Int))).1 69 + 1 = I ((p + 1 : Nat) : Int) := by rw [upI_ne (by decide), i18 69, hw.2.1, i_suc]
        rw [e69]
        generalize hw20 : upI (upI w18 83 (I ((t0 + 1 : Nat) : Int))) 69 (I ((p + 1 : Nat) : Int)) = w20
        have i20 : ∀ k, k ≠ 69 → k ≠ 83 → w20.1 k = w.1 k := fun k h1 h2 => by rw [← hw20, upI_ne h1, upI_ne h2]; exact i18 k
        have r20 : w20.2.2.1 = w18.2.2.1 := by rw [← hw20]; rfl
        have w20p : WP w20 K T (p + 1) := WP_e hw (by rw [← hw20]; exact upI_at) hl (by rw [r20]; exact r18 6 (by decide) (by decide)) (by rw [r20]; exact r18 7 (by decide) (by decide))
        have w2083 : w20.1 83 = I ((t0 + 1 : Nat) : Int) := by rw [← hw20, upI_ne (by decide), upI_at]
        clear hw20
        rw [bTm_lt]
        refine l_lt ?_
        rw [hc.2.1, i_suc]
        show PP R (bTm (bTm (hm_Pa_look N (advc m p)) _) fC) _
        rw [look_e hc1 (c45 _ hl), bTm_l, bU_e k461, bnd_s, bU_m w20p, bnd_s]
        cases hb : bUK (K (p + 1)) with
        | false =>
          rw [show decide (b2c false = 0) = true from rfl, br_tq]
          refine pp_rf (RFS_T (RFS_T (opens_0 hc1))) (fun mm => ?_)
          exact pk_bnd (fun v r z => pk_mo (w45_f (wrong_s (u0 := v) (by decide) v r z)) (fun _ _ y => hW _ _ _ _ y))
        | true =>
          rw [show decide (b2c true = 0) = false from rfl, br_fq, show b2c true = 1 from rfl]
          unfold fb_M_worked_102
          by_cases hd : o + 1 < 25
          · have hm : (advc m p).1 666 < 25 := by
              unfold advc
              rw [upI_ne (by decide), h.2.2.2.2.2.1]
              exact I_25 h70 hd
            have hw25 : w20.1 70 < 25 := by rw [i20 70 (by decide) (by decide)]; exact I_25 h70 hd
            rw [opens_e hm, bTm_l, opn_e hw25, bnd_s]
            have em : (advc m p).1 666 = m.1 666 := by unfold advc; exact upI_ne (by decide)
            rw [em]
            generalize hw' : upI w20 70 (w20.1 70 + 1) = w'
            have iw' : ∀ k, k ≠ 69 → k ≠ 70 → k ≠ 83 → w'.1 k = w.1 k := fun k h1 h2 h3 => by rw [← hw', upI_ne h2]; exact i20 k h1 h3
            have w'70 : w'.1 70 = I ((o + 1 + 1 : Nat) : Int) := by rw [← hw', upI_at, i20 70 (by decide) (by decide), h70, i_suc]
            have w'83 : w'.1 83 = I ((t0 + 1 : Nat) : Int) := by rw [← hw', upI_ne (by decide)]; exact w2083
            have w'69 : w'.1 69 = I ((p + 1 : Nat) : Int) := by rw [← hw', upI_ne (by decide)]; exact w20p.2.1
            have rw' : w'.2.2.1 = w18.2.2.1 := by rw [← hw']; exact r20
            clear hw'
            have rl : RLP m0 w0 T (p + 1) (upI (advc m p) 666 (m.1 666 + 1)) w' := by
              refine ⟨⟨fun k hk => by rw [upI_ne (by omega)]; unfold advc; rw [upI_ne (by omega)]; exact h.1.1 k hk, h.1.2⟩, ⟨fun k hk => by rw [iw' k (by rintro rfl; revert hk; decide) (by rintro rfl; revert hk; decide) (by rintro rfl; revert hk; decide)]; exact h.2.1.1 k hk, fun k hk => by rw [rw', r18 k (by rintro rfl; revert hk; decide) (by rintro rfl; revert hk; decide)]; exact h.2.1.2 k hk⟩, by rw [upI_ne (by decide)]; unfold advc; exact upI_at, w'69, hl, ?_, by rw [iw' 67 (by decide) (by decide) (by decide)]; exact h0⟩
              rw [upI_at, h.2.2.2.2.2.1, h70, w'70, i_suc]
            have rn' : RNs w' sc := RNs_e hR (iw' 65 (by decide) (by decide) (by decide)) (fun k h1 h2 => by rw [rw', r18 k (by omega) (by omega)])
            have nd' : ND w' := by
              obtain ⟨a, x, y⟩ := nd
              exact ⟨a, by rw [iw' 32 (by decide) (by decide) (by decide)]; exact x, y⟩
            have inner : ∀ t1 : Int32, t1 = I (kd : Nat) → PP R (bTm (hb_Pa_unit_69 N (hrc_Pa_matched N D) () (upI (advc m p) 666 (m.1 666 + 1)) (I (p : Nat)) t1) fC) ((gg_M_worked N (rc_M_behind N d) M).2 w' v1) := fun t1 ht1 => by
              unfold hb_Pa_unit_69
              rw [bTm_as]
              refine ih M (upI (advc m p) 666 (m.1 666 + 1)) w' (p + 1) n sc (o + 1) _ rl (by rw [upI_ne (by decide)]; unfold advc; rw [upI_ne (by decide)]; exact hn) (by omega) rn' nd' w'70 (by omega) (by rw [iw' 73 (by decide) (by decide) (by decide)]; exact hg) (fun M2 m2 ε w2 r k hE hU => ?_)
              obtain ⟨n2, μ, e1, e2, e3, hE2⟩ := un_ex (w := w) (kd := kd) hkd t4 hl hn2 hd h iw' (fun k h1 h2 => by rw [rw']; exact r18 k h1 h2) (fun k j hj => by rw [rw']; exact j18 k j hj) h83 ht w'83 hE
              have hU : ∃ t1' : Nat, w'.1 83 = I (t1' : Nat) ∧ t1' + k ≤ 3000 ∧ w2.1 83 = I ((t1' + k : Nat) : Int) ∧ (∀ i, t1' ≤ i → i < t1' + k → w2.2.2.1 79 i = 7) ∧ ∃ δ : Nat, w'.1 70 = I (δ : Nat) ∧ δ + k ≤ 30 ∧ w2.1 70 = I ((δ + k : Nat) : Int) := by
                rcases hU with ⟨rfl, z1, z2⟩ | hU
                · exact ⟨t0 + 1, w'83, by omega, by rw [z1]; exact w'83, fun i i1 i2 => absurd i2 (by omega), o + 1 + 1, w'70, by omega, by rw [z2]; exact w'70⟩
                · exact hU
              obtain ⟨t1', u1, u2, u3, u4, δ, u5, u6, u7⟩ := hU
              have et : t1' = t0 + 1 := by
                have := u1.symm.trans w'83
                have := (I_eq (x := (t1' : Nat)) (y := ((t0 + 1 : Nat) : Int)) (by omega) (by omega) (by omega) (by omega)).mp this
                omega
              subst et
              have eδ : δ = o + 1 + 1 := by
                have := u5.symm.trans w'70
                have := (I_eq (x := (δ : Nat)) (y := ((o + 1 + 1 : Nat) : Int)) (by omega) (by omega) (by omega) (by omega)).mp this
                omega
              subst eδ
              rw [bnd_as, e1, ht1, add_e e2 e3, bnd_s, bTm_lt]
              refine l_lt ?_
              rw [bTm_l]
              refine hC M2 _ _ w2 r (k + 1) hE2 (Or.inr ⟨t0, h83, by omega, by rw [u3]; congr 2; omega, fun i i1 i2 => ?_, o + 1, h70, by omega, by rw [u7]; congr 2; omega⟩)
              by_cases z : i = t0
              · subst z
                obtain ⟨p2, n3, μ3, sc3, X, W, Rf, Zf, CL, a1, a2, a3, a4, -⟩ := hE
                have keep := a4.2.2.2.2.1.2.2.2.2.2.2.1.2.2.2.2 79 (by decide) (by decide) i (by rw [w'83, tnI (n := i + 1) rfl (by omega)]; omega)
                rw [bkW_r] at keep
                rw [keep, rw']; exact s18
              · exact u4 i (by omega) (by omega)
            rcases hkd with ⟨rfl, hK⟩ | ⟨rfl, hK⟩
            · rw [hK, show decide (I ((34 : Nat) : Int) = 34) = true from rfl, br_tq]
              exact inner 17 rfl
            · rw [hK, show decide (I ((14 : Nat) : Int) = 34) = false from rfl, br_fq]
              exact inner 18 rfl
          · have hm : ¬ (advc m p).1 666 < 25 := by
              unfold advc
              rw [upI_ne (by decide), h.2.2.2.2.2.1, h70, show (25 : Int32) = I ((25 : Nat) : Int) from rfl, I_lt (by omega) (by omega) (by omega) (by omega)]
              omega
            have hw25 : ¬ w20.1 70 < 25 := by
              rw [i20 70 (by decide) (by decide), h70, show (25 : Int32) = I ((25 : Nat) : Int) from rfl, I_lt (by omega) (by omega) (by omega) (by omega)]
              omega
            refine pp_rf (RFS_T (RFS_T (opens_x hc1 hm))) (fun mm => ?_)
            exact pk_bnd (pk_mo (opn_x hw25) (fun v _ z => pk_mo (wG2_f z) (fun _ _ y => hW _ _ _ _ y)))
      by_cases k34 : K p = 34
      · rw [decide_eq_true k34, br_tq, if_pos k34, show decide ((1 : Int32) = 0) = false from rfl, br_fq]
        exact pre 17 (Or.inl ⟨rfl, k34⟩)
      · rw [decide_eq_false k34, br_fq, if_neg k34, show decide ((0 : Int32) = 0) = true from rfl, br_tq]
        by_cases k14 : K p = 14
        · rw [decide_eq_true k14, br_tq, if_pos k14, show decide ((1 : Int32) = 0) = false from rfl, br_fq]
          exact pre 18 (Or.inr ⟨rfl, k14⟩)
        · rw [decide_eq_false k14, br_fq, if_neg k14, show decide ((0 : Int32) = 0) = true from rfl, br_tq]
          unfold fb_M_worked_109
          cases D with
          | zero => exact pp_nl
          | succ D =>
            show PP R (bTm (bTm (hm_Pa_primary N (hrc_Pa_matched N D) m) (fun u14 r14 => bTm (hm_Pa_applied N (hrc_Pa_matched N D) u14 r14) (fun u15 r15 => some (u15, .inl r15)))) fC) (bnd ((rc_M_behind N d).2.2.2.2.2.2.2.2.2.2.1 w) (fun u14 r14 => wkR N (rc_M_behind N d) M v1 u14 r14))
            have e : (fun (u14 : MS) (r14 : Int32) => bTm (hm_Pa_applied N (hrc_Pa_matched N D) u14 r14) (fun u15 r15 => some (u15, (.inl r15 : Int32 ⊕ Nat)))) = fun u r => hm_Pa_applied N (hrc_Pa_matched N D) u r := by
              funext u r
              exact bTm_id
            rw [e]
            refine pp_bTn (hP D m w p n sc gd o h hn hn2 hR nd h70 ho hg) (fun m2 ε w2 r2 q => ?_) (fun m2 kk w2 r2 q => pk_mo (wkR_f q) (fun _ _ y => hW _ _ _ _ y))
            obtain ⟨p2, n3, μ3, sc3, X, W, Rf, Zf, CL, a1, a2, a3, a4, a5⟩ := id q
            have wf := a4.2.2.2.2.1.2.2.2.2.2.2.1.1
            have e2 : bkW w w2 = w2 := by
              unfold bkW
              rw [upI_id (k := 83) (wf 83 (by decide)), upI_id (k := 70) (wf 70 (by decide))]
            exact hC M m2 ε w2 r2 0 (by rw [e2]; exact q) (Or.inl ⟨rfl, wf 83 (by decide), wf 70 (by decide)⟩)
end
end
section
set_option maxRecDepth 100000
def SGE (N : Nat) (K nm : Nat → Nat) (gd : Bool) (m2 : MS) (lo n2 : Nat) (W : Nat → Nat) : List Nat → Int32 → Int32 → Nat → Nat → SCT → SCT → Nat → Bool → Bool → (MS → Prop) → Int32 → Int32 → Prop
  | [], am, om, p, p2, sc, sc2, X, Rf, Zf, BC, am2, om2 => (p = p2 ∧ sc2 = sc ∧ X = 0 ∧ Rf = false ∧ Zf = false ∧ ∀ m, ¬ BC m) ∧ am2 = am ∧ om2 = om
  | ν :: l, am, om, p, p2, sc, sc2, X, Rf, Zf, BC, am2, om2 => (lo < ν ∧ ν ≤ n2) ∧ m2.2.2.1 21 ν = I ((l.headD 0 : Nat) : Int) ∧ ((∃ q q2 sc1 X1 X2 R1 R2 Z1 Z2 B1 B2, (p ≤ q ∧ q ≤ q2 ∧ q2 ≤ p2) ∧ (∀ j, p ≤ j → j < q → K j ≠ 3) ∧ (∃ mi li ni k, EXN N K nm gd mi li ni ν q q2 sc sc1 X1 W R1 Z1 B1 ∧ KPX li ni ν mi m2 ∧ (lo ≤ li ∧ ni ≤ n2) ∧ (m2.2.2.1 16 ν = I (k : Nat) ∧ k < 23) ∧ (li < ν ∧ ν ≤ ni) ∧ (l ≠ [] → ni < l.headD 0)) ∧ (tot sc1 ≤ tot sc + (q2 - q) ∧ sc1.length = sc.length ∧ X1 ≤ 1400) ∧ SGE N K nm gd m2 lo n2 W l am om q2 p2 sc1 sc2 X2 R2 Z2 B2 am2 om2 ∧ X = max X1 X2 ∧ Rf = (R1 || R2) ∧ Zf = (Z1 || Z2) ∧ (∀ m, BC m ↔ B1 m ∨ B2 m) ∧ STB B2) ∨ (m2.2.2.1 16 ν = I ((24 : Nat) : Int) ∧ (l ≠ [] → ν < l.headD 0) ∧ ((m2.2.2.1 18 ν = I ((6 : Nat) : Int) ∧ SGE N K nm gd m2 lo n2 W l (I (tot sc : Nat)) om p p2 sc sc2 X Rf Zf BC am2 om2) ∨ (m2.2.2.1 18 ν = I ((16 : Nat) : Int) ∧ SGE N K nm gd m2 lo n2 W l am (I (tot sc : Nat)) p p2 sc sc2 X Rf Zf BC am2 om2))) ∨ (m2.2.2.1 16 ν = I ((23 : Nat) : Int) ∧ (l ≠ [] → ν < l.headD 0) ∧ ∃ k : Nat, m2.2.2.1 18 ν = I (k : Nat) ∧ k < 46 ∧ (((k = 6 ∨ k = 16) ∧ ∃ b e1 t1, sc = e1 :: t1 ∧ b ≤ e1.1.length ∧ (if k = 6 then am else om) = I ((tot t1 + b : Nat) : Int) ∧ SGE N K nm gd m2 lo n2 W l am om p p2 (cutS b sc) sc2 X Rf Zf BC am2 om2) ∨ ((k ≠ 6 ∧ k ≠ 16) ∧ ∃ tk R2, m2.2.2.1 17 ν = I (tk : Nat) ∧ tk ≤ 4000 ∧ SGE N K nm gd m2 lo n2 W l am om p p2 sc sc2 X R2 Zf BC am2 om2 ∧ Rf = ((gd && decide (k = 43 ∨ k = 44)) || R2)))))
section
variable {m0 w0 m w v u mB wB m2 w2 m3 w3 mi w' : MS} {K nm Nk W W2 : Nat → Nat} {T p n N q X Y n2 p0 n0 n3 p2 ν μ κ o s L d D k q1 q2 lo li ni t0 b : Nat} {sc sc1 sc2 sc3 t t2 : SCT} {e e2 : List Nat × List Nat × Nat} {gd Rf Zf Rg Zg : Bool} {l : List Nat} {r v1 v2 v3 v4 v5 x y am om am2 om2 : Int32} {CL CM : Int32 × Int32 × Int32 → Prop} {NC : Nat → Prop} {B1 B2 BC : MS → Prop}
theorem SGE_W : ∀ {l : List Nat} {am om : Int32} {p p2 : Nat} {sc sc2 : SCT} {X : Nat} {Rf Zf : Bool} {BC : MS → Prop}, SGE N K nm gd m2 lo n2 W l am om p p2 sc sc2 X Rf Zf BC am2 om2 → SGW N K nm gd m2 lo n2 W l am om p p2 sc sc2 X Rf Zf BC
  | [], _, _, _, _, _, _, _, _, _, _, h => h.1
  | ν :: l, am, om, p, p2, sc, sc2, X, Rf, Zf, BC, ⟨h1, h2, h3⟩ => by
    refine ⟨h1, h2, ?_⟩
    rcases h3 with ⟨q, q2, sc1, X1, X2, R1, R2, Z1, Z2, B1, B2, a1, a2, ⟨mi, li, ni, k, b1, b2, b3, b4, -⟩, a4, a5, a6⟩ | ⟨a1, -, a2⟩ | ⟨a1, -, k, a2, a3, a4⟩
    · exact Or.inl ⟨q, q2, sc1, X1, X2, R1, R2, Z1, Z2, B1, B2, a1, a2, ⟨mi, li, ni, k, b1, b2, b3, b4⟩, a4, SGE_W a5, a6⟩
    · refine Or.inr (Or.inl ⟨a1, ?_⟩)
      rcases a2 with ⟨x, y⟩ | ⟨x, y⟩
      · exact Or.inl ⟨x, SGE_W y⟩
      · exact Or.inr ⟨x, SGE_W y⟩
    · refine Or.inr (Or.inr ⟨a1, k, a2, a3, ?_⟩)
      rcases a4 with ⟨x, b, e1, t1, y1, y2, y3, y4⟩ | ⟨x, tk, R2, y1, y2, y3, y4⟩
      · exact Or.inl ⟨x, b, e1, t1, y1, y2, y3, SGE_W y4⟩
      · exact Or.inr ⟨x, tk, R2, y1, y2, SGE_W y3, y4⟩
theorem SGE_len (h : SGE N K nm gd m2 lo n2 W l am om p p2 sc sc2 X Rf Zf BC am2 om2) : p ≤ p2 ∧ tot sc2 ≤ tot sc + (p2 - p) ∧ sc2.length = sc.length := SGW_len (SGE_W h)
theorem SGE_bc (hb : ∀ m, B2 m ↔ B1 m) : ∀ {l : List Nat} {am om : Int32} {p p2 : Nat} {sc sc2 : SCT} {X : Nat} {Rf Zf : Bool}, SGE N K nm gd m2 lo n2 W l am om p p2 sc sc2 X Rf Zf B1 am2 om2 → SGE N K nm gd m2 lo n2 W l am om p p2 sc sc2 X Rf Zf B2 am2 om2
  | [], _, _, _, _, _, _, _, _, _, h => ⟨⟨h.1.1, h.1.2.1, h.1.2.2.1, h.1.2.2.2.1, h.1.2.2.2.2.1, fun m z => h.1.2.2.2.2.2 m ((hb m).mp z)⟩, h.2⟩
  | ν :: l, am, om, p, p2, sc, sc2, X, Rf, Zf, ⟨h1, h2, h3⟩ => by
    refine ⟨h1, h2, ?_⟩
    rcases h3 with ⟨q, q2, sc1, X1, X2, R1, R2, Z1, Z2, D1, D2, a1, a2, a3, a4, a5, a6, a7, a8, a9, a10⟩ | ⟨a1, a0, a2⟩ | ⟨a1, a0, k, a2, a3, a4⟩
    · exact Or.inl ⟨q, q2, sc1, X1, X2, R1, R2, Z1, Z2, D1, D2, a1, a2, a3, a4, a5, a6, a7, a8, fun m => (hb m).trans (a9 m), a10⟩
    · refine Or.inr (Or.inl ⟨a1, a0, ?_⟩)
      rcases a2 with ⟨x, y⟩ | ⟨x, y⟩
      · exact Or.inl ⟨x, SGE_bc hb y⟩
      · exact Or.inr ⟨x, SGE_bc hb y⟩
    · refine Or.inr (Or.inr ⟨a1, a0, k, a2, a3, ?_⟩)
      rcases a4 with ⟨x, b, e1, t1, y1, y2, y3, y4⟩ | ⟨x, tk, R2, y1, y2, y3, y4⟩
      · exact Or.inl ⟨x, b, e1, t1, y1, y2, y3, SGE_bc hb y4⟩
      · exact Or.inr ⟨x, tk, R2, y1, y2, SGE_bc hb y3, y4⟩
theorem SGE_w : ∀ {l : List Nat} {am om : Int32} {p p2 : Nat} {sc sc2 : SCT} {X : Nat} {Rf Zf : Bool} {BC : MS → Prop}, (∀ j, p ≤ j → j < p2 → W2 j = W j) → SGE N K nm gd m2 lo n2 W l am om p p2 sc sc2 X Rf Zf BC am2 om2 → SGE N K nm gd m2 lo n2 W2 l am om p p2 sc sc2 X Rf Zf BC am2 om2
  | [], _, _, _, _, _, _, _, _, _, _, _, h => h
  | ν :: l, am, om, p, p2, sc, sc2, X, Rf, Zf, BC, hw, ⟨h1, h2, h3⟩ => by
    refine ⟨h1, h2, ?_⟩
    rcases h3 with ⟨q, q2, sc1, X1, X2, R1, R2, Z1, Z2, D1, D2, a1, a2, ⟨mi, li, ni, k, b1, b2⟩, a4, a5, a6⟩ | ⟨a1, a0, a2⟩ | ⟨a1, a0, k, a2, a3, a4⟩
    · have := (SGE_len a5).1
      exact Or.inl ⟨q, q2, sc1, X1, X2, R1, R2, Z1, Z2, D1, D2, a1, a2, ⟨mi, li, ni, k, EXN_w (fun j x y => hw j (by omega) (by omega)) b1, b2⟩, a4, SGE_w (fun j x y => hw j (by omega) y) a5, a6⟩
    · refine Or.inr (Or.inl ⟨a1, a0, ?_⟩)
      rcases a2 with ⟨x, y⟩ | ⟨x, y⟩
      · exact Or.inl ⟨x, SGE_w hw y⟩
      · exact Or.inr ⟨x, SGE_w hw y⟩
    · refine Or.inr (Or.inr ⟨a1, a0, k, a2, a3, ?_⟩)
      rcases a4 with ⟨x, b, e1, t1, y1, y2, y3, y4⟩ | ⟨x, tk, R2, y1, y2, y3, y4⟩
      · exact Or.inl ⟨x, b, e1, t1, y1, y2, y3, SGE_w hw y4⟩
      · exact Or.inr ⟨x, tk, R2, y1, y2, SGE_w hw y3, y4⟩
theorem SGE_hd : ∀ {l : List Nat} {am om : Int32} {p p2 : Nat} {sc sc2 : SCT} {X : Nat} {Rf Zf : Bool} {BC : MS → Prop}, SGE N K nm gd m2 lo n2 W l am om p p2 sc sc2 X Rf Zf BC am2 om2 → l ≠ [] → l.headD 0 ≤ l.getLastD 0 ∧ lo < l.headD 0 ∧ l.getLastD 0 ≤ n2
  | [], _, _, _, _, _, _, _, _, _, _, _, h => absurd rfl h
  | [ν], _, _, _, _, _, _, _, _, _, _, ⟨h1, _⟩, _ => ⟨Nat.le_refl _, h1.1, h1.2⟩
  | ν :: μ :: l, am, om, p, p2, sc, sc2, X, Rf, Zf, BC, ⟨h1, h2, h3⟩, _ => by
    have key : ∀ {am om : Int32} {p p2 : Nat} {sc sc2 : SCT} {X : Nat} {Rf Zf : Bool} {BC : MS → Prop}, SGE N K nm gd m2 lo n2 W (μ :: l) am om p p2 sc sc2 X Rf Zf BC am2 om2 → ν < μ → (ν :: μ :: l).headD 0 ≤ (ν :: μ :: l).getLastD 0 ∧ lo < (ν :: μ :: l).headD 0 ∧ (ν :: μ :: l).getLastD 0 ≤ n2 := fun hh c => by
      obtain ⟨r1, r2, r3⟩ := SGE_hd hh (fun z => by cases z)
      have r1 : μ ≤ (μ :: l).getLastD 0 := r1
      refine ⟨?_, h1.1, r3⟩
      show ν ≤ (μ :: l).getLastD 0
      omega
    rcases h3 with ⟨q, q2, sc1, X1, X2, R1, R2, Z1, Z2, D1, D2, a1, a2, ⟨mi, li, ni, k, b1, b2, b3, b4, b5, b6⟩, a4, a5, a6⟩ | ⟨a1, a0, a2⟩ | ⟨a1, a0, k, a2, a3, a4⟩
    · have : ni < μ := b6 (fun z => by cases z)
      exact key a5 (by omega)
    · have c : ν < μ := a0 (fun z => by cases z)
      rcases a2 with ⟨x, y⟩ | ⟨x, y⟩
      · exact key y c
      · exact key y c
    · have c : ν < μ := a0 (fun z => by cases z)
      rcases a4 with ⟨x, b, e1, t1, y1, y2, y3, y4⟩ | ⟨x, tk, R2, y1, y2, y3, y4⟩
      · exact key y4 c
      · exact key y3 c
theorem SGE_app {l2 : List Nat} {sc3 : SCT} {Rg Zg : Bool} {BD : MS → Prop} {am3 om3 : Int32} (hn : n2 ≤ n3) (hk : Kcc m2 m3) (hl2 : l2 ≠ [] → n2 < l2.headD 0) (hst : STB BD) (hlo : lo ≤ n2) : ∀ {l : List Nat} {am om : Int32} {p p2 : Nat} {sc sc2 : SCT} {X : Nat} {Rf Zf : Bool} {BC : MS → Prop}, (l ≠ [] → ∀ j, lo < j → j ≤ n2 → nod m3 j = nod m2 j ∧ (j ≠ l.getLastD 0 → m3.2.2.1 21 j = m2.2.2.1 21 j)) → (l ≠ [] → m3.2.2.1 21 (l.getLastD 0) = I ((l2.headD 0 : Nat) : Int)) → SGE N K nm gd m2 lo n2 W l am om p p2 sc sc2 X Rf Zf BC am2 om2 → SGE N K nm gd m3 lo n3 W l2 am2 om2 p2 q sc2 sc3 Y Rg Zg BD am3 om3 → SGE N K nm gd m3 lo n3 W (l ++ l2) am om p q sc sc3 (max X Y) (Rf || Rg) (Zf || Zg) (fun m => BC m ∨ BD m) am3 om3
  | [], am, om, p, p2, sc, sc2, X, Rf, Zf, BC, hs, hy, ⟨⟨z1, z2, z3, z4, z5, z6⟩, z7, z8⟩, hr => by
    subst z1
    subst z2
    subst z3
    subst z4
    subst z5
    subst z7
    subst z8
    rw [show max 0 Y = Y by omega, Bool.false_or, Bool.false_or]
    exact SGE_bc (fun m => ⟨fun z => z.elim (fun y => absurd y (z6 m)) id, Or.inr⟩) hr
  | ν :: l, am, om, p, p2, sc, sc2, X, Rf, Zf, BC, hs, hy, ⟨h1, h2, h3⟩, hr => by
    have hs := hs (fun z => by cases z)
    have hy := hy (fun z => by cases z)
    have rl := SGE_len hr
    have lastc : l ≠ [] → (ν :: l).getLastD 0 = l.getLastD 0 := fun z => by
      cases l with
      | nil => exact absurd rfl z
      | cons a b => rfl
    have last1 : l = [] → (ν :: l).getLastD 0 = ν := fun z => by rw [z]; rfl
    have rest : ∀ {am om : Int32} {p : Nat} {sc : SCT} {X : Nat} {Rf Zf : Bool} {BC : MS → Prop}, SGE N K nm gd m2 lo n2 W l am om p p2 sc sc2 X Rf Zf BC am2 om2 → SGE N K nm gd m3 lo n3 W (l ++ l2) am om p q sc sc3 (max X Y) (Rf || Rg) (Zf || Zg) (fun m => BC m ∨ BD m) am3 om3 := fun {am om p sc X Rf Zf BC} hh => SGE_app hn hk hl2 hst hlo (fun z j j1 j2 => by
        have := hs j j1 j2
        rw [lastc z] at this
        exact this) (fun z => by
        have := hy
        rw [lastc z] at this
        exact this) hh hr
    have ord : ∀ x, x ≤ n2 → (l ≠ [] → x < l.headD 0) → (l ++ l2 ≠ [] → x < (l ++ l2).headD 0) := fun x hx hl z => by
      cases l with
      | nil =>
        have := hl2 z
        show x < l2.headD 0
        omega
      | cons a b => exact hl (fun y => by cases y)
    have nν := (hs ν h1.1 h1.2).1
    have e21 : ∀ x, ν ≤ x → (l ≠ [] → x < l.headD 0 ∧ l.headD 0 ≤ l.getLastD 0) → m3.2.2.1 21 ν = I (((l ++ l2).headD 0 : Nat) : Int) := fun x hx hl => by
      cases l with
      | nil => exact hy
      | cons a b =>
        obtain ⟨q1, q2⟩ := hl (fun y => by cases y)
        have q1 : x < a := q1
        have q2 : a ≤ (a :: b).getLastD 0 := q2
        have l9 : (ν :: a :: b).getLastD 0 = (a :: b).getLastD 0 := rfl
        rw [(hs ν h1.1 h1.2).2 (by rw [l9]; omega)]
        exact h2
    have e16 : m3.2.2.1 16 ν = m2.2.2.1 16 ν := congrArg (fun z => z.1) nν
    have e17 : m3.2.2.1 17 ν = m2.2.2.1 17 ν := congrArg (fun z => z.2.1) nν
    have e18 : m3.2.2.1 18 ν = m2.2.2.1 18 ν := congrArg (fun z => z.2.2.1) nν
    rcases h3 with ⟨q', q2, sc1, X1, X2, R1, R2, Z1, Z2, D1, D2, a1, a2, ⟨mi, li, ni, k, b1, b2, b3, b4, b5, b6⟩, a4, a5, a6, a7, a8, a9, a10⟩ | ⟨a1, a0, a2⟩ | ⟨a1, a0, k, a2, a3, a4⟩
    · have hh := fun z => SGE_hd a5 z
      refine ⟨⟨h1.1, by omega⟩, e21 ni b5.2 (fun z => ⟨b6 z, (hh z).1⟩), Or.inl ⟨q', q2, sc1, X1, max X2 Y, R1, (R2 || Rg), Z1, (Z2 || Zg), D1, (fun m => D2 m ∨ BD m), ⟨a1.1, a1.2.1, by omega⟩, a2, ⟨mi, li, ni, k, b1, ⟨fun j j1 j2 => ?_, Kc_tr b2.2 hk⟩, ⟨b3.1, by omega⟩, ⟨e16.trans b4.1, b4.2⟩, b5, ord ni b3.2 b6⟩, a4, rest a5, by rw [a6]; omega, by rw [a7, Bool.or_assoc], by rw [a8, Bool.or_assoc], fun m => ?_, STB_or a10 hst⟩⟩
      · have hj := hs j (by omega) (by omega)
        refine ⟨hj.1.trans (b2.1 j j1 j2).1, fun z => (hj.2 ?_).trans ((b2.1 j j1 j2).2 z)⟩
        by_cases y : l = []
        · rw [last1 y]; exact z
        · rw [lastc y]
          have := b6 y
          have := (hh y).1
          omega
      · show (BC m ∨ BD m) ↔ D1 m ∨ (D2 m ∨ BD m)
        rw [a9, or_assoc]
    · rcases a2 with ⟨x, y⟩ | ⟨x, y⟩
      · exact ⟨⟨h1.1, by omega⟩, e21 ν (Nat.le_refl _) (fun z => ⟨a0 z, (SGE_hd y z).1⟩), Or.inr (Or.inl ⟨e16.trans a1, ord ν h1.2 a0, Or.inl ⟨e18.trans x, rest y⟩⟩)⟩
      · exact ⟨⟨h1.1, by omega⟩, e21 ν (Nat.le_refl _) (fun z => ⟨a0 z, (SGE_hd y z).1⟩), Or.inr (Or.inl ⟨e16.trans a1, ord ν h1.2 a0, Or.inr ⟨e18.trans x, rest y⟩⟩)⟩
    · rcases a4 with ⟨x, b, e1, t1, y1, y2, y3, y4⟩ | ⟨x, tk, R2, y1, y2, y3, y4⟩
      · exact ⟨⟨h1.1, by omega⟩, e21 ν (Nat.le_refl _) (fun z => ⟨a0 z, (SGE_hd y4 z).1⟩), Or.inr (Or.inr ⟨e16.trans a1, ord ν h1.2 a0, k, e18.trans a2, a3, Or.inl ⟨x, b, e1, t1, y1, y2, y3, rest y4⟩⟩)⟩
      · exact ⟨⟨h1.1, by omega⟩, e21 ν (Nat.le_refl _) (fun z => ⟨a0 z, (SGE_hd y3 z).1⟩), Or.inr (Or.inr ⟨e16.trans a1, ord ν h1.2 a0, k, e18.trans a2, a3, Or.inr ⟨x, tk, (R2 || Rg), e17.trans y1, y2, rest y3, by rw [y4, Bool.or_assoc]⟩⟩)⟩
theorem SCX_cut (h : SCX (e :: t) (e2 :: t2) X) (hb : e.1.length ≤ b) : SCX (e :: t) (cutS b (e2 :: t2)) X := by
  refine ⟨?_, h.2.1, h.2.2⟩
  show e.1 <+: e2.1.take b
  rw [List.prefix_take_iff]
  exact ⟨h.1, hb⟩
theorem HDs_cut : ∀ {a c : SCT}, HDs Nk K W p p2 a c → HDs Nk K W p p2 a (cutS b c)
  | [], [], h => h
  | _ :: _, _ :: _, h => h
  | [], _ :: _, h => h.elim
  | _ :: _, [], h => h.elim
theorem SOK_cut : ∀ {c : SCT}, SOK c → SOK (cutS b c)
  | [], h => h
  | e :: t, ⟨⟨h1, h2, h3, h4, h5, h6, h7⟩, h8⟩ => by
    have l := List.length_take_le b e.1
    refine ⟨⟨h1.sublist (List.take_sublist b e.1), fun x hx => h2 x (List.mem_of_mem_take hx), h3, ?_, h5, h6, h7⟩, h8⟩
    show (e.1.take b).length ≤ e.2.2
    rw [List.length_take]
    omega
theorem cut_all (h : e2.1.length ≤ b) : cutS b (e2 :: t2) = e2 :: t2 := by
  show (e2.1.take b, e2.2) :: t2 = e2 :: t2
  rw [List.take_of_length_le h]
def UNQ (sc2 : SCT) (w v : MS) : Prop := RNs v sc2 ∧ v.1 69 = w.1 69 ∧ (∀ k, k ∈ SMI → v.1 k = w.1 k) ∧ (∀ k, SMX k → k ≠ 60 → v.2.2.1 k = w.2.2.1 k) ∧ ∀ a : Nat, w.1 32 = I (a : Nat) → a ≤ 100000 → ∃ b : Nat, (v.1 32 = I (b : Nat) ∧ a ≤ b ∧ b ≤ 100000) ∧ NKP a w v ∧ ∀ j, a ≤ j → j < b → v.2.2.1 23 j ≠ 12 ∧ v.2.2.1 23 j ≠ 15
theorem unb_p (h : RNs w (e2 :: t2)) (hb : b ≤ 1400) : PK (fun v (_ : Unit) => UNQ (cutS b (e2 :: t2)) w v) (fm_M_unbind N w (I (b : Nat))) := by
  show PK _ (fb_M_unbind_0 N () w (I (b : Nat)))
  unfold fb_M_unbind_0 fb_M_unbind_41
  refine pk_ck (fun _ => ?_)
  have sl : t2.length + 1 ≤ 27 := h.2.1.2
  have s65 : (w.1 65).toNatClampNeg = t2.length := by
    rw [h.1]
    exact tnI (n := t2.length) rfl (by omega)
  have l2 := nd_len 1400 _ h.2.2.2.1.1 h.2.2.2.1.2.1
  have h60 : w.2.2.1 60 t2.length = I (e2.1.length : Nat) := h.2.2.1.1.1
  rw [s65, h60]
  rw [decI (by omega) (by omega) (by omega) (by omega)]
  by_cases z : e2.1.length ≤ b
  · rw [decide_eq_true (by omega), br_tq]
    refine pk_some ⟨by rw [cut_all z]; exact h, rfl, fun _ _ => rfl, fun _ _ _ => rfl, fun a e1 e3 => ⟨a, ⟨e1, Nat.le_refl _, e3⟩, NKP_rf, fun j h1 h2 => absurd h2 (by omega)⟩⟩
  · rw [decide_eq_false (by omega), br_fq]
    refine pk_bnd (pk_mo (node_s (w := w) (by decide)) (fun u r q => ?_))
    obtain ⟨s1, u69, -, a, ha, hr, h32, h23, hra⟩ := q
    refine pk_ck (fun _ => pk_ltq (pk_ck (fun _ => pk_ltq (pk_some ?_))))
    have nc : u.2.2.1 23 r.toNatClampNeg ≠ 12 ∧ u.2.2.1 23 r.toNatClampNeg ≠ 15 := by rw [hra, h23]; decide
    have s2 := SMS_B (x := I (b : Nat)) (k := 25) s1 (Or.inl rfl) nc
    have v69 : (upA u 25 (upd (u.2.2.1 25) r.toNatClampNeg (I (b : Nat)))).1 69 = w.1 69 := u69
    generalize upA u 25 (upd (u.2.2.1 25) r.toNatClampNeg (I (b : Nat))) = v at s2 v69
    have v65 : (v.1 65).toNatClampNeg = t2.length := by rw [s2.1 65 (by decide)]; exact s65
    rw [v65]
    have rv : RNs v (e2 :: t2) := RNs_e h (s2.1 65 (by decide)) (fun k h1 h2 => s2.2.1 k (by unfold SMX; omega))
    have n60 : ∀ k, k ≠ 60 → (upA v 60 (upd (v.2.2.1 60) t2.length (I (b : Nat)))).2.2.1 k = v.2.2.1 k := fun k hk => upA_no hk
    have ln : (e2.1.take b).length = b := by rw [List.length_take]; omega
    refine ⟨⟨rv.1, rv.2.1, ⟨⟨?_, fun k x hx => ?_, ?_, ?_, ?_⟩, ?_⟩, SOK_cut rv.2.2.2⟩, v69, s2.1, fun k hk h6 => by rw [n60 k h6]; exact s2.2.1 k hk, fun a e1 e3 => ?_⟩
    · show (upA v 60 _).2.2.1 60 t2.length = I ((e2.1.take b).length : Nat)
      rw [upA_at, upd_at, ln]
    · have hx : (e2.1.take b)[k]? = some x := hx
      rw [n60 59 (by decide)]
      refine rv.2.2.1.1.2.1 k x ?_
      rw [List.getElem?_take] at hx
      split at hx
      · exact hx
      · cases hx
    · rw [n60 63 (by decide)]; exact rv.2.2.1.1.2.2.1
    · rw [n60 61 (by decide)]; exact rv.2.2.1.1.2.2.2.1
    · rw [n60 64 (by decide)]; exact rv.2.2.1.1.2.2.2.2
    · refine RNl_fr rv.2.2.2.2 rv.2.2.1.2 (fun j hj => ?_) (fun j hj => ?_)
      · rw [n60 63 (by decide), n60 64 (by decide), upA_at, upd_no (by omega)]
        exact ⟨rfl, rfl, rfl⟩
      · rw [n60 59 (by decide), n60 61 (by decide)]
        exact ⟨rfl, rfl⟩
    · obtain ⟨b', g1, g2, g3⟩ := s2.2.2 a e1 e3
      refine ⟨b', g1, fun j hj => ?_, fun j j1 j2 => ?_⟩
      · rw [n60 23 (by decide), n60 25 (by decide), n60 26 (by decide), n60 27 (by decide)]; exact g2 j hj
      · rw [n60 23 (by decide)]; exact g3 j j1 j2
theorem STW_cut (h : STW Nk K p p2 (e :: t) (e2 :: t2) X W Rf Zf CL w v) (hb : e.1.length ≤ b) (k : UNQ (cutS b (e2 :: t2)) v u) : STW Nk K p p2 (e :: t) (cutS b (e2 :: t2)) X W Rf Zf CL w u := by
  obtain ⟨a1, a2, a3, a4, a5, a6, a7, a, c, a8, a9, a10⟩ := h
  obtain ⟨k1, k0, k2, k3, k4⟩ := k
  obtain ⟨f, g1, g2, g3⟩ := k4 c a8.2.1 a8.2.2.2
  have tl : tot (cutS b (e2 :: t2)) ≤ tot (e2 :: t2) := cutS_le
  refine ⟨k1, SCX_cut a2 hb, HDs_cut a3, ⟨by omega, a4.2⟩, by rw [k2 66 (by decide)]; exact a5, by rw [k2 72 (by decide)]; exact a6, ?_, a, f, ⟨a8.1, g1.1, by omega, g1.2.2⟩, fun x => ?_, NKP_tr a10 g2 a8.2.2.1⟩
  · refine WFE_tr a7 ⟨fun j hj => k2 j ?_, fun j hj => k3 j (Or.inl hj) (by omega), fun j _ => by rw [k3 74 (by unfold SMX; omega) (by decide)], fun j _ => by rw [k3 76 (by unfold SMX; omega) (by decide)], fun i i1 i2 j _ => by rw [k3 i (by unfold SMX; omega) (by omega)]⟩
    unfold SMI; simp only [List.mem_cons, List.not_mem_nil, or_false] at hj ⊢; omega
  · rw [CSY_split a8.2.2.1 g1.2.1, CSY_k g2, a9]
    constructor
    · rintro (z | ⟨j, j1, j2, -⟩)
      · exact z
      · exfalso
        rcases j2 with j2 | j2
        · exact (g3 j j1.1 j1.2).1 j2.1
        · exact (g3 j j1.1 j1.2).2 j2.1
    · exact Or.inl
theorem RLP_u (h : RLP m0 w0 T p m w) (k : UNQ sc2 w v) : RLP m0 w0 T p m v := by
  obtain ⟨h1, h2, h3, h4, h5, h6, h7⟩ := h
  obtain ⟨k1, k0, k2, k3, k4⟩ := k
  refine ⟨h1, Kt_tr h2 ⟨fun j hj => k2 j (by unfold TIN at hj; unfold SMI; simp only [List.mem_cons, List.not_mem_nil, or_false] at hj ⊢; omega), fun j hj => k3 j (by unfold TRW at hj; unfold SMX; simp only [List.mem_cons, List.not_mem_nil, or_false] at hj; omega) (by rintro rfl; revert hj; decide)⟩, h3, by rw [k0]; exact h4, h5, by rw [k2 70 (by decide)]; exact h6, by rw [k2 67 (by decide)]; exact h7⟩
theorem STQ_cut (h : STQ m0 w0 K T Nk gd mB wB p n (e :: t) s m w q n2 (e2 :: t2) X W Rf Zf CL) (hb : e.1.length ≤ b) (k : UNQ (cutS b (e2 :: t2)) w v) (hg : gd = true → Rf = false → tot (cutS b (e2 :: t2)) = tot (e :: t)) : STQ m0 w0 K T Nk gd mB wB p n (e :: t) s m v q n2 (cutS b (e2 :: t2)) X W Rf Zf CL := by
  obtain ⟨a1, a2, a3, a4, a5, a6, a7⟩ := h
  exact ⟨RLP_u a1 k, a2, a3, a4, STW_cut a5 hb k, hg, SNW_cut a7⟩
end
end
section
set_option maxRecDepth 100000
def SGS (m w : MS) (K : Nat → Nat) (T c0 b0 tt : Nat) (am om : Int32) (e0 : Nat) : Nat → List (Nat × Nat) → Prop
  | _, [] => True
  | cur, (q, b) :: σ => (m.2.2.1 34 (c0 + σ.length) = I (q : Nat) ∧ w.2.2.1 79 (b0 + σ.length) = I (rkK (K q) : Nat) ∧ w.2.2.1 80 (b0 + σ.length) = I (q : Nat) ∧ 1 ≤ rkK (K q) ∧ q < T) ∧ (rkK (K q) ≤ 2 → (e0 ≤ b ∧ b ≤ cur) ∧ w.2.2.1 82 (b0 + σ.length) = I (b : Nat) ∧ (∃ h a : Nat, w.2.2.1 81 (b0 + σ.length) = I (h : Nat) ∧ w.1 32 = I (a : Nat) ∧ a ≤ 100000 ∧ h < a ∧ w.2.2.1 23 h ≠ 12 ∧ w.2.2.1 23 h ≠ 15) ∧ (rkK (K q) = 2 → am = I ((tt + b : Nat) : Int)) ∧ (rkK (K q) = 1 → om = I ((tt + b : Nat) : Int))) ∧ (∀ x, σ.head? = some x → rkK (K x.1) ≤ rkK (K q) ∧ (rkK (K x.1) = rkK (K q) → rkK (K q) = 4)) ∧ SGS m w K T c0 b0 tt am om e0 (if rkK (K q) ≤ 2 then b else cur) σ
def pd4 (K : Nat → Nat) (σ : List (Nat × Nat)) : Bool := σ.any (fun x => decide (rkK (K x.1) = 4))
def SLI (N : Nat) (m0 w0 : MS) (K : Nat → Nat) (T : Nat) (nm Nk : Nat → Nat) (gd : Bool) (mB wB : MS) (p n0 : Nat) (e : List Nat × List Nat × Nat) (t : SCT) (c0 b0 s : Nat) (m w : MS) (q n : Nat) (e2 : List Nat × List Nat × Nat) (t2 : SCT) (am om : Int32) (l : List Nat) (σ : List (Nat × Nat)) : Prop := ∃ (X : Nat) (W : Nat → Nat) (Rf Rs Zf : Bool) (CL : Int32 × Int32 × Int32 → Prop) (q0 : Nat), STQ m0 w0 K T Nk gd mB wB p n0 (e :: t) (s + σ.length) (upI m 664 (mB.1 664)) (upI w 83 (wB.1 83)) q n (e2 :: t2) X W Rf Zf CL ∧ SGE N K nm gd m n0 n W l 0 0 p q0 (e :: t) (e2 :: t2) X Rs Zf (BCo N CL) am om ∧ Rf = (Rs || (gd && pd4 K σ)) ∧ (l ≠ [] ∧ m.2.2.1 21 (l.getLastD 0) = 0) ∧ (mB.1 664 = I (c0 : Nat) ∧ wB.1 83 = I (b0 : Nat) ∧ b0 + σ.length ≤ 3000 ∧ m.1 664 = I ((c0 + σ.length : Nat) : Int) ∧ w.1 83 = I ((b0 + σ.length : Nat) : Int) ∧ c0 + σ.length ≤ 4002 ∧ q0 ≤ q ∧ ∀ j, q0 ≤ j → j < q → K j ≠ 3) ∧ SGS m w K T c0 b0 (tot t2) am om e.1.length e2.1.length σ
section
variable {m0 w0 m w v u mB wB m2 w2 m3 w3 mi w' : MS} {K nm Nk W W2 : Nat → Nat} {T p n N q X Y n2 p0 n0 n3 p2 ν μ κ o s L d D k q1 q2 lo li ni t0 b c0 b0 tt e0 cur : Nat} {sc sc1 sc2 sc3 t t2 : SCT} {e e2 : List Nat × List Nat × Nat} {gd Rf Zf Rg Zg : Bool} {l : List Nat} {σ : List (Nat × Nat)} {r v1 v2 v3 v4 v5 x y am om am2 om2 : Int32} {CL CM : Int32 × Int32 × Int32 → Prop} {NC : Nat → Prop} {B1 B2 BC : MS → Prop}
theorem upI_cm {a c : Nat} (h : a ≠ c) : upI (upI m a x) c y = upI (upI m c y) a x := by
  have e : (fun j => if j = c then y else if j = a then x else m.1 j) = (fun j => if j = a then x else if j = c then y else m.1 j) := by
    funext j
    by_cases h1 : j = a
    · subst h1; rw [if_pos rfl, if_neg h, if_pos rfl]
    · by_cases h2 : j = c
      · subst h2; rw [if_pos rfl, if_neg h1, if_pos rfl]
      · rw [if_neg h2, if_neg h1, if_neg h1, if_neg h2]
  unfold upI
  show (_, _) = (_, _)
  rw [e]
theorem adN_up {a b' c d' f : Int32} (h : k ≠ 306) : adN (upI m k x) n a b' c d' f = upI (adN m n a b' c d' f) k x := by
  unfold adN
  rw [upI_cm h]
  rfl
theorem upI_2 {a : Nat} : upI (upI m a x) a y = upI m a y := by
  have e : (fun j => if j = a then y else if j = a then x else m.1 j) = (fun j => if j = a then y else m.1 j) := by
    funext j
    by_cases h1 : j = a
    · rw [if_pos h1, if_pos h1]
    · rw [if_neg h1, if_neg h1, if_neg h1]
  unfold upI
  show (_, _) = (_, _)
  rw [e]
theorem SMS_83 (h : SMS (upI w 83 y) u) : SMS (upI w 83 x) (upI u 83 x) := by
  refine ⟨fun j hj => ?_, fun j hj => h.2.1 j hj, fun a h1 h2 => ?_⟩
  · by_cases z : j = 83
    · subst z; rw [upI_at, upI_at]
    · rw [upI_ne z, upI_ne z, h.1 j hj, upI_ne z]
  · rw [upI_ne (by decide)] at h1
    obtain ⟨b, g1, g2, g3⟩ := h.2.2 a (by rw [upI_ne (by decide)]; exact h1) h2
    exact ⟨b, ⟨by rw [upI_ne (by decide)]; exact g1.1, g1.2⟩, g2, g3⟩
theorem UNQ_83 (h : UNQ sc2 (upI w 83 y) u) : UNQ sc2 (upI w 83 x) (upI u 83 x) := by
  obtain ⟨k1, k0, k2, k3, k4⟩ := h
  refine ⟨WFP_rn k1 (upI_ne (by decide)) rfl, ?_, fun j hj => ?_, k3, fun a h1 h2 => ?_⟩
  · rw [upI_ne (by decide), k0, upI_ne (by decide), upI_ne (by decide)]
  · by_cases z : j = 83
    · subst z; rw [upI_at, upI_at]
    · rw [upI_ne z, upI_ne z, k2 j hj, upI_ne z]
  · rw [upI_ne (by decide)] at h1
    obtain ⟨b, g1, g2, g3⟩ := k4 a (by rw [upI_ne (by decide)]; exact h1) h2
    exact ⟨b, ⟨by rw [upI_ne (by decide)]; exact g1.1, g1.2⟩, g2, g3⟩
theorem SGS_k (h34 : ∀ j, j < c0 + σ.length → m2.2.2.1 34 j = m.2.2.1 34 j) (h79 : ∀ k, 79 ≤ k → k ≤ 82 → ∀ j, j < b0 + σ.length → w2.2.2.1 k j = w.2.2.1 k j) (hn : ∀ a : Nat, w.1 32 = I (a : Nat) → a ≤ 100000 → ∃ b : Nat, (w2.1 32 = I (b : Nat) ∧ a ≤ b ∧ b ≤ 100000) ∧ NKP a w w2) : ∀ {σ' : List (Nat × Nat)} {cur cur2 : Nat}, σ'.length ≤ σ.length → (cur ≤ cur2) → SGS m w K T c0 b0 tt am om e0 cur σ' → SGS m2 w2 K T c0 b0 tt am om e0 cur2 σ'
  | [], _, _, _, _, _ => trivial
  | (q, b) :: σ', cur, cur2, hl, hc, ⟨h1, h2, h3, h4⟩ => by
    have hl : σ'.length + 1 ≤ σ.length := hl
    refine ⟨⟨by rw [h34 _ (by omega)]; exact h1.1, by rw [h79 79 (by decide) (by decide) _ (by omega)]; exact h1.2.1, by rw [h79 80 (by decide) (by decide) _ (by omega)]; exact h1.2.2.1, h1.2.2.2⟩, fun z => ?_, h3, ?_⟩
    · obtain ⟨g1, g2, ⟨h, a, f1, f2, f3, f4, f5, f6⟩, g4⟩ := h2 z
      obtain ⟨b', x1, x2⟩ := hn a f2 f3
      refine ⟨⟨g1.1, by omega⟩, by rw [h79 82 (by decide) (by decide) _ (by omega)]; exact g2, ⟨h, b', by rw [h79 81 (by decide) (by decide) _ (by omega)]; exact f1, x1.1, x1.2.2, by omega, ?_, ?_⟩, g4⟩
      · rw [(x2 h f4).1]; exact f5
      · rw [(x2 h f4).1]; exact f6
    · by_cases z : rkK (K q) ≤ 2
      · rw [if_pos z]; rw [if_pos z] at h4
        exact SGS_k h34 h79 hn (by omega) (Nat.le_refl _) h4
      · rw [if_neg z]; rw [if_neg z] at h4
        exact SGS_k h34 h79 hn (by omega) hc h4
theorem rk_k (h : K q1 < 46) (h1 : 1 ≤ rkK (K q1)) : (rkK (K q1) ≤ 2 ↔ K q1 = 6 ∨ K q1 = 16) ∧ (rkK (K q1) = 2 ↔ K q1 = 6) ∧ (rkK (K q1) = 1 ↔ K q1 = 16) ∧ (rkK (K q1) = 4 ↔ K q1 = 43 ∨ K q1 = 44) := by
  have : ∀ k, k < 46 → 1 ≤ rkK k → (rkK k ≤ 2 ↔ k = 6 ∨ k = 16) ∧ (rkK k = 2 ↔ k = 6) ∧ (rkK k = 1 ↔ k = 16) ∧ (rkK k = 4 ↔ k = 43 ∨ k = 44) := by decide
  exact this _ h h1
theorem SLI_pop {κ : Nat} (c : CTZ m0 w0 K T nm Nk) (hn0 : n0 ≤ 2 * p) (h : SLI N m0 w0 K T nm Nk gd mB wB p n0 e t c0 b0 s m w q n e2 t2 am om l ((q1, b) :: σ)) (hst : (3 ≤ rkK (K q1) ∧ SMS (upI w 83 (I ((b0 + σ.length : Nat) : Int))) u ∧ u.1 69 = w.1 69) ∨ (rkK (K q1) ≤ 2 ∧ UNQ (cutS b (e2 :: t2)) (upI w 83 (I ((b0 + σ.length : Nat) : Int))) u)) : ∃ e3, n + 1 < 8016 ∧ m.1 306 = I (n : Nat) ∧ l.getLastD 0 ≤ 8015 ∧ SLI N m0 w0 K T nm Nk gd mB wB p n0 e t c0 b0 s (upI (upA (adN m n 23 (I (q1 : Nat)) (I (K q1 : Nat)) 0 0) 21 (upd ((adN m n 23 (I (q1 : Nat)) (I (K q1 : Nat)) 0 0).2.2.1 21) (l.getLastD 0) (I ((n + 1 : Nat) : Int)))) 664 (I ((c0 + σ.length : Nat) : Int))) u q (n + 1) e3 t2 am om (l ++ [n + 1]) σ := by
  obtain ⟨X, W, Rf, Rs, Zf, CL, q0, a1, a2, a3, a4, a5, a6⟩ := h
  obtain ⟨⟨h1, h2, h3, h4, h5⟩, g2, g3, g4⟩ := id a6
  have ll : ((q1, b) :: σ).length = σ.length + 1 := rfl
  rw [ll] at a1 a5
  have nb := a1.2.1
  have qT := a1.1.2.2.2.2.1
  have t4 := c.1.1.1
  have k46 : K q1 < 46 := c.1.1.k46 (by omega)
  obtain ⟨d1, d2, d3⟩ := SGE_hd a2 a4.1
  have m306 : m.1 306 = I (n : Nat) := by have := nb.2.1; rw [upI_ne (by decide)] at this; exact this
  have rk := rk_k k46 h4
  have s1 := STQ_add (s := s + σ.length) (a := 23) (b := I (q1 : Nat)) (c := I (K q1 : Nat)) (d := 0) (f := 0) a1
  rw [adN_up (by decide)] at s1
  have Ao := adN_o (m := m) (n := n) (a := 23) (b := I (q1 : Nat)) (c := I (K q1 : Nat)) (d := 0) (f := 0)
  have An := adN_nod (m := m) (n := n) (a := 23) (b := I (q1 : Nat)) (c := I (K q1 : Nat)) (d := 0) (f := 0)
  have Ai : ∀ k, k ≠ 306 → (adN m n 23 (I (q1 : Nat)) (I (K q1 : Nat)) 0 0).1 k = m.1 k := fun k hk => adN_i hk
  have Ar : ∀ k, k < 16 ∨ 21 < k → (adN m n 23 (I (q1 : Nat)) (I (K q1 : Nat)) 0 0).2.2.1 k = m.2.2.1 k := fun k hk => adN_r hk
  generalize hA : adN m n 23 (I (q1 : Nat)) (I (K q1 : Nat)) 0 0 = A at s1 Ao An Ai Ar
  have s2 := STQ_A (L := l.getLastD 0) (k := 21) (y := I ((n + 1 : Nat) : Int)) s1 (by omega) (by decide)
  have r21 : (upA A 21 (upd (A.2.2.1 21) (l.getLastD 0) (I ((n + 1 : Nat) : Int)))).2.2.1 21 = upd (A.2.2.1 21) (l.getLastD 0) (I ((n + 1 : Nat) : Int)) := upA_at
  have ro : ∀ k, k ≠ 21 → (upA A 21 (upd (A.2.2.1 21) (l.getLastD 0) (I ((n + 1 : Nat) : Int)))).2.2.1 k = A.2.2.1 k := fun k hk => upA_no hk
  have s3 : STQ m0 w0 K T Nk gd mB wB p n0 (e :: t) (s + σ.length) (upI (upA A 21 (upd (A.2.2.1 21) (l.getLastD 0) (I ((n + 1 : Nat) : Int)))) 664 (mB.1 664)) (upI w 83 (wB.1 83)) q (n + 1) (e2 :: t2) X W Rf Zf CL := s2
  have Bi : ∀ k, (upA A 21 (upd (A.2.2.1 21) (l.getLastD 0) (I ((n + 1 : Nat) : Int)))).1 k = A.1 k := fun _ => rfl
  generalize hB : upA A 21 (upd (A.2.2.1 21) (l.getLastD 0) (I ((n + 1 : Nat) : Int))) = B at s3 r21 ro Bi
  have ndB : ∀ j, nod B j = nod A j := fun j => by
    unfold nod
    rw [ro 16 (by decide), ro 17 (by decide), ro 18 (by decide), ro 19 (by decide), ro 20 (by decide)]
  have kcB : Kcc m (upI B 664 (I ((c0 + σ.length : Nat) : Int))) := ⟨fun k hk => by rw [upI_ne (by omega), Bi, Ai k (by omega)], fun k hk => by show B.2.2.1 k = _; rw [ro k (by omega), Ar k (by omega)]⟩
  have hs : ∀ j, n0 < j → j ≤ n → nod (upI B 664 (I ((c0 + σ.length : Nat) : Int))) j = nod m j ∧ (j ≠ l.getLastD 0 → (upI B 664 (I ((c0 + σ.length : Nat) : Int))).2.2.1 21 j = m.2.2.1 21 j) := fun j _ j2 => ⟨(ndB j).trans (Ao j j2).1, fun z => by show B.2.2.1 21 j = _; rw [r21, upd_no z]; exact (Ao j j2).2⟩
  have hy : (upI B 664 (I ((c0 + σ.length : Nat) : Int))).2.2.1 21 (l.getLastD 0) = I ((([n + 1] : List Nat).headD 0 : Nat) : Int) := by show B.2.2.1 21 _ = _; rw [r21, upd_at]; rfl
  have nκ := (ndB (n + 1)).trans An.1
  have e21 : B.2.2.1 21 (n + 1) = 0 := by rw [r21, upd_no (by omega)]; exact An.2
  have app : ∀ (sc3 : SCT) (R' : Bool), SGE N K nm gd (upI B 664 (I ((c0 + σ.length : Nat) : Int))) n0 (n + 1) W [n + 1] am om q0 q0 (e2 :: t2) sc3 0 R' false (fun _ => False) am om → SGE N K nm gd (upI B 664 (I ((c0 + σ.length : Nat) : Int))) n0 (n + 1) W (l ++ [n + 1]) 0 0 p q0 (e :: t) sc3 X (Rs || R') Zf (BCo N CL) am om := fun sc3 R' hh => by
    have := SGE_app (n3 := n + 1) (by omega) kcB (fun _ => by show n < n + 1; omega) (fun _ _ _ => Iff.rfl) (by omega) (fun _ => hs) (fun _ => hy) a2 hh
    rw [show max X 0 = X by omega, Bool.or_false] at this
    exact SGE_bc (fun m => ⟨Or.inl, fun z => z.elim id False.elim⟩) this
  have stk : ∀ (cur2 : Nat), (∀ k, 79 ≤ k → k ≤ 82 → u.2.2.1 k = w.2.2.1 k) → (∀ a : Nat, w.1 32 = I (a : Nat) → a ≤ 100000 → ∃ b : Nat, (u.1 32 = I (b : Nat) ∧ a ≤ b ∧ b ≤ 100000) ∧ NKP a w u) → ((if rkK (K q1) ≤ 2 then b else e2.1.length) ≤ cur2) → SGS (upI B 664 (I ((c0 + σ.length : Nat) : Int))) u K T c0 b0 (tot t2) am om e.1.length cur2 σ := fun cur2 f1 f2 f3 => SGS_k (σ := σ) (fun j _ => by show B.2.2.1 34 j = _; rw [ro 34 (by decide), Ar 34 (by omega)]) (fun k k1 k2 j _ => by rw [f1 k k1 k2]) f2 (Nat.le_refl _) f3 g4
  have num : (mB.1 664 = I (c0 : Nat) ∧ wB.1 83 = I (b0 : Nat) ∧ b0 + σ.length ≤ 3000 ∧ (upI B 664 (I ((c0 + σ.length : Nat) : Int))).1 664 = I ((c0 + σ.length : Nat) : Int)) := ⟨a5.1, a5.2.1, by omega, upI_at⟩
  have lst : l ++ [n + 1] ≠ [] ∧ (upI B 664 (I ((c0 + σ.length : Nat) : Int))).2.2.1 21 ((l ++ [n + 1]).getLastD 0) = 0 := ⟨by simp, by rw [getLastD_snoc]; exact e21⟩
  have pd : pd4 K ((q1, b) :: σ) = (decide (rkK (K q1) = 4) || pd4 K σ) := rfl
  rw [pd] at a3
  have vm : upI (upI B 664 (I ((c0 + σ.length : Nat) : Int))) 664 (mB.1 664) = upI B 664 (mB.1 664) := upI_2
  rcases hst with ⟨hk3, sm, u69⟩ | ⟨hk2, un⟩
  · refine ⟨e2, by omega, m306, by omega, X, W, Rf, (Rs || ((gd && decide (K q1 = 43 ∨ K q1 = 44)) || false)), Zf, CL, q0, ?_, app _ _ ?_, ?_, lst, ⟨num.1, num.2.1, num.2.2.1, num.2.2.2, ?_, by omega, a5.2.2.2.2.2.2⟩, stk _ (fun k k1 k2 => sm.2.1 k (by unfold SMX; omega)) (fun a e1 e3 => ?_) (by rw [if_neg (by omega)]; exact Nat.le_refl _)⟩
    · rw [vm]
      exact STQ_s s3 (SMS_83 sm) (by rw [upI_ne (by decide), u69, upI_ne (by decide)])
    · refine ⟨⟨by omega, Nat.le_refl _⟩, e21, Or.inr (Or.inr ⟨congrArg (fun z => z.1) nκ, fun z => absurd rfl z, K q1, congrArg (fun z => z.2.2.1) nκ, k46, Or.inr ⟨⟨fun z => ?_, fun z => ?_⟩, q1, false, congrArg (fun z => z.2.1) nκ, by omega, ⟨⟨rfl, rfl, rfl, rfl, rfl, fun _ z => z⟩, rfl, rfl⟩, rfl⟩⟩)⟩
      · have := rk.1.mpr (Or.inl z); omega
      · have := rk.1.mpr (Or.inr z); omega
    · rw [a3]
      have : decide (rkK (K q1) = 4) = decide (K q1 = 43 ∨ K q1 = 44) := decide_eq_decide.mpr rk.2.2.2
      rw [this]
      cases gd <;> cases Rs <;> cases pd4 K σ <;> cases decide (K q1 = 43 ∨ K q1 = 44) <;> rfl
    · rw [sm.1 83 (by decide), upI_at]
    · obtain ⟨b', x1, x2, -⟩ := sm.2.2 a (by rw [upI_ne (by decide)]; exact e1) e3
      exact ⟨b', x1, x2⟩
  · obtain ⟨⟨gb1, gb2⟩, g22, -, gam, gom⟩ := g2 hk2
    have e3l : (e2.1.take b).length = b := by rw [List.length_take]; omega
    have hcut : gd = true → Rf = false → tot (cutS b (e2 :: t2)) = tot (e :: t) := fun gT rF => by
      have t1 := s3.2.2.2.2.2.1 gT rF
      have sx := s3.2.2.2.2.1.2.1
      have t2l := (BDs_len sx.2.2).2
      have f1 : tot (e2 :: t2) = tot t2 + e2.1.length := rfl
      have f2 : tot (e :: t) = tot t + e.1.length := rfl
      have f3 : tot (cutS b (e2 :: t2)) = tot t2 + b := cutS_tot gb2
      omega
    refine ⟨(e2.1.take b, e2.2), by omega, m306, by omega, X, W, Rf, (Rs || false), Zf, CL, q0, ?_, app _ _ ?_, ?_, lst, ⟨num.1, num.2.1, num.2.2.1, num.2.2.2, ?_, by omega, a5.2.2.2.2.2.2⟩, stk _ (fun k k1 k2 => un.2.2.2.1 k (by unfold SMX; omega) (by omega)) (fun a e1 e3 => ?_) (by rw [if_pos hk2]; show b ≤ (e2.1.take b).length; omega)⟩
    · rw [vm]
      exact STQ_cut s3 gb1 (UNQ_83 un) hcut
    · refine ⟨⟨by omega, Nat.le_refl _⟩, e21, Or.inr (Or.inr ⟨congrArg (fun z => z.1) nκ, fun z => absurd rfl z, K q1, congrArg (fun z => z.2.2.1) nκ, k46, Or.inl ⟨rk.1.mp hk2, b, e2, t2, rfl, gb2, ?_, ⟨⟨rfl, rfl, rfl, rfl, rfl, fun _ z => z⟩, rfl, rfl⟩⟩⟩)⟩
      by_cases z : K q1 = 6
      · rw [if_pos z]; exact gam (rk.2.1.mpr z)
      · rw [if_neg z]; exact gom (rk.2.2.1.mpr (by have := rk.1.mp hk2; omega))
    · rw [a3, show decide (rkK (K q1) = 4) = false from decide_eq_false (by omega)]
      cases gd <;> cases Rs <;> cases pd4 K σ <;> rfl
    · rw [un.2.2.1 83 (by decide), upI_at]
    · obtain ⟨b', x1, x2, -⟩ := un.2.2.2.2 a (by rw [upI_ne (by decide)]; exact e1) e3
      exact ⟨b', x1, x2⟩
end
end
section
set_option maxRecDepth 100000
section
variable {m0 w0 m w v u mB wB m2 w2 m3 w3 mi w' : MS} {K nm Nk W W2 : Nat → Nat} {T p n N q X Y n2 p0 n0 n3 p2 ν μ κ o s L d D k q1 q2 lo li ni t0 b c0 b0 tt e0 cur lv φ : Nat} {sc sc1 sc2 sc3 t t2 : SCT} {e e2 : List Nat × List Nat × Nat} {gd Rf Zf Rg Zg : Bool} {l : List Nat} {σ : List (Nat × Nat)} {r v1 v2 v3 v4 v5 x y am om am2 om2 : Int32} {CL CM : Int32 × Int32 × Int32 → Prop} {NC : Nat → Prop} {B1 B2 BC : MS → Prop}
theorem bTm_bnd_ck {α β γ : Type} {b : Bool} {x : Option (MS × γ)} {f : MS → γ → Option (MS × (β ⊕ Nat))} {g : MS → β → Option (MS × (α ⊕ Nat))} : bTm (bnd (ck b x) f) g = ck b (bTm (bnd x f) g) := by cases b <;> rfl
theorem UNQ_s (h : UNQ sc2 w v) (k : SMS v u) (h69 : u.1 69 = v.1 69) : UNQ sc2 w u := by
  obtain ⟨k1, k0, k2, k3, k4⟩ := h
  refine ⟨RNs_e k1 (k.1 65 (by decide)) (fun j j1 j2 => k.2.1 j (by unfold SMX; omega)), h69.trans k0, fun j hj => (k.1 j hj).trans (k2 j hj), fun j hj h6 => (k.2.1 j hj).trans (k3 j hj h6), fun a h1 h2 => ?_⟩
  obtain ⟨b, g1, g2, g3⟩ := k4 a h1 h2
  obtain ⟨b', f1, f2, f3⟩ := k.2.2 b g1.1 g1.2.2
  refine ⟨b', ⟨f1.1, by omega, f1.2.2⟩, NKP_tr g2 f2 g1.2.1, fun j j1 j2 => ?_⟩
  by_cases z : j < b
  · rw [(f2 j z).1]; exact g3 j j1 z
  · exact f3 j (by omega) j2
theorem red_pop {R : MS → Int32 ⊕ Nat → MS → Int32 → Prop} {a : Option (MS × (Int32 ⊕ Nat))} {M len : Nat} {f : MS → Int32 → Option (MS × Int32)} {rk : Nat} (hrk : 1 ≤ rk ∧ rk ≤ 6) (h83 : w.1 83 = I ((b0 + len + 1 : Nat) : Int)) (hb : b0 + len < 3000) (hR : RNs w (e2 :: t2)) (h2 : rk ≤ 2 → b ≤ 1400 ∧ w.2.2.1 82 (b0 + len) = I (b : Nat) ∧ ∃ h a : Nat, w.2.2.1 81 (b0 + len) = I (h : Nat) ∧ w.1 32 = I (a : Nat) ∧ a ≤ 100000 ∧ h < a ∧ w.2.2.1 23 h ≠ 12 ∧ w.2.2.1 23 h ≠ 15) (hG : ∀ u r M', ((3 ≤ rk ∧ SMS (upI w 83 (I ((b0 + len : Nat) : Int))) u ∧ u.1 69 = w.1 69) ∨ (rk ≤ 2 ∧ UNQ (cutS b (e2 :: t2)) (upI w 83 (I ((b0 + len : Nat) : Int))) u)) → PP R a (bnd (gg_M_reduce N M' u v1 v2 r 1) f)) : PP R a (bnd (fb_M_reduce_61 N (gg_M_reduce N M) w v1 v2 v4 (I (rk : Nat)) 1) f) := by
  unfold fb_M_reduce_61
  rw [show decide ((1 : Int32) = 0) = false from rfl, br_fq, h83, I_sn, bnd_lt]
  refine r_lt ?_
  generalize hw3 : upI w 83 (I ((b0 + len : Nat) : Int)) = w3 at hG
  have i3 : ∀ k, k ≠ 83 → w3.1 k = w.1 k := fun k hk => by rw [← hw3]; exact upI_ne hk
  have i83 : (w3.1 83).toNatClampNeg = b0 + len := by rw [← hw3, upI_at]; exact tnI rfl (by omega)
  have r3 : w3.2.2.1 = w.2.2.1 := by rw [← hw3]; rfl
  rw [I_dn (a := rk) (b := 7) (s := 7) (by omega) (by decide) rfl, decide_eq_false (p := rk = 7) (by omega), br_fq, show (3 : Int32) = I ((3 : Nat) : Int) from rfl, decI (by omega) (by omega) (by omega) (by omega)]
  by_cases z : 3 ≤ rk
  · rw [decide_eq_true (by omega), br_tq, bnd_ck]
    refine r_ck (fun _ => ?_)
    rw [bnd_as2]
    refine r_bnd (pk_mo (node_s (w := w3) (by decide)) (fun u4 r4 q => ?_))
    obtain ⟨s1, u69, -, a', ha, hr, h32, h23, hra⟩ := q
    have nc : u4.2.2.1 23 r4.toNatClampNeg ≠ 12 ∧ u4.2.2.1 23 r4.toNatClampNeg ≠ 15 := by rw [hra, h23]; decide
    have go : ∀ t2' : Int32, PP R a (bnd (fb_M_reduce_254 N (gg_M_reduce N M) u4 v1 v2 r4 1 25 r4 t2') f) := fun t2' => by
      unfold fb_M_reduce_254 fb_M_reduce_255
      rw [bnd_ck]
      refine r_ck (fun _ => ?_)
      rw [bnd_ck]
      refine r_ck (fun _ => ?_)
      rw [bnd_lt]
      refine r_lt ?_
      exact hG _ r4 M (Or.inl ⟨z, SMS_B s1 (Or.inl rfl) nc, by show u4.1 69 = _; rw [u69, i3 69 (by decide)]⟩)
    rw [bnd_ck]
    refine r_ck (fun _ => ?_)
    rw [bnd_lt]
    refine r_lt ?_
    rw [bnd_ck]
    refine r_ck (fun _ => ?_)
    rw [bnd_br]
    refine r_br (fun _ => ?_) (fun _ => ?_)
    · rw [bnd_ck]
      exact r_ck (fun _ => go _)
    · rw [bnd_ck]
      exact r_ck (fun _ => go _)
  · obtain ⟨hb1, h82, h, a', f1, f2, f3, f4, f5, f6⟩ := h2 (by omega)
    rw [decide_eq_false (by omega), br_fq, bnd_ck]
    refine r_ck (fun _ => ?_)
    rw [i83, r3, h82, bnd_as2]
    refine r_bnd (pk_mo (unb_p (w := w3) (b := b) (WFP_rn hR (i3 65 (by decide)) r3) hb1) (fun u6 _ un => ?_))
    have u83 : (u6.1 83).toNatClampNeg = b0 + len := by rw [un.2.2.1 83 (by decide)]; exact i83
    have u81 : u6.2.2.1 81 (b0 + len) = I (h : Nat) := by rw [un.2.2.2.1 81 (by unfold SMX; omega) (by decide), r3]; exact f1
    obtain ⟨b', x1, x2, -⟩ := un.2.2.2.2 a' (by rw [i3 32 (by decide)]; exact f2) f3
    have hh : (I (h : Nat)).toNatClampNeg = h := tnI rfl (by omega)
    have nc : u6.2.2.1 23 h ≠ 12 ∧ u6.2.2.1 23 h ≠ 15 := by rw [(x2 h f4).1, r3]; exact ⟨f5, f6⟩
    rw [bnd_ck]
    refine r_ck (fun _ => ?_)
    rw [bnd_ck]
    refine r_ck (fun _ => ?_)
    rw [u83, u81, hh, bnd_lt]
    refine r_lt ?_
    rw [bnd_ck]
    refine r_ck (fun _ => ?_)
    rw [bnd_lt]
    refine r_lt ?_
    unfold fb_M_reduce_255
    exact hG _ _ M (Or.inr ⟨by omega, UNQ_s un (SMS_B (SMS_rf (w := u6)) (Or.inl rfl) nc) rfl⟩)
theorem cls_pp {R : MS → Int32 ⊕ Nat → MS → Int32 → Prop} {fC : MS → Int32 → Option (MS × (Int32 ⊕ Nat))} {f : MS → Int32 → Option (MS × Int32)} (c : CTZ m0 w0 K T nm Nk) (hn0 : n0 ≤ 2 * p) (hlv : lv ≤ 6) (hW : ∀ m k w r, FLW w → R m (.inr k) w r)
    (hEnd : ∀ (m w : MS) (n : Nat) (e2 : List Nat × List Nat × Nat) (t2 : SCT) (am om : Int32) (l : List Nat) (σ : List (Nat × Nat)) (r : Int32), SLI N m0 w0 K T nm Nk gd mB wB p n0 e t c0 b0 s m w q n e2 t2 am om l σ → l.headD 0 = φ → (∀ x, σ.head? = some x → rkK (K x.1) < lv ∨ (rkK (K x.1) = lv ∧ lv = 4)) → PP R (fC m (I ((l.getLastD 0 : Nat) : Int))) (f w r))
    (h3 : ∀ (w : MS) (len : Nat) (r : Int32), lv = 3 → w.1 83 = I ((b0 + len + 1 : Nat) : Int) → b0 + len < 3000 → w.2.2.1 79 (b0 + len) = 3 → w.1 67 = 0 → WP w K T q → PK (fun w2 _ => FLW w2) (f w r)) : ∀ (σ : List (Nat × Nat)) (m w : MS) (n : Nat) (e2 : List Nat × List Nat × Nat) (t2 : SCT) (am om : Int32) (l : List Nat) (M M' : Nat) (r : Int32), SLI N m0 w0 K T nm Nk gd mB wB p n0 e t c0 b0 s m w q n e2 t2 am om l σ → l.headD 0 = φ → PP R (bTm (hg_Pa_closeSigns N M m (I (c0 : Nat)) (I (lv : Nat)) (I ((l.getLastD 0 : Nat) : Int))) fC) (bnd (gg_M_reduce N M' w (I (b0 : Nat)) (I (lv : Nat)) r 1) f) := by
  intro σ
  induction σ with
  | nil =>
    intro m w n e2 t2 am om l M M' r h hφ
    obtain ⟨X, W, Rf, Rs, Zf, CL, q0, a1, a2, a3, a4, a5, a6⟩ := id h
    have l0 : ([] : List (Nat × Nat)).length = 0 := rfl
    rw [l0] at a5
    cases M with
    | zero => exact pp_nl
    | succ M =>
      cases M' with
      | zero => exact pp_nr
      | succ M' =>
        show PP R (bTm (hb_Pa_closeSigns_3 N (hg_Pa_closeSigns N M) m (I (c0 : Nat)) (I (lv : Nat)) (I ((l.getLastD 0 : Nat) : Int))) fC) (bnd (fb_M_reduce_6 N (gg_M_reduce N M') w (I (b0 : Nat)) (I (lv : Nat)) r 1) f)
        unfold hb_Pa_closeSigns_3 fb_M_reduce_6 fb_M_reduce_258
        rw [a5.2.2.2.1, a5.2.2.2.2.1, decI (by omega) (by omega) (by omega) (by omega), decide_eq_true (by omega), br_tq, bTm_l, show decide ((1 : Int32) = 0) = false from rfl, br_fq, decI (by omega) (by omega) (by omega) (by omega), decide_eq_true (by omega), br_tq, bnd_s]
        exact hEnd m w n e2 t2 am om l [] r h hφ (fun x hx => by cases hx)
  | cons top σ ih =>
    intro m w n e2 t2 am om l M M' r h hφ
    obtain ⟨q1, b⟩ := top
    obtain ⟨X, W, Rf, Rs, Zf, CL, q0, a1, a2, a3, a4, a5, a6⟩ := id h
    obtain ⟨⟨h1, h2, h3', h4, h5⟩, g2, g3, g4⟩ := id a6
    have ll : ((q1, b) :: σ).length = σ.length + 1 := rfl
    rw [ll] at a1 a5
    have t4 := c.1.1.1
    have k46 : K q1 < 46 := c.1.1.k46 (by omega)
    have rk := rk_k k46 h4
    have rk6 : rkK (K q1) ≤ 6 := by
      have : ∀ k, k < 46 → rkK k ≤ 6 := by decide
      exact this _ k46
    have qT := a1.1.2.2.2.2.1
    have cp : CP m K T q := by
      have := RLP_c c a1.1
      exact ⟨⟨this.1.1, this.1.2⟩, by have := this.2.1; rw [upI_ne (by decide)] at this; exact this, this.2.2⟩
    have wp : WP w K T q := by
      have := RLP_w c a1.1
      exact ⟨this.1, by have := this.2.1; rw [upI_ne (by decide)] at this; exact this, this.2.2⟩
    have w67 : w.1 67 = 0 := by have := a1.1.2.2.2.2.2.2; rw [upI_ne (by decide)] at this; exact this
    have rn : RNs w (e2 :: t2) := WFP_rn (STQ_rn a1) (by rw [upI_ne (by decide)]) rfl
    obtain ⟨d1, d2, d3⟩ := SGE_hd a2 a4.1
    cases M with
    | zero => exact pp_nl
    | succ M =>
      cases M' with
      | zero => exact pp_nr
      | succ M' =>
        show PP R (bTm (hb_Pa_closeSigns_3 N (hg_Pa_closeSigns N M) m (I (c0 : Nat)) (I (lv : Nat)) (I ((l.getLastD 0 : Nat) : Int))) fC) (bnd (fb_M_reduce_6 N (gg_M_reduce N M') w (I (b0 : Nat)) (I (lv : Nat)) r 1) f)
        unfold hb_Pa_closeSigns_3 fb_M_reduce_6
        rw [a5.2.2.2.1, a5.2.2.2.2.1, decI (by omega) (by omega) (by omega) (by omega), decide_eq_false (p := ((c0 + (σ.length + 1) : Nat) : Int) ≤ ((c0 : Nat) : Int)) (by omega), br_fq, show decide ((1 : Int32) = 0) = false from rfl, br_fq, decI (by omega) (by omega) (by omega) (by omega), decide_eq_false (p := ((b0 + (σ.length + 1) : Nat) : Int) ≤ ((b0 : Nat) : Int)) (by omega), br_fq, show c0 + (σ.length + 1) = c0 + σ.length + 1 by omega, show b0 + (σ.length + 1) = b0 + σ.length + 1 by omega, I_sn, I_sn, tnI (n := c0 + σ.length) rfl (by omega), tnI (n := b0 + σ.length) rfl (by omega), h1, h2, tnI (n := q1) rfl (by omega), cp.1.2 q1 (by omega), bTm_ck]
        refine l_ck (fun _ => ?_)
        rw [bTm_ck]
        refine l_ck (fun _ => ?_)
        rw [rk_e k46, bnd_s, bnd_ck]
        refine r_ck (fun _ => ?_)
        rw [bnd_lt]
        refine r_lt ?_
        have stop : (∀ x, ((q1, b) :: σ).head? = some x → rkK (K x.1) < lv ∨ (rkK (K x.1) = lv ∧ lv = 4)) → PP R (bTm (hb_Pa_closeSigns_60 N (hg_Pa_closeSigns N M) m (I ((l.getLastD 0 : Nat) : Int))) fC) (bnd (fb_M_reduce_60 N (gg_M_reduce N M') w (I (b0 : Nat)) (I (lv : Nat)) r (I (rkK (K q1) : Nat))) f) := fun hx => by
          unfold hb_Pa_closeSigns_60 fb_M_reduce_60 fb_M_reduce_61 fb_M_reduce_255
          rw [bTm_l, show decide ((0 : Int32) = 0) = true from rfl, br_tq]
          cases M' with
          | zero => exact pp_nr
          | succ M' =>
            show PP R _ (bnd (fb_M_reduce_6 N (gg_M_reduce N M') w (I (b0 : Nat)) (I (lv : Nat)) r 0) f)
            unfold fb_M_reduce_6 fb_M_reduce_258
            rw [show decide ((0 : Int32) = 0) = true from rfl, br_tq, bnd_s]
            exact hEnd m w n e2 t2 am om l ((q1, b) :: σ) r h hφ hx
        have pop : PP R (bTm (hb_Pa_closeSigns_79 N (hg_Pa_closeSigns N M) m (I (c0 : Nat)) (I (lv : Nat)) (I ((l.getLastD 0 : Nat) : Int)) (I (q1 : Nat)) (I (K q1 : Nat))) fC) (bnd (fb_M_reduce_56 N (gg_M_reduce N M') w (I (b0 : Nat)) (I (lv : Nat)) r (I (rkK (K q1) : Nat))) f) := by
          unfold hb_Pa_closeSigns_79 fb_M_reduce_56
          refine red_pop (e2 := e2) (t2 := t2) (b := b) (len := σ.length) ⟨h4, rk6⟩ (by rw [a5.2.2.2.2.1]; congr 2) (by omega) rn (fun z => ?_) (fun u r2 M2 hu => ?_)
          · obtain ⟨x1, x2, x3, -⟩ := g2 z
            have l2 := nd_len 1400 _ rn.2.2.2.1.1 rn.2.2.2.1.2.1
            exact ⟨by omega, x2, x3⟩
          · obtain ⟨e3, y1, y2, y3, y4⟩ := SLI_pop (u := u) (κ := 0) c hn0 h hu
            rw [add_e y2 y1, bnd_s]
            unfold hm_Pa_chain hb_Pa_chain_0
            rw [tnI (n := l.getLastD 0) rfl (by omega), bTm_bnd_ck]
            refine l_ck (fun _ => ?_)
            show PP R (bTm (lt (upI (upA (adN m n 23 (I (q1 : Nat)) (I (K q1 : Nat)) 0 0) 21 (upd ((adN m n 23 (I (q1 : Nat)) (I (K q1 : Nat)) 0 0).2.2.1 21) (l.getLastD 0) (I ((n + 1 : Nat) : Int)))) 664 ((adN m n 23 (I (q1 : Nat)) (I (K q1 : Nat)) 0 0).1 664 - 1)) (fun w6 => hg_Pa_closeSigns N M w6 (I (c0 : Nat)) (I (lv : Nat)) (I ((n + 1 : Nat) : Int)))) fC) _
            rw [adN_i (by decide), a5.2.2.2.1, show c0 + (σ.length + 1) = c0 + σ.length + 1 by omega, I_sn, bTm_lt]
            refine l_lt ?_
            have := ih _ u (n + 1) e3 t2 am om (l ++ [n + 1]) M M2 r2 y4 (by rw [headD_snoc a4.1]; exact hφ)
            rw [getLastD_snoc] at this
            exact this
        rw [decide_eq_decide.mpr (I_lt (x := (rkK (K q1) : Nat)) (y := (lv : Nat)) (by omega) (by omega) (by omega) (by omega)), decide_eq_decide.mpr (I_lt (x := (lv : Nat)) (y := (rkK (K q1) : Nat)) (by omega) (by omega) (by omega) (by omega)), I_dn (a := rkK (K q1)) (b := lv) (by omega) (by omega) rfl, I_dn (a := lv) (b := 4) (s := 4) (by omega) (by decide) rfl, I_dn (a := rkK (K q1)) (b := 3) (s := 3) (by omega) (by decide) rfl, I_dn (a := rkK (K q1)) (b := 4) (s := 4) (by omega) (by decide) rfl]
        by_cases c1 : rkK (K q1) < lv
        · rw [decide_eq_true (p := ((rkK (K q1) : Nat) : Int) < ((lv : Nat) : Int)) (by omega), br_tq, decide_eq_false (p := ((lv : Nat) : Int) < ((rkK (K q1) : Nat) : Int)) (by omega), br_fq, decide_eq_false (p := rkK (K q1) = lv) (by omega), br_fq]
          exact stop (fun x hx => by cases hx; exact Or.inl c1)
        · rw [decide_eq_false (p := ((rkK (K q1) : Nat) : Int) < ((lv : Nat) : Int)) (by omega), br_fq]
          by_cases c2 : rkK (K q1) = lv
          · rw [decide_eq_true c2, br_tq, decide_eq_false (p := ((lv : Nat) : Int) < ((rkK (K q1) : Nat) : Int)) (by omega), br_fq, br_tq]
            by_cases c4 : lv = 4
            · rw [decide_eq_true c4, br_tq, decide_eq_false (p := rkK (K q1) = 3) (by omega), br_fq, decide_eq_true (p := rkK (K q1) = 4) (by omega), br_tq]
              exact stop (fun x hx => by cases hx; exact Or.inr ⟨c2, c4⟩)
            · rw [decide_eq_false c4, br_fq]
              unfold hb_Pa_closeSigns_63
              rw [I_dn (a := rkK (K q1)) (b := lv) (by omega) (by omega) rfl, decide_eq_true c2, br_tq, I_dn (a := lv) (b := 3) (s := 3) (by omega) (by decide) rfl]
              by_cases c3 : lv = 3
              · rw [decide_eq_true c3, br_tq, decide_eq_true (p := rkK (K q1) = 3) (by omega), br_tq]
                refine pp_rf (RFS_T (RFS_T (rfs_e cp))) (fun mm => ?_)
                unfold fb_M_reduce_60 fb_M_reduce_61 fb_M_reduce_255
                rw [show decide ((0 : Int32) = 0) = true from rfl, br_tq]
                cases M' with
                | zero => exact pk_none
                | succ M' =>
                  show PK _ (bnd (fb_M_reduce_6 N (gg_M_reduce N M') w (I (b0 : Nat)) (I (lv : Nat)) r 0) f)
                  unfold fb_M_reduce_6 fb_M_reduce_258
                  rw [show decide ((0 : Int32) = 0) = true from rfl, br_tq, bnd_s]
                  exact pk_mo (h3 w σ.length r c3 (by rw [a5.2.2.2.2.1]; congr 2) (by omega) (by rw [h2, c2, c3]; rfl) w67 wp) (fun _ _ y => hW _ _ _ _ y)
              · rw [decide_eq_false c3, br_fq, decide_eq_false (p := rkK (K q1) = 3) (by omega), br_fq, decide_eq_false (p := rkK (K q1) = 4) (by omega), br_fq]
                exact pop
          · rw [decide_eq_false c2, br_fq, decide_eq_true (p := ((lv : Nat) : Int) < ((rkK (K q1) : Nat) : Int)) (by omega), br_tq]
            unfold hb_Pa_closeSigns_63
            rw [I_dn (a := rkK (K q1)) (b := lv) (by omega) (by omega) rfl, decide_eq_false c2, br_fq]
            exact pop
end
end
section
set_option maxRecDepth 100000
section
variable {m0 w0 m w v u mB wB m2 w2 m3 w3 mi w' : MS} {K nm Nk W W2 : Nat → Nat} {T p n N q X Y n2 p0 n0 n3 p2 ν μ κ o s L d D k q1 q2 lo li ni t0 b c0 b0 tt e0 cur lv : Nat} {sc sc1 sc2 sc3 t t2 : SCT} {e e2 : List Nat × List Nat × Nat} {gd Rf Zf Rg Zg : Bool} {l : List Nat} {σ : List (Nat × Nat)} {r v1 v2 v3 v4 v5 x y am om am2 om2 : Int32} {CL CM : Int32 × Int32 × Int32 → Prop} {NC : Nat → Prop} {B1 B2 BC : MS → Prop}
theorem SGS_le : ∀ {σ : List (Nat × Nat)} {cur : Nat}, SGS m w K T c0 b0 tt am om e0 cur σ → ∀ x y, σ.head? = some x → y ∈ σ → rkK (K y.1) ≤ rkK (K x.1)
  | [], _, _, x, y, hx, _ => by cases hx
  | (q, b) :: σ, cur, ⟨h1, h2, h3, h4⟩, x, y, hx, hy => by
    cases hx
    rcases List.mem_cons.mp hy with rfl | hy
    · exact Nat.le_refl _
    · cases hh : σ.head? with
      | none =>
        cases σ with
        | nil => cases hy
        | cons a b => cases hh
      | some z => exact Nat.le_trans (SGS_le h4 z y hh hy) (h3 z hh).1
theorem SGS_am : ∀ {σ : List (Nat × Nat)} {cur : Nat}, (∀ x, x ∈ σ → (rkK (K x.1) = 2 → am2 = am) ∧ (rkK (K x.1) = 1 → om2 = om)) → SGS m w K T c0 b0 tt am om e0 cur σ → SGS m w K T c0 b0 tt am2 om2 e0 cur σ
  | [], _, _, _ => trivial
  | (q, b) :: σ, cur, hx, ⟨h1, h2, h3, h4⟩ => by
    have hq := hx (q, b) List.mem_cons_self
    refine ⟨h1, fun z => ?_, h3, SGS_am (fun x hh => hx x (List.mem_cons_of_mem _ hh)) h4⟩
    obtain ⟨g1, g2, g3, g4, g5⟩ := h2 z
    exact ⟨g1, g2, g3, fun y => by rw [hq.1 y]; exact g4 y, fun y => by rw [hq.2 y]; exact g5 y⟩
theorem STQ_low (h : STQ m0 w0 K T Nk gd m w p n sc s m2 w2 q n2 sc2 X W Rf Zf CL) {a b : Nat} (ha : x = I (a : Nat)) (hb : y = I (b : Nat)) (ha2 : a ≤ (m.1 664).toNatClampNeg) (hb2 : b ≤ (w.1 83).toNatClampNeg) (ha3 : a ≤ 4002) (hb3 : b ≤ 3000) : STQ m0 w0 K T Nk gd (upI m 664 x) (upI w 83 y) p n sc s (upI m2 664 x) (upI w2 83 y) q n2 sc2 X W Rf Zf CL := by
  obtain ⟨a1, a2, a3, a4, a5, a6, a7⟩ := h
  have ea : ((upI m 664 x).1 664).toNatClampNeg = a := by rw [upI_at, ha]; exact tnI rfl (by omega)
  have eb : ((upI w 83 y).1 83).toNatClampNeg = b := by rw [upI_at, hb]; exact tnI rfl (by omega)
  refine ⟨?_, ⟨a2.1, by rw [upI_ne (by decide)]; exact a2.2.1, a2.2.2⟩, a3, ⟨fun k hk => ?_, a4.2.1, fun j hj => a4.2.2 j (by rw [ea] at hj; omega)⟩, ?_, a6, a7⟩
  · obtain ⟨h1, h2, h3, h4, h5, h6, h7⟩ := a1
    exact ⟨⟨fun k hk => by rw [upI_ne (by omega)]; exact h1.1 k hk, h1.2⟩, ⟨fun k hk => by rw [upI_ne (by rintro rfl; revert hk; decide)]; exact h2.1 k hk, h2.2⟩, by rw [upI_ne (by decide)]; exact h3, by rw [upI_ne (by decide)]; exact h4, h5, by rw [upI_ne (by decide), upI_ne (by decide)]; exact h6, by rw [upI_ne (by decide)]; exact h7⟩
  · by_cases z : k = 664
    · subst z; rw [upI_at, upI_at]
    · rw [upI_ne z, upI_ne z]; exact a4.1 k hk
  · obtain ⟨b1, b2, b3, b4, b5, b6, b7, f, g, b8, b9, b10⟩ := a5
    refine ⟨WFP_rn b1 (upI_ne (by decide)) rfl, b2, b3, b4, by rw [upI_ne (by decide), upI_ne (by decide)]; exact b5, by rw [upI_ne (by decide), upI_ne (by decide)]; exact b6, ⟨fun k hk => ?_, b7.2.1, fun j hj => b7.2.2.1 j (by rw [upI_ne (by decide)] at hj; exact hj), fun j hj => b7.2.2.2.1 j (by rw [upI_ne (by decide)] at hj; exact hj), fun i i1 i2 j hj => b7.2.2.2.2 i i1 i2 j (by rw [eb] at hj; omega)⟩, f, g, ⟨by rw [upI_ne (by decide)]; exact b8.1, by rw [upI_ne (by decide)]; exact b8.2.1, b8.2.2⟩, b9, b10⟩
    by_cases z : k = 83
    · subst z; rw [upI_at, upI_at]
    · rw [upI_ne z, upI_ne z]; exact b7.1 k hk
theorem SLI_unit (c : CTZ m0 w0 K T nm Nk) (hn0 : n0 ≤ 2 * p) (h : SLI N m0 w0 K T nm Nk gd mB wB p n0 e t c0 b0 s m w q n e2 t2 am om l σ) {ε : Int32} (hE : EXZ N m0 w0 K T nm Nk q n gd (e2 :: t2) o NC0 m w m2 (.inl ε) w2 r) (sm : SMS w2 u) (h69 : u.1 69 = w2.1 69) (hs : 1 ≤ s) : ∃ (μ q2 n2 : Nat) (e3 : List Nat × List Nat × Nat) (t3 : SCT), ε = I (μ : Nat) ∧ l.getLastD 0 ≤ 8015 ∧ q < q2 ∧ SLI N m0 w0 K T nm Nk gd mB wB p n0 e t c0 b0 (s + 1) (upA m2 21 (upd (m2.2.2.1 21) (l.getLastD 0) (I (μ : Nat)))) u q2 n2 e3 t3 am om (l ++ [μ]) σ := by
  obtain ⟨X1, W1, Rf1, Rs1, Zf1, CL1, q0, a1, a2, a3, a4, a5, a6⟩ := h
  obtain ⟨q2, n2, μ, sc3, X, W, Rf, Zf, CL, b1, b2, b3, b4, b5, b6, b7, kk, k1, k2, k3, k4⟩ := hE
  have b4u := STQ_s b4 sm h69
  have na := a1.2.1
  have nb := b4.2.1
  have q2T := b4.1.2.2.2.2.1
  have t4 := c.1.1.1
  obtain ⟨d1, d2, d3⟩ := SGE_hd a2 a4.1
  have m664 : (m.1 664).toNatClampNeg = c0 + σ.length := by rw [a5.2.2.2.1]; exact tnI rfl (by omega)
  have w83 : (w.1 83).toNatClampNeg = b0 + σ.length := by rw [a5.2.2.2.2.1]; exact tnI rfl (by omega)
  have lo := STQ_low (a := c0) (b := b0) b4u a5.1 a5.2.1 (by omega) (by omega) (by omega) (by omega)
  have st := STQ_tr a1 lo
  have s3 := STQ_A (L := l.getLastD 0) (k := 21) (y := I (μ : Nat)) st (by omega) (by decide)
  cases sc3 with
  | nil =>
    have := SCX_len b4.2.2.2.2.1.2.1
    cases this
  | cons e3 t3 =>
    have sx := b4.2.2.2.2.1
    have tt : tot t3 = tot t2 := (BDs_len sx.2.1.2.2).2
    have len3 : e2.1.length ≤ e3.1.length := sx.2.1.1.length_le
    refine ⟨μ, q2, n2, e3, t3, b1, by omega, b3, max X1 X, mrg q W1 W, Rf1 || Rf, Rs1 || Rf, Zf1 || Zf, (fun x => CL1 x ∨ CL x), q2, ?_, ?_, ?_, ⟨by simp, ?_⟩, ⟨a5.1, a5.2.1, a5.2.2.1, ?_, ?_, a5.2.2.2.2.2.1, Nat.le_refl _, fun j h1 h2 => absurd h2 (by omega)⟩, ?_⟩
    · exact STQ_s2 (s := s + σ.length + 1) s3 (by omega)
    · generalize hB : upA m2 21 (upd (m2.2.2.1 21) (l.getLastD 0) (I (μ : Nat))) = B
      have r21 : B.2.2.1 21 = upd (m2.2.2.1 21) (l.getLastD 0) (I (μ : Nat)) := by rw [← hB]; exact upA_at
      have ro : ∀ k, k ≠ 21 → B.2.2.1 k = m2.2.2.1 k := fun k hk => by rw [← hB]; exact upA_no hk
      have ri : ∀ k, B.1 k = m2.1 k := fun k => by rw [← hB]; rfl
      have ndB : ∀ j, nod B j = nod m2 j := fun j => by
        unfold nod
        rw [ro 16 (by decide), ro 17 (by decide), ro 18 (by decide), ro 19 (by decide), ro 20 (by decide)]
      have ko := b4.2.2.1
      have kc : Kcc m B := Kc_tr (PCG_k b4.2.2.2.1) ⟨fun k _ => ri k, fun k hk => ro k (by omega)⟩
      have e21 : B.2.2.1 21 μ = 0 := by rw [r21, upd_no (by omega)]; exact b5
      have := SGE_app (l2 := [μ]) (n3 := n2) (W := mrg q W1 W) (m3 := B) (by omega) kc (fun _ => by show n < μ; omega) (BCo_st (N := N) (CL := CL)) (by omega) (fun _ j j1 j2 => ⟨(ndB j).trans (ko j j2).1, fun z => by rw [r21, upd_no z]; exact (ko j j2).2⟩) (fun _ => by rw [r21, upd_at]; rfl) (SGE_w (fun j _ h => mrg_l (by omega)) a2) (q := q2) (sc3 := e3 :: t3) (Y := X) (Rg := Rf) (Zg := Zf) (am3 := am) (om3 := om) ?_
      · exact SGE_bc (fun m => BCo_or) this
      · refine ⟨⟨by omega, b2.2⟩, e21, Or.inl ⟨q, q2, e3 :: t3, X, 0, Rf, false, Zf, false, BCo N CL, (fun _ => False), ⟨a5.2.2.2.2.2.2.1, by omega, Nat.le_refl _⟩, a5.2.2.2.2.2.2.2, ⟨m2, n, n2, kk, EXN_w (fun j h _ => mrg_r h) b6, ⟨fun j j1 j2 => ⟨ndB j, fun z => by rw [r21, upd_no (by omega)]⟩, ⟨fun k _ => ri k, fun k hk => ro k (by omega)⟩⟩, ⟨by omega, Nat.le_refl _⟩, ⟨by rw [ro 16 (by decide)]; exact k1, k2⟩, b2, fun z => absurd rfl z⟩, ⟨sx.2.2.2.1.1, SCX_len sx.2.1, sx.2.2.2.1.2⟩, ⟨⟨rfl, rfl, rfl, rfl, rfl, fun _ z => z⟩, rfl, rfl⟩, by omega, (Bool.or_false _).symm, (Bool.or_false _).symm, fun m => (iff_of_eq (or_false _)).symm, fun _ _ _ => Iff.rfl⟩⟩
    · rw [a3]
      cases Rs1 <;> cases Rf <;> cases gd <;> cases pd4 K σ <;> rfl
    · rw [getLastD_snoc, upA_at, upd_no (by omega)]; exact b5
    · show m2.1 664 = _
      rw [b4.2.2.2.1.1 664 (by decide)]; exact a5.2.2.2.1
    · rw [b4u.2.2.2.2.1.2.2.2.2.2.2.1.1 83 (by decide)]; exact a5.2.2.2.2.1
    · rw [tt]
      refine SGS_k (σ := σ) (fun j hj => ?_) (fun k k1 k2 j hj => ?_) (fun a f1 f2 => ?_) (Nat.le_refl _) len3 a6
      · rw [upA_no (by decide)]; exact b4.2.2.2.1.2.2 j (by omega)
      · exact b4u.2.2.2.2.1.2.2.2.2.2.2.1.2.2.2.2 k k1 k2 j (by omega)
      · obtain ⟨-, -, -, -, -, -, -, a', b', g1, -, g3⟩ := b4u.2.2.2.2.1
        have ea : a' = a := by
          have := g1.1.symm.trans f1
          have := (I_eq (x := (a' : Nat)) (y := (a : Nat)) (by omega) (by omega) (by omega) (by omega)).mp this
          omega
        subst ea
        exact ⟨b', ⟨g1.2.1, g1.2.2.1, g1.2.2.2⟩, g3⟩
end
end
section
set_option maxRecDepth 100000
def SMT (w v : MS) : Prop := (∀ k, k ∈ SMI → v.1 k = w.1 k) ∧ (∀ k, SMX k → k < 79 → v.2.2.1 k = w.2.2.1 k) ∧ (∀ k, 79 ≤ k → k ≤ 82 → ∀ j, j < (w.1 83).toNatClampNeg → v.2.2.1 k j = w.2.2.1 k j) ∧ ∀ a : Nat, w.1 32 = I (a : Nat) → a ≤ 100000 → ∃ b : Nat, (v.1 32 = I (b : Nat) ∧ a ≤ b ∧ b ≤ 100000) ∧ NKP a w v ∧ ∀ j, a ≤ j → j < b → v.2.2.1 23 j ≠ 12 ∧ v.2.2.1 23 j ≠ 15
section
variable {m0 w0 m w v u mB wB m2 w2 m3 w3 mi w' w1 mX : MS} {K nm Nk W W2 : Nat → Nat} {T p n N q X Y n2 n' p0 n0 n3 p2 ν μ κ o s L d D k q1 q2 lo li ni t0 b c0 b0 tt e0 cur lv : Nat} {sc sc1 sc2 sc3 t t2 : SCT} {e e2 : List Nat × List Nat × Nat} {gd Rf Zf Rg Zg : Bool} {l l' : List Nat} {σ : List (Nat × Nat)} {r v1 v2 v3 v4 v5 x y am om am2 om2 : Int32} {CL CM : Int32 × Int32 × Int32 → Prop} {NC : Nat → Prop} {B1 B2 BC : MS → Prop}
theorem STW_t (h : STW Nk K p p2 sc sc2 X W Rf Zf CL w v) (k : SMT v u) : STW Nk K p p2 sc sc2 X W Rf Zf CL w u := by
  obtain ⟨a1, a2, a3, a4, a5, a6, a7, a, b, a8, a9, a10⟩ := h
  obtain ⟨c, k3, k4, k5⟩ := k.2.2.2 b a8.2.1 a8.2.2.2
  refine ⟨RNs_e a1 (k.1 65 (by decide)) (fun j j1 j2 => k.2.1 j (by unfold SMX; omega) (by omega)), a2, a3, a4, by rw [k.1 66 (by decide)]; exact a5, by rw [k.1 72 (by decide)]; exact a6, ?_, a, c, ⟨a8.1, k3.1, by omega, k3.2.2⟩, fun x => ?_, NKP_tr a10 k4 a8.2.2.1⟩
  · refine WFE_tr a7 ⟨fun j hj => k.1 j ?_, fun j hj => k.2.1 j (Or.inl hj) (by omega), fun j _ => by rw [k.2.1 74 (by unfold SMX; omega) (by decide)], fun j _ => by rw [k.2.1 76 (by unfold SMX; omega) (by decide)], fun i i1 i2 j hj => k.2.2.1 i i1 i2 j hj⟩
    unfold SMI; simp only [List.mem_cons, List.not_mem_nil, or_false] at hj ⊢; omega
  · rw [CSY_split a8.2.2.1 k3.2.1, CSY_k k4, a9]
    constructor
    · rintro (z | ⟨j, j1, j2, -⟩)
      · exact z
      · exfalso
        rcases j2 with j2 | j2
        · exact (k5 j j1.1 j1.2).1 j2.1
        · exact (k5 j j1.1 j1.2).2 j2.1
    · exact Or.inl
theorem adN_cm {a b' c d' f : Int32} : adN (advc m q) n a b' c d' f = advc (adN m n a b' c d' f) q := by
  unfold advc
  exact adN_up (by decide)
theorem SGE_k (hn : n2 ≤ n3) (hk : Kcc m2 m3) (hs : ∀ j, lo < j → j ≤ n2 → nod m3 j = nod m2 j ∧ m3.2.2.1 21 j = m2.2.2.1 21 j) (h : SGE N K nm gd m2 lo n2 W l am om p p2 sc sc2 X Rf Zf BC am2 om2) (hlo : lo ≤ n2 := by omega) (h21 : l ≠ [] → m2.2.2.1 21 (l.getLastD 0) = 0) (hl : l ≠ [] → lo < l.getLastD 0 ∧ l.getLastD 0 ≤ n2) : SGE N K nm gd m3 lo n3 W l am om p p2 sc sc2 X Rf Zf BC am2 om2 := by
  have := SGE_app (l2 := []) (sc3 := sc2) (Y := 0) (Rg := false) (Zg := false) (BD := fun _ => False) (q := p2) (am3 := am2) (om3 := om2) hn hk (fun z => absurd rfl z) (fun _ _ _ => Iff.rfl) hlo (fun _ j j1 j2 => ⟨(hs j j1 j2).1, fun _ => (hs j j1 j2).2⟩) (fun z => by rw [(hs _ (hl z).1 (hl z).2).2, h21 z]; rfl) h ⟨⟨rfl, rfl, rfl, rfl, rfl, fun _ z => z⟩, rfl, rfl⟩
  rw [show max X 0 = X by omega, Bool.or_false, Bool.or_false, List.append_nil] at this
  exact SGE_bc (fun m => ⟨Or.inl, fun z => z.elim id False.elim⟩) this
theorem STQ_t (h : STQ m0 w0 K T Nk gd mB wB p n sc s m w q n2 sc2 X W Rf Zf CL) (k : SMT w v) (hv : v.1 69 = w.1 69) : STQ m0 w0 K T Nk gd mB wB p n sc s m v q n2 sc2 X W Rf Zf CL := by
  obtain ⟨a1, a2, a3, a4, a5, a6⟩ := h
  obtain ⟨h1, h2, h3, h4, h5, h6, h7⟩ := a1
  exact ⟨⟨h1, Kt_tr h2 ⟨fun j hj => k.1 j (by unfold TIN at hj; unfold SMI; simp only [List.mem_cons, List.not_mem_nil, or_false] at hj ⊢; omega), fun j hj => k.2.1 j (by unfold TRW at hj; unfold SMX; simp only [List.mem_cons, List.not_mem_nil, or_false] at hj; omega) (by unfold TRW at hj; simp only [List.mem_cons, List.not_mem_nil, or_false] at hj; omega)⟩, h3, by rw [hv]; exact h4, h5, by rw [k.1 70 (by decide)]; exact h6, by rw [k.1 67 (by decide)]; exact h7⟩, a2, a3, a4, STW_t a5 k, a6⟩
def PSS (K : Nat → Nat) (q b0 len eb : Nat) (w w1 : MS) : Prop := (∀ k, k ≠ 32 → w1.1 k = w.1 k) ∧ (∀ k, SMX k → k < 79 → w1.2.2.1 k = w.2.2.1 k) ∧ (∀ k, 79 ≤ k → k ≤ 82 → ∀ j, j ≠ b0 + len → w1.2.2.1 k j = w.2.2.1 k j) ∧ (w1.2.2.1 79 (b0 + len) = I (rkK (K q) : Nat) ∧ w1.2.2.1 80 (b0 + len) = I (q : Nat)) ∧ (rkK (K q) ≤ 2 → w1.2.2.1 82 (b0 + len) = I (eb : Nat) ∧ ∃ h a : Nat, w1.2.2.1 81 (b0 + len) = I (h : Nat) ∧ w1.1 32 = I (a : Nat) ∧ a ≤ 100000 ∧ h < a ∧ w1.2.2.1 23 h ≠ 12 ∧ w1.2.2.1 23 h ≠ 15) ∧ ∀ a : Nat, w.1 32 = I (a : Nat) → a ≤ 100000 → ∃ b : Nat, (w1.1 32 = I (b : Nat) ∧ a ≤ b ∧ b ≤ 100000) ∧ NKP a w w1 ∧ ∀ j, a ≤ j → j < b → w1.2.2.1 23 j ≠ 12 ∧ w1.2.2.1 23 j ≠ 15
theorem SLI_push (c : CTZ m0 w0 K T nm Nk) (hn0 : n0 ≤ 2 * p) (h : SLI N m0 w0 K T nm Nk gd mB wB p n0 e t c0 b0 s m w q n e2 t2 am om l σ) (htop : ∀ x, σ.head? = some x → rkK (K x.1) < rkK (K q) ∨ (rkK (K x.1) = rkK (K q) ∧ rkK (K q) = 4)) (h1 : 1 ≤ rkK (K q)) (hq : q < T) (hlen : b0 + σ.length < 3000) (hlen2 : c0 + σ.length < 4002) (hw1 : PSS K q b0 σ.length e2.1.length w w1) (hw2 : ((gd && decide (rkK (K q) = 4)) = false ∧ w2 = w1) ∨ ((gd && decide (rkK (K q) = 4)) = true ∧ w2.1 72 ≠ 0 ∧ (∀ k, k ≠ 71 → k ≠ 72 → w2.1 k = w1.1 k) ∧ w2.2.2.1 = w1.2.2.1)) (hm : (3 ≤ rkK (K q) ∧ mX = upI (upA m 34 (upd (m.2.2.1 34) (c0 + σ.length) (I (q : Nat)))) 664 (I ((c0 + σ.length + 1 : Nat) : Int)) ∧ n' = n ∧ l' = l ∧ am2 = am ∧ om2 = om) ∨ (rkK (K q) ≤ 2 ∧ mX = upA (adN (upI (upA m 34 (upd (m.2.2.1 34) (c0 + σ.length) (I (q : Nat)))) 664 (I ((c0 + σ.length + 1 : Nat) : Int))) n 24 (I (q : Nat)) (I (K q : Nat)) 0 0) 21 (upd ((adN (upI (upA m 34 (upd (m.2.2.1 34) (c0 + σ.length) (I (q : Nat)))) 664 (I ((c0 + σ.length + 1 : Nat) : Int))) n 24 (I (q : Nat)) (I (K q : Nat)) 0 0).2.2.1 21) (l.getLastD 0) (I ((n + 1 : Nat) : Int))) ∧ n' = n + 1 ∧ l' = l ++ [n + 1] ∧ ((K q = 6 ∧ am2 = I (tot (e2 :: t2) : Nat) ∧ om2 = om) ∨ (K q = 16 ∧ am2 = am ∧ om2 = I (tot (e2 :: t2) : Nat))))) : SLI N m0 w0 K T nm Nk gd mB wB p n0 e t c0 b0 s (advc mX q) (upI (upI w2 83 (I ((b0 + σ.length + 1 : Nat) : Int))) 69 (I ((q + 1 : Nat) : Int))) (q + 1) n' e2 t2 am2 om2 l' ((q, e2.1.length) :: σ) := by
  obtain ⟨X, W, Rf, Rs, Zf, CL, q0, a1, a2, a3, a4, a5, a6⟩ := h
  obtain ⟨p1, p2, p3, p4, p5, p6⟩ := hw1
  have t4 := c.1.1.1
  have k46 : K q < 46 := c.1.1.k46 (by omega)
  have rk := rk_k k46 h1
  have kq3 : K q ≠ 3 := fun z => by rw [z] at h1; exact absurd h1 (by decide)
  obtain ⟨d1, d2, d3⟩ := SGE_hd a2 a4.1
  have na := a1.2.1
  have bB : (upI w 83 (wB.1 83)).1 83 = wB.1 83 := upI_at
  have bN : (wB.1 83).toNatClampNeg = b0 := by rw [a5.2.1]; exact tnI rfl (by omega)
  have sm : SMT (upI w 83 (wB.1 83)) (upI w1 83 (wB.1 83)) := by
    refine ⟨fun k hk => ?_, p2, fun k k1 k2 j hj => ?_, fun a f1 f2 => ?_⟩
    · by_cases z : k = 83
      · subst z; rw [upI_at, upI_at]
      · rw [upI_ne z, upI_ne z]; exact p1 k (by rintro rfl; revert hk; decide)
    · rw [bB, bN] at hj
      exact p3 k k1 k2 j (by omega)
    · rw [upI_ne (by decide)] at f1
      obtain ⟨b', g1, g2, g3⟩ := p6 a f1 f2
      exact ⟨b', ⟨by rw [upI_ne (by decide)]; exact g1.1, g1.2⟩, g2, g3⟩
  have s1 := STQ_t a1 sm (by rw [upI_ne (by decide), upI_ne (by decide)]; exact p1 69 (by decide))
  have w2f : (∀ k, k ≠ 71 → k ≠ 72 → w2.1 k = w1.1 k) ∧ w2.2.2.1 = w1.2.2.1 := by
    rcases hw2 with ⟨-, rfl⟩ | ⟨-, -, z⟩
    · exact ⟨fun _ _ _ => rfl, rfl⟩
    · exact z
  have s2 : STQ m0 w0 K T Nk gd mB wB p n0 (e :: t) (s + σ.length) (upI m 664 (mB.1 664)) (upI w2 83 (wB.1 83)) q n (e2 :: t2) X W (Rf || (gd && decide (rkK (K q) = 4))) Zf CL := by
    rcases hw2 with ⟨z, rfl⟩ | ⟨z, z1, z2, z3⟩
    · rw [z, Bool.or_false]; exact s1
    · rw [z, Bool.or_true]
      refine STQ_rule s1 (by rw [upI_ne (by decide)]; exact z1) (fun k k1 k2 => ?_) z3
      by_cases y : k = 83
      · subst y; rw [upI_at, upI_at]
      · rw [upI_ne y, upI_ne y]; exact z2 k k1 k2
  have e69 : upI (upI (upI w2 83 (I ((b0 + σ.length + 1 : Nat) : Int))) 69 (I ((q + 1 : Nat) : Int))) 83 (wB.1 83) = adv (upI w2 83 (wB.1 83)) q := by
    unfold adv
    rw [upI_cm (a := 69) (c := 83) (by decide), upI_2]
  have s3 : STQ m0 w0 K T Nk gd mB wB p n0 (e :: t) (s + σ.length) (upI (upA m 34 (upd (m.2.2.1 34) (c0 + σ.length) (I (q : Nat)))) 664 (mB.1 664)) (upI w2 83 (wB.1 83)) q n (e2 :: t2) X W (Rf || (gd && decide (rkK (K q) = 4))) Zf CL := by
    obtain ⟨b1, b2, b3, b4, b5⟩ := s2
    obtain ⟨f1, f2, f3⟩ := b4
    refine ⟨⟨⟨b1.1.1, fun k hk => by show (upA m 34 _).2.2.1 k = _; rw [upA_no (by omega)]; exact b1.1.2 k hk⟩, b1.2⟩, b2, fun j hj => ?_, ⟨f1, fun k hk => by show (upA m 34 _).2.2.1 k = _; rw [upA_no (by omega)]; exact f2 k hk, fun j hj => ?_⟩, b5⟩
    · have := b3 j hj
      unfold nod at this ⊢
      show ((upA m 34 _).2.2.1 16 j, (upA m 34 _).2.2.1 17 j, (upA m 34 _).2.2.1 18 j, (upA m 34 _).2.2.1 19 j, (upA m 34 _).2.2.1 20 j) = _ ∧ (upA m 34 _).2.2.1 21 j = _
      rw [upA_no (by decide), upA_no (by decide), upA_no (by decide), upA_no (by decide), upA_no (by decide), upA_no (by decide)]
      exact this
    · show (upA m 34 _).2.2.1 34 j = _
      rw [upA_at, upd_no (by rw [a5.1, tnI (n := c0) rfl (by omega)] at hj; omega)]
      exact f3 j hj
  generalize hm1 : upA m 34 (upd (m.2.2.1 34) (c0 + σ.length) (I (q : Nat))) = m1 at hm s3
  have i1 : ∀ k, m1.1 k = m.1 k := fun k => by rw [← hm1]; rfl
  have r1 : ∀ k, k ≠ 34 → m1.2.2.1 k = m.2.2.1 k := fun k hk => by rw [← hm1]; exact upA_no hk
  have r34 : m1.2.2.1 34 = upd (m.2.2.1 34) (c0 + σ.length) (I (q : Nat)) := by rw [← hm1]; exact upA_at
  have nd1 : ∀ j, nod m1 j = nod m j := fun j => by
    unfold nod
    rw [r1 16 (by decide), r1 17 (by decide), r1 18 (by decide), r1 19 (by decide), r1 20 (by decide)]
  have ll : ((q, e2.1.length) :: σ).length = σ.length + 1 := rfl
  have pdn : pd4 K ((q, e2.1.length) :: σ) = (decide (rkK (K q) = 4) || pd4 K σ) := rfl
  have stk : ∀ (mX : MS), (mX.2.2.1 34 = m1.2.2.1 34) → ((rkK (K q) = 2 → am2 = I ((tot t2 + e2.1.length : Nat) : Int)) ∧ (rkK (K q) = 1 → om2 = I ((tot t2 + e2.1.length : Nat) : Int))) → (∀ x, x ∈ σ → (rkK (K x.1) = 2 → am2 = am) ∧ (rkK (K x.1) = 1 → om2 = om)) → SGS (advc mX q) (upI (upI w2 83 (I ((b0 + σ.length + 1 : Nat) : Int))) 69 (I ((q + 1 : Nat) : Int))) K T c0 b0 (tot t2) am2 om2 e.1.length e2.1.length ((q, e2.1.length) :: σ) := fun mX x34 xam xo => by
    have r2 : (upI (upI w2 83 (I ((b0 + σ.length + 1 : Nat) : Int))) 69 (I ((q + 1 : Nat) : Int))).2.2.1 = w1.2.2.1 := w2f.2
    have i2 : (upI (upI w2 83 (I ((b0 + σ.length + 1 : Nat) : Int))) 69 (I ((q + 1 : Nat) : Int))).1 32 = w1.1 32 := by
      rw [upI_ne (by decide), upI_ne (by decide)]; exact w2f.1 32 (by decide) (by decide)
    refine ⟨⟨?_, by rw [r2]; exact p4.1, by rw [r2]; exact p4.2, h1, hq⟩, fun z => ?_, fun x hx => ?_, ?_⟩
    · show mX.2.2.1 34 _ = _
      rw [x34, r34, upd_at]
    · obtain ⟨y1, h', a', y2, y3, y4⟩ := p5 z
      refine ⟨⟨a1.2.2.2.2.1.2.1.1.length_le, Nat.le_refl _⟩, by rw [r2]; exact y1, ⟨h', a', by rw [r2]; exact y2, by rw [i2]; exact y3, by rw [r2]; exact y4⟩, xam.1, xam.2⟩
    · rcases htop x hx with z | z
      · exact ⟨by omega, fun y => by omega⟩
      · exact ⟨by omega, fun _ => z.2⟩
    · have base : SGS (advc mX q) (upI (upI w2 83 (I ((b0 + σ.length + 1 : Nat) : Int))) 69 (I ((q + 1 : Nat) : Int))) K T c0 b0 (tot t2) am om e.1.length e2.1.length σ := by
        refine SGS_k (σ := σ) (fun j hj => ?_) (fun k k1 k2 j hj => ?_) (fun a f1 f2 => ?_) (Nat.le_refl _) (Nat.le_refl _) a6
        · show mX.2.2.1 34 j = _
          rw [x34, r34, upd_no (by omega)]
        · rw [r2]; exact p3 k k1 k2 j (by omega)
        · obtain ⟨b', g1, g2, -⟩ := p6 a f1 f2
          refine ⟨b', ⟨by rw [i2]; exact g1.1, g1.2⟩, ?_⟩
          unfold NKP
          rw [r2]
          exact g2
      rw [show (if rkK (K q) ≤ 2 then e2.1.length else e2.1.length) = e2.1.length by split <;> rfl]
      exact SGS_am xo base
  have a3n : (Rf || (gd && decide (rkK (K q) = 4))) = (Rs || (gd && pd4 K ((q, e2.1.length) :: σ))) := by
    rw [a3, pdn]
    cases Rs <;> cases gd <;> cases pd4 K σ <;> cases decide (rkK (K q) = 4) <;> rfl
  have gp : ∀ j, q ≤ j → j < q + 1 → K j ≠ 3 := fun j h1 h2 => by rw [show j = q by omega]; exact kq3
  have gq : q0 ≤ q + 1 ∧ ∀ j, q0 ≤ j → j < q + 1 → K j ≠ 3 := ⟨by have := a5.2.2.2.2.2.2.1; omega, fun j j1 j2 => by
      by_cases z : j = q
      · rw [z]; exact kq3
      · exact a5.2.2.2.2.2.2.2 j j1 (by omega)⟩
  rcases hm with ⟨hk3, rfl, rfl, rfl, rfl, rfl⟩ | ⟨hk2, rfl, rfl, rfl, hao⟩
  · have s4 := STQ_ad s3 hq kq3
    have em : upI (advc (upI m1 664 (I ((c0 + σ.length + 1 : Nat) : Int))) q) 664 (mB.1 664) = advc (upI m1 664 (mB.1 664)) q := by
      unfold advc
      rw [upI_cm (a := 665) (c := 664) (by decide), upI_2]
    refine ⟨X, W, _, Rs, Zf, CL, q0, ?_, ?_, a3n, ⟨a4.1, ?_⟩, ⟨a5.1, a5.2.1, by rw [ll]; omega, ?_, ?_, by rw [ll]; omega, gq⟩, stk _ rfl ⟨fun z => by omega, fun z => by omega⟩ (fun x hx => ⟨fun _ => rfl, fun _ => rfl⟩)⟩
    · rw [e69, em, ll]
      exact STQ_s2 s4 (by omega)
    · have kc : Kcc m (advc (upI m1 664 (I ((c0 + σ.length + 1 : Nat) : Int))) q) := ⟨fun k hk => by unfold advc; rw [upI_ne (by omega), upI_ne (by omega)]; exact i1 k, fun k hk => r1 k (by omega)⟩
      exact SGE_k (Nat.le_refl _) kc (fun j _ _ => ⟨nd1 j, by show m1.2.2.1 21 j = _; rw [r1 21 (by decide)]⟩) a2 (by omega) (fun _ => a4.2) (fun _ => ⟨by omega, d3⟩)
    · show m1.2.2.1 21 _ = 0
      rw [r1 21 (by decide)]; exact a4.2
    · unfold advc
      rw [upI_ne (by decide), upI_at, ll]; congr 2
    · rw [upI_ne (by decide), upI_at, ll]; congr 2
  · have tl : tot (e2 :: t2) = tot t2 + e2.1.length := rfl
    have s4 := STQ_ad s3 hq kq3
    have s5 := STQ_add (s := s + σ.length + 1) (a := 24) (b := I (q : Nat)) (c := I (K q : Nat)) (d := 0) (f := 0) s4
    have s6 := STQ_A (L := l.getLastD 0) (k := 21) (y := I ((n + 1 : Nat) : Int)) s5 (by omega) (by decide)
    rw [adN_cm, adN_up (by decide)] at s6
    rw [adN_up (by decide)]
    have Ao := adN_o (m := m1) (n := n) (a := 24) (b := I (q : Nat)) (c := I (K q : Nat)) (d := 0) (f := 0)
    have An := adN_nod (m := m1) (n := n) (a := 24) (b := I (q : Nat)) (c := I (K q : Nat)) (d := 0) (f := 0)
    have Ai : ∀ k, k ≠ 306 → (adN m1 n 24 (I (q : Nat)) (I (K q : Nat)) 0 0).1 k = m1.1 k := fun k hk => adN_i hk
    have Ar : ∀ k, k < 16 ∨ 21 < k → (adN m1 n 24 (I (q : Nat)) (I (K q : Nat)) 0 0).2.2.1 k = m1.2.2.1 k := fun k hk => adN_r hk
    generalize hA : adN m1 n 24 (I (q : Nat)) (I (K q : Nat)) 0 0 = A at s6 Ao An Ai Ar
    have e0 : upA (upI A 664 (I ((c0 + σ.length + 1 : Nat) : Int))) 21 (upd ((upI A 664 (I ((c0 + σ.length + 1 : Nat) : Int))).2.2.1 21) (l.getLastD 0) (I ((n + 1 : Nat) : Int))) = upI (upA A 21 (upd (A.2.2.1 21) (l.getLastD 0) (I ((n + 1 : Nat) : Int)))) 664 (I ((c0 + σ.length + 1 : Nat) : Int)) := rfl
    rw [e0]
    have r21 : (upA A 21 (upd (A.2.2.1 21) (l.getLastD 0) (I ((n + 1 : Nat) : Int)))).2.2.1 21 = upd (A.2.2.1 21) (l.getLastD 0) (I ((n + 1 : Nat) : Int)) := upA_at
    have ro : ∀ k, k ≠ 21 → (upA A 21 (upd (A.2.2.1 21) (l.getLastD 0) (I ((n + 1 : Nat) : Int)))).2.2.1 k = A.2.2.1 k := fun k hk => upA_no hk
    have Bi : ∀ k, (upA A 21 (upd (A.2.2.1 21) (l.getLastD 0) (I ((n + 1 : Nat) : Int)))).1 k = A.1 k := fun _ => rfl
    have s7 : STQ m0 w0 K T Nk gd mB wB p n0 (e :: t) (s + σ.length + 1) (advc (upI (upA A 21 (upd (A.2.2.1 21) (l.getLastD 0) (I ((n + 1 : Nat) : Int)))) 664 (mB.1 664)) q) (adv (upI w2 83 (wB.1 83)) q) (q + 1) (n + 1) (e2 :: t2) X W (Rf || (gd && decide (rkK (K q) = 4))) Zf CL := s6
    generalize hB : upA A 21 (upd (A.2.2.1 21) (l.getLastD 0) (I ((n + 1 : Nat) : Int))) = B at s7 r21 ro Bi
    have ndB : ∀ j, nod B j = nod A j := fun j => by
      unfold nod
      rw [ro 16 (by decide), ro 17 (by decide), ro 18 (by decide), ro 19 (by decide), ro 20 (by decide)]
    have em : upI (advc (upI B 664 (I ((c0 + σ.length + 1 : Nat) : Int))) q) 664 (mB.1 664) = advc (upI B 664 (mB.1 664)) q := by
      unfold advc
      rw [upI_cm (a := 665) (c := 664) (by decide), upI_2]
    have nκ : nod (advc (upI B 664 (I ((c0 + σ.length + 1 : Nat) : Int))) q) (n + 1) = (24, I (q : Nat), I (K q : Nat), 0, 0) := (ndB (n + 1)).trans An.1
    have e21 : B.2.2.1 21 (n + 1) = 0 := by rw [r21, upd_no (by omega)]; exact An.2
    have kc : Kcc m (advc (upI B 664 (I ((c0 + σ.length + 1 : Nat) : Int))) q) := ⟨fun k hk => by unfold advc; rw [upI_ne (by omega), upI_ne (by omega), Bi, Ai k (by omega)]; exact i1 k, fun k hk => by show B.2.2.1 k = _; rw [ro k (by omega), Ar k (by omega)]; exact r1 k (by omega)⟩
    refine ⟨X, W, _, Rs, Zf, CL, q0, ?_, ?_, a3n, ⟨by simp, ?_⟩, ⟨a5.1, a5.2.1, by rw [ll]; omega, ?_, ?_, by rw [ll]; omega, gq⟩, stk _ ?_ ⟨fun z => ?_, fun z => ?_⟩ (fun x hx => ?_)⟩
    · rw [e69, em, ll]
      exact STQ_s2 s7 (by omega)
    · have := SGE_app (l2 := [n + 1]) (sc3 := e2 :: t2) (Y := 0) (Rg := false) (Zg := false) (BD := fun _ => False) (q := q0) (am3 := am2) (om3 := om2) (m3 := advc (upI B 664 (I ((c0 + σ.length + 1 : Nat) : Int))) q) (n3 := n + 1) (by omega) kc (fun _ => by show n < n + 1; omega) (fun _ _ _ => Iff.rfl) (by omega) (fun _ j j1 j2 => ⟨(ndB j).trans ((Ao j j2).1.trans (nd1 j)), fun z => by show B.2.2.1 21 j = _; rw [r21, upd_no z, (Ao j j2).2, r1 21 (by decide)]⟩) (fun _ => by show B.2.2.1 21 _ = _; rw [r21, upd_at]; rfl) a2 ?_
      · rw [show max X 0 = X by omega, Bool.or_false, Bool.or_false] at this
        exact SGE_bc (fun m => ⟨Or.inl, fun z => z.elim id False.elim⟩) this
      · refine ⟨⟨by omega, Nat.le_refl _⟩, e21, Or.inr (Or.inl ⟨congrArg (fun z => z.1) nκ, fun z => absurd rfl z, ?_⟩)⟩
        rcases hao with ⟨kq, rfl, rfl⟩ | ⟨kq, rfl, rfl⟩
        · exact Or.inl ⟨(congrArg (fun z => z.2.2.1) nκ).trans (by rw [kq]), ⟨⟨rfl, rfl, rfl, rfl, rfl, fun _ z => z⟩, rfl, rfl⟩⟩
        · exact Or.inr ⟨(congrArg (fun z => z.2.2.1) nκ).trans (by rw [kq]), ⟨⟨rfl, rfl, rfl, rfl, rfl, fun _ z => z⟩, rfl, rfl⟩⟩
    · rw [getLastD_snoc]; exact e21
    · unfold advc
      rw [upI_ne (by decide), upI_at, ll]; congr 2
    · rw [upI_ne (by decide), upI_at, ll]; congr 2
    · show B.2.2.1 34 = _
      rw [ro 34 (by decide), Ar 34 (by omega)]
    · rcases hao with ⟨kq, x1, x2⟩ | ⟨kq, x1, x2⟩
      · rw [x1, tl]
      · have := rk.2.1.mp z; omega
    · rcases hao with ⟨kq, x1, x2⟩ | ⟨kq, x1, x2⟩
      · have := rk.2.2.1.mp z; omega
      · rw [x2, tl]
    · 
      have low : rkK (K x.1) < rkK (K q) := by
        cases hh : σ.head? with
        | none =>
          cases σ with
          | nil => cases hx
          | cons a b => cases hh
        | some z =>
          have h1 := SGS_le a6 z x hh hx
          rcases htop z hh with h2 | h2 <;> omega
      rcases hao with ⟨kq, x1, x2⟩ | ⟨kq, x1, x2⟩
      · have := rk.2.1.mpr kq
        exact ⟨fun z => by omega, fun _ => x2⟩
      · have := rk.2.2.1.mpr kq
        exact ⟨fun z => by omega, fun z => by omega⟩
end
end
section
set_option maxRecDepth 100000
def wkF (N : Nat) (S : SG_M_behind) (M : Nat) (v1 : Int32) (lv : Nat) (u12 : MS) (r12 : Int32) : Option (MS × Int32) := if lv = 0 then some (u12, r12) else br (decide (I (lv : Nat) = 3)) (br (decide ((u12.1 83) ≤ v1)) (fb_M_worked_189 N S (gg_M_worked N S M) u12 v1 r12 1 (I (lv : Nat))) (ck (inb ((u12.1 83) - 1) (ln 79)) (br (decide ((u12.2.2.1 79 ((u12.1 83) - 1).toNatClampNeg) = 3)) (bnd (fm_M_wrong N u12 2) (fun u13 _ => fb_M_worked_189 N S (gg_M_worked N S M) u13 v1 r12 1 (I (lv : Nat)))) (fb_M_worked_189 N S (gg_M_worked N S M) u12 v1 r12 1 (I (lv : Nat)))))) (fb_M_worked_189 N S (gg_M_worked N S M) u12 v1 r12 1 (I (lv : Nat)))
section
variable {m0 w0 m w v u mB wB m2 w2 m3 w3 mi w' w1 mX : MS} {K nm Nk W W2 : Nat → Nat} {T p n N q X Y n2 n' p0 n0 n3 p2 ν μ κ o s L d D k q1 q2 lo li ni t0 b c0 b0 tt e0 cur lv len M : Nat} {sc sc1 sc2 sc3 t t2 : SCT} {e e2 : List Nat × List Nat × Nat} {gd Rf Zf Rg Zg : Bool} {l l' : List Nat} {σ : List (Nat × Nat)} {r v1 v2 v3 v4 v5 x y am om am2 om2 : Int32} {CL CM : Int32 × Int32 × Int32 → Prop} {NC : Nat → Prop} {B1 B2 BC : MS → Prop}
theorem w189_f (h : FLW w) : PK (fun w2 (_ : Int32) => FLW w2) (fb_M_worked_189 N (rc_M_behind N d) (gg_M_worked N (rc_M_behind N d) M) w v1 v2 v3 v4) := by
  refine Kf_pk (u0 := w) ?_
  have h : Kfc w w := h
  obtain ⟨hF0, hF1, hF2, hF3, hF4, hF5, hF6, hF7, hF8, hF9, hF10, hF11, hF12, hF13, hF14, hF15, hF16⟩ := yf_rc_M_behind (u0 := w) (N := N) d
  repeat' (first | with_reducible assumption | with_reducible refine Kf_br ?_ ?_ | with_reducible refine Kf_bnd ?_ (fun _ _ _ => ?_) | with_reducible refine Kf_ck ?_ | with_reducible refine Kf_ltm ?_ (fun _ _ => ?_) | with_reducible refine Kf_some ?_ | with_reducible refine Kf_bo (fun _ => ?_) | with_reducible exact yf_fm_M_node (by assumption) | with_reducible exact yf_fm_M_pattern (by assumption) | with_reducible exact yf_fm_M_wrong (by assumption) | with_reducible exact yf_fm_M_rule (by assumption) | with_reducible exact yf_fm_M_isSign (by assumption) | with_reducible exact yf_fm_M_isWord (by assumption) | with_reducible exact yf_fm_M_takeSign (by assumption) | with_reducible exact yf_fm_M_takeWord (by assumption) | with_reducible exact yf_fm_M_needSign (by assumption) | with_reducible exact yf_fm_M_needWord (by assumption) | with_reducible exact yf_fm_M_opens (by assumption) | with_reducible exact yf_fm_M_boundIn (by assumption) | with_reducible exact yf_fr_M_found (by assumption) | with_reducible exact yf_fm_M_bind (by assumption) | with_reducible exact yf_fm_M_isUnderscore (by assumption) | with_reducible exact yf_fm_M_unbind (by assumption) | with_reducible exact yf_fm_M_term (by assumption) | with_reducible exact yf_fm_M_namePattern (by assumption) | with_reducible exact yf_fr_M_patternAt (by assumption) | with_reducible exact yf_fm_M_beginsUnit (by assumption) | with_reducible exact yf_fm_M_save (by assumption) | with_reducible exact yf_fm_M_addRoot (by assumption) | with_reducible exact yf_fm_M_level (by assumption) | with_reducible exact yf_fm_M_reduce (by assumption) | with_reducible exact yf_fm_M_takeBack (by assumption) | with_reducible exact yf_fm_M_forgetSaved (by assumption) | with_reducible exact yf_fr_M_last (by assumption) | with_reducible exact yf_fr_M_clause (by assumption) | with_reducible exact yf_fm_M_predefinedOf (by assumption) | with_reducible exact yf_fm_M_function0 (by assumption) | with_reducible exact yf_fm_M_program (by assumption) | with_reducible exact hF0 _ (by assumption) | with_reducible exact hF1 _ _ (by assumption) | with_reducible exact hF2 _ _ _ (by assumption) | with_reducible exact hF3 _ _ _ (by assumption) | with_reducible exact hF4 _ (by assumption) | with_reducible exact hF5 _ _ (by assumption) | with_reducible exact hF6 _ _ (by assumption) | with_reducible exact hF7 _ _ (by assumption) | with_reducible exact hF8 _ _ (by assumption) | with_reducible exact hF9 _ (by assumption) | with_reducible exact hF10 _ (by assumption) | with_reducible exact hF11 _ (by assumption) | with_reducible exact hF12 _ (by assumption) | with_reducible exact hF13 _ (by assumption) | with_reducible exact hF14 _ (by assumption) | with_reducible exact hF15 _ (by assumption) | with_reducible exact hF16 _ _ (by assumption) | with_reducible exact yf_fb_M_worked_334 (by assumption) hF0 hF1 hF2 hF3 hF4 hF5 hF6 hF7 hF8 hF9 hF10 hF11 hF12 hF13 hF14 hF15 hF16 (yf_gg_M_worked hF0 hF1 hF2 hF3 hF4 hF5 hF6 hF7 hF8 hF9 hF10 hF11 hF12 hF13 hF14 hF15 hF16 _).1 (yf_gg_M_worked hF0 hF1 hF2 hF3 hF4 hF5 hF6 hF7 hF8 hF9 hF10 hF11 hF12 hF13 hF14 hF15 hF16 _).2 | with_reducible exact yf_fb_M_worked_331 (by assumption) hF0 hF1 hF2 hF3 hF4 hF5 hF6 hF7 hF8 hF9 hF10 hF11 hF12 hF13 hF14 hF15 hF16 (yf_gg_M_worked hF0 hF1 hF2 hF3 hF4 hF5 hF6 hF7 hF8 hF9 hF10 hF11 hF12 hF13 hF14 hF15 hF16 _).1 (yf_gg_M_worked hF0 hF1 hF2 hF3 hF4 hF5 hF6 hF7 hF8 hF9 hF10 hF11 hF12 hF13 hF14 hF15 hF16 _).2 | with_reducible exact yf_fb_M_worked_292 (by assumption) hF0 hF1 hF2 hF3 hF4 hF5 hF6 hF7 hF8 hF9 hF10 hF11 hF12 hF13 hF14 hF15 hF16 (yf_gg_M_worked hF0 hF1 hF2 hF3 hF4 hF5 hF6 hF7 hF8 hF9 hF10 hF11 hF12 hF13 hF14 hF15 hF16 _).1 (yf_gg_M_worked hF0 hF1 hF2 hF3 hF4 hF5 hF6 hF7 hF8 hF9 hF10 hF11 hF12 hF13 hF14 hF15 hF16 _).2 | with_reducible exact yf_fb_M_worked_269 (by assumption) hF0 hF1 hF2 hF3 hF4 hF5 hF6 hF7 hF8 hF9 hF10 hF11 hF12 hF13 hF14 hF15 hF16 (yf_gg_M_worked hF0 hF1 hF2 hF3 hF4 hF5 hF6 hF7 hF8 hF9 hF10 hF11 hF12 hF13 hF14 hF15 hF16 _).1 (yf_gg_M_worked hF0 hF1 hF2 hF3 hF4 hF5 hF6 hF7 hF8 hF9 hF10 hF11 hF12 hF13 hF14 hF15 hF16 _).2 | with_reducible exact yf_fb_M_worked_243 (by assumption) hF0 hF1 hF2 hF3 hF4 hF5 hF6 hF7 hF8 hF9 hF10 hF11 hF12 hF13 hF14 hF15 hF16 (yf_gg_M_worked hF0 hF1 hF2 hF3 hF4 hF5 hF6 hF7 hF8 hF9 hF10 hF11 hF12 hF13 hF14 hF15 hF16 _).1 (yf_gg_M_worked hF0 hF1 hF2 hF3 hF4 hF5 hF6 hF7 hF8 hF9 hF10 hF11 hF12 hF13 hF14 hF15 hF16 _).2 | with_reducible exact yf_fb_M_worked_189 (by assumption) hF0 hF1 hF2 hF3 hF4 hF5 hF6 hF7 hF8 hF9 hF10 hF11 hF12 hF13 hF14 hF15 hF16 (yf_gg_M_worked hF0 hF1 hF2 hF3 hF4 hF5 hF6 hF7 hF8 hF9 hF10 hF11 hF12 hF13 hF14 hF15 hF16 _).1 (yf_gg_M_worked hF0 hF1 hF2 hF3 hF4 hF5 hF6 hF7 hF8 hF9 hF10 hF11 hF12 hF13 hF14 hF15 hF16 _).2 | with_reducible exact yf_fb_M_worked_141 (by assumption) hF0 hF1 hF2 hF3 hF4 hF5 hF6 hF7 hF8 hF9 hF10 hF11 hF12 hF13 hF14 hF15 hF16 (yf_gg_M_worked hF0 hF1 hF2 hF3 hF4 hF5 hF6 hF7 hF8 hF9 hF10 hF11 hF12 hF13 hF14 hF15 hF16 _).1 (yf_gg_M_worked hF0 hF1 hF2 hF3 hF4 hF5 hF6 hF7 hF8 hF9 hF10 hF11 hF12 hF13 hF14 hF15 hF16 _).2 | with_reducible exact yf_fb_M_worked_129 (by assumption) hF0 hF1 hF2 hF3 hF4 hF5 hF6 hF7 hF8 hF9 hF10 hF11 hF12 hF13 hF14 hF15 hF16 (yf_gg_M_worked hF0 hF1 hF2 hF3 hF4 hF5 hF6 hF7 hF8 hF9 hF10 hF11 hF12 hF13 hF14 hF15 hF16 _).1 (yf_gg_M_worked hF0 hF1 hF2 hF3 hF4 hF5 hF6 hF7 hF8 hF9 hF10 hF11 hF12 hF13 hF14 hF15 hF16 _).2 | with_reducible exact yf_fb_M_worked_109 (by assumption) hF0 hF1 hF2 hF3 hF4 hF5 hF6 hF7 hF8 hF9 hF10 hF11 hF12 hF13 hF14 hF15 hF16 (yf_gg_M_worked hF0 hF1 hF2 hF3 hF4 hF5 hF6 hF7 hF8 hF9 hF10 hF11 hF12 hF13 hF14 hF15 hF16 _).1 (yf_gg_M_worked hF0 hF1 hF2 hF3 hF4 hF5 hF6 hF7 hF8 hF9 hF10 hF11 hF12 hF13 hF14 hF15 hF16 _).2 | with_reducible exact yf_fb_M_worked_102 (by assumption) hF0 hF1 hF2 hF3 hF4 hF5 hF6 hF7 hF8 hF9 hF10 hF11 hF12 hF13 hF14 hF15 hF16 (yf_gg_M_worked hF0 hF1 hF2 hF3 hF4 hF5 hF6 hF7 hF8 hF9 hF10 hF11 hF12 hF13 hF14 hF15 hF16 _).1 (yf_gg_M_worked hF0 hF1 hF2 hF3 hF4 hF5 hF6 hF7 hF8 hF9 hF10 hF11 hF12 hF13 hF14 hF15 hF16 _).2 | with_reducible exact yf_fb_M_worked_45 (by assumption) hF0 hF1 hF2 hF3 hF4 hF5 hF6 hF7 hF8 hF9 hF10 hF11 hF12 hF13 hF14 hF15 hF16 (yf_gg_M_worked hF0 hF1 hF2 hF3 hF4 hF5 hF6 hF7 hF8 hF9 hF10 hF11 hF12 hF13 hF14 hF15 hF16 _).1 (yf_gg_M_worked hF0 hF1 hF2 hF3 hF4 hF5 hF6 hF7 hF8 hF9 hF10 hF11 hF12 hF13 hF14 hF15 hF16 _).2 | with_reducible exact yf_fb_M_worked_20 (by assumption) hF0 hF1 hF2 hF3 hF4 hF5 hF6 hF7 hF8 hF9 hF10 hF11 hF12 hF13 hF14 hF15 hF16 (yf_gg_M_worked hF0 hF1 hF2 hF3 hF4 hF5 hF6 hF7 hF8 hF9 hF10 hF11 hF12 hF13 hF14 hF15 hF16 _).1 (yf_gg_M_worked hF0 hF1 hF2 hF3 hF4 hF5 hF6 hF7 hF8 hF9 hF10 hF11 hF12 hF13 hF14 hF15 hF16 _).2 | with_reducible exact yf_fb_M_worked_9 (by assumption) hF0 hF1 hF2 hF3 hF4 hF5 hF6 hF7 hF8 hF9 hF10 hF11 hF12 hF13 hF14 hF15 hF16 (yf_gg_M_worked hF0 hF1 hF2 hF3 hF4 hF5 hF6 hF7 hF8 hF9 hF10 hF11 hF12 hF13 hF14 hF15 hF16 _).1 (yf_gg_M_worked hF0 hF1 hF2 hF3 hF4 hF5 hF6 hF7 hF8 hF9 hF10 hF11 hF12 hF13 hF14 hF15 hF16 _).2 | with_reducible exact yf_fb_M_worked_0 (by assumption) hF0 hF1 hF2 hF3 hF4 hF5 hF6 hF7 hF8 hF9 hF10 hF11 hF12 hF13 hF14 hF15 hF16 (yf_gg_M_worked hF0 hF1 hF2 hF3 hF4 hF5 hF6 hF7 hF8 hF9 hF10 hF11 hF12 hF13 hF14 hF15 hF16 _).1 (yf_gg_M_worked hF0 hF1 hF2 hF3 hF4 hF5 hF6 hF7 hF8 hF9 hF10 hF11 hF12 hF13 hF14 hF15 hF16 _).2 | with_reducible exact (yf_gg_M_worked hF0 hF1 hF2 hF3 hF4 hF5 hF6 hF7 hF8 hF9 hF10 hF11 hF12 hF13 hF14 hF15 hF16 _).1 _ _ _ _ (by assumption) | with_reducible exact (yf_gg_M_worked hF0 hF1 hF2 hF3 hF4 hF5 hF6 hF7 hF8 hF9 hF10 hF11 hF12 hF13 hF14 hF15 hF16 _).2 _ _ (by assumption) | with_reducible exact (yf_gg_M_worked hF0 hF1 hF2 hF3 hF4 hF5 hF6 hF7 hF8 hF9 hF10 hF11 hF12 hF13 hF14 hF15 hF16 _).2 _ _ _ _ (by assumption) | with_reducible refine Kf_ltv (fun _ => ?_) | with_reducible refine Kf_I ?_ (by decide) | with_reducible refine Kf_A ?_ | with_reducible refine Kf_J ?_ | with_reducible refine Kf_L ?_)
theorem w331_f (h : FLW w) : PK (fun w2 (_ : Int32) => FLW w2) (fb_M_worked_331 N (rc_M_behind N d) (gg_M_worked N (rc_M_behind N d) M) w v1 v2 v3) := by
  refine Kf_pk (u0 := w) ?_
  have h : Kfc w w := h
  obtain ⟨hF0, hF1, hF2, hF3, hF4, hF5, hF6, hF7, hF8, hF9, hF10, hF11, hF12, hF13, hF14, hF15, hF16⟩ := yf_rc_M_behind (u0 := w) (N := N) d
  repeat' (first | with_reducible assumption | with_reducible refine Kf_br ?_ ?_ | with_reducible refine Kf_bnd ?_ (fun _ _ _ => ?_) | with_reducible refine Kf_ck ?_ | with_reducible refine Kf_ltm ?_ (fun _ _ => ?_) | with_reducible refine Kf_some ?_ | with_reducible refine Kf_bo (fun _ => ?_) | with_reducible exact yf_fm_M_node (by assumption) | with_reducible exact yf_fm_M_pattern (by assumption) | with_reducible exact yf_fm_M_wrong (by assumption) | with_reducible exact yf_fm_M_rule (by assumption) | with_reducible exact yf_fm_M_isSign (by assumption) | with_reducible exact yf_fm_M_isWord (by assumption) | with_reducible exact yf_fm_M_takeSign (by assumption) | with_reducible exact yf_fm_M_takeWord (by assumption) | with_reducible exact yf_fm_M_needSign (by assumption) | with_reducible exact yf_fm_M_needWord (by assumption) | with_reducible exact yf_fm_M_opens (by assumption) | with_reducible exact yf_fm_M_boundIn (by assumption) | with_reducible exact yf_fr_M_found (by assumption) | with_reducible exact yf_fm_M_bind (by assumption) | with_reducible exact yf_fm_M_isUnderscore (by assumption) | with_reducible exact yf_fm_M_unbind (by assumption) | with_reducible exact yf_fm_M_term (by assumption) | with_reducible exact yf_fm_M_namePattern (by assumption) | with_reducible exact yf_fr_M_patternAt (by assumption) | with_reducible exact yf_fm_M_beginsUnit (by assumption) | with_reducible exact yf_fm_M_save (by assumption) | with_reducible exact yf_fm_M_addRoot (by assumption) | with_reducible exact yf_fm_M_level (by assumption) | with_reducible exact yf_fm_M_reduce (by assumption) | with_reducible exact yf_fm_M_takeBack (by assumption) | with_reducible exact yf_fm_M_forgetSaved (by assumption) | with_reducible exact yf_fr_M_last (by assumption) | with_reducible exact yf_fr_M_clause (by assumption) | with_reducible exact yf_fm_M_predefinedOf (by assumption) | with_reducible exact yf_fm_M_function0 (by assumption) | with_reducible exact yf_fm_M_program (by assumption) | with_reducible exact hF0 _ (by assumption) | with_reducible exact hF1 _ _ (by assumption) | with_reducible exact hF2 _ _ _ (by assumption) | with_reducible exact hF3 _ _ _ (by assumption) | with_reducible exact hF4 _ (by assumption) | with_reducible exact hF5 _ _ (by assumption) | with_reducible exact hF6 _ _ (by assumption) | with_reducible exact hF7 _ _ (by assumption) | with_reducible exact hF8 _ _ (by assumption) | with_reducible exact hF9 _ (by assumption) | with_reducible exact hF10 _ (by assumption) | with_reducible exact hF11 _ (by assumption) | with_reducible exact hF12 _ (by assumption) | with_reducible exact hF13 _ (by assumption) | with_reducible exact hF14 _ (by assumption) | with_reducible exact hF15 _ (by assumption) | with_reducible exact hF16 _ _ (by assumption) | with_reducible exact yf_fb_M_worked_334 (by assumption) hF0 hF1 hF2 hF3 hF4 hF5 hF6 hF7 hF8 hF9 hF10 hF11 hF12 hF13 hF14 hF15 hF16 (yf_gg_M_worked hF0 hF1 hF2 hF3 hF4 hF5 hF6 hF7 hF8 hF9 hF10 hF11 hF12 hF13 hF14 hF15 hF16 _).1 (yf_gg_M_worked hF0 hF1 hF2 hF3 hF4 hF5 hF6 hF7 hF8 hF9 hF10 hF11 hF12 hF13 hF14 hF15 hF16 _).2 | with_reducible exact yf_fb_M_worked_331 (by assumption) hF0 hF1 hF2 hF3 hF4 hF5 hF6 hF7 hF8 hF9 hF10 hF11 hF12 hF13 hF14 hF15 hF16 (yf_gg_M_worked hF0 hF1 hF2 hF3 hF4 hF5 hF6 hF7 hF8 hF9 hF10 hF11 hF12 hF13 hF14 hF15 hF16 _).1 (yf_gg_M_worked hF0 hF1 hF2 hF3 hF4 hF5 hF6 hF7 hF8 hF9 hF10 hF11 hF12 hF13 hF14 hF15 hF16 _).2 | with_reducible exact yf_fb_M_worked_292 (by assumption) hF0 hF1 hF2 hF3 hF4 hF5 hF6 hF7 hF8 hF9 hF10 hF11 hF12 hF13 hF14 hF15 hF16 (yf_gg_M_worked hF0 hF1 hF2 hF3 hF4 hF5 hF6 hF7 hF8 hF9 hF10 hF11 hF12 hF13 hF14 hF15 hF16 _).1 (yf_gg_M_worked hF0 hF1 hF2 hF3 hF4 hF5 hF6 hF7 hF8 hF9 hF10 hF11 hF12 hF13 hF14 hF15 hF16 _).2 | with_reducible exact yf_fb_M_worked_269 (by assumption) hF0 hF1 hF2 hF3 hF4 hF5 hF6 hF7 hF8 hF9 hF10 hF11 hF12 hF13 hF14 hF15 hF16 (yf_gg_M_worked hF0 hF1 hF2 hF3 hF4 hF5 hF6 hF7 hF8 hF9 hF10 hF11 hF12 hF13 hF14 hF15 hF16 _).1 (yf_gg_M_worked hF0 hF1 hF2 hF3 hF4 hF5 hF6 hF7 hF8 hF9 hF10 hF11 hF12 hF13 hF14 hF15 hF16 _).2 | with_reducible exact yf_fb_M_worked_243 (by assumption) hF0 hF1 hF2 hF3 hF4 hF5 hF6 hF7 hF8 hF9 hF10 hF11 hF12 hF13 hF14 hF15 hF16 (yf_gg_M_worked hF0 hF1 hF2 hF3 hF4 hF5 hF6 hF7 hF8 hF9 hF10 hF11 hF12 hF13 hF14 hF15 hF16 _).1 (yf_gg_M_worked hF0 hF1 hF2 hF3 hF4 hF5 hF6 hF7 hF8 hF9 hF10 hF11 hF12 hF13 hF14 hF15 hF16 _).2 | with_reducible exact yf_fb_M_worked_189 (by assumption) hF0 hF1 hF2 hF3 hF4 hF5 hF6 hF7 hF8 hF9 hF10 hF11 hF12 hF13 hF14 hF15 hF16 (yf_gg_M_worked hF0 hF1 hF2 hF3 hF4 hF5 hF6 hF7 hF8 hF9 hF10 hF11 hF12 hF13 hF14 hF15 hF16 _).1 (yf_gg_M_worked hF0 hF1 hF2 hF3 hF4 hF5 hF6 hF7 hF8 hF9 hF10 hF11 hF12 hF13 hF14 hF15 hF16 _).2 | with_reducible exact yf_fb_M_worked_141 (by assumption) hF0 hF1 hF2 hF3 hF4 hF5 hF6 hF7 hF8 hF9 hF10 hF11 hF12 hF13 hF14 hF15 hF16 (yf_gg_M_worked hF0 hF1 hF2 hF3 hF4 hF5 hF6 hF7 hF8 hF9 hF10 hF11 hF12 hF13 hF14 hF15 hF16 _).1 (yf_gg_M_worked hF0 hF1 hF2 hF3 hF4 hF5 hF6 hF7 hF8 hF9 hF10 hF11 hF12 hF13 hF14 hF15 hF16 _).2 | with_reducible exact yf_fb_M_worked_129 (by assumption) hF0 hF1 hF2 hF3 hF4 hF5 hF6 hF7 hF8 hF9 hF10 hF11 hF12 hF13 hF14 hF15 hF16 (yf_gg_M_worked hF0 hF1 hF2 hF3 hF4 hF5 hF6 hF7 hF8 hF9 hF10 hF11 hF12 hF13 hF14 hF15 hF16 _).1 (yf_gg_M_worked hF0 hF1 hF2 hF3 hF4 hF5 hF6 hF7 hF8 hF9 hF10 hF11 hF12 hF13 hF14 hF15 hF16 _).2 | with_reducible exact yf_fb_M_worked_109 (by assumption) hF0 hF1 hF2 hF3 hF4 hF5 hF6 hF7 hF8 hF9 hF10 hF11 hF12 hF13 hF14 hF15 hF16 (yf_gg_M_worked hF0 hF1 hF2 hF3 hF4 hF5 hF6 hF7 hF8 hF9 hF10 hF11 hF12 hF13 hF14 hF15 hF16 _).1 (yf_gg_M_worked hF0 hF1 hF2 hF3 hF4 hF5 hF6 hF7 hF8 hF9 hF10 hF11 hF12 hF13 hF14 hF15 hF16 _).2 | with_reducible exact yf_fb_M_worked_102 (by assumption) hF0 hF1 hF2 hF3 hF4 hF5 hF6 hF7 hF8 hF9 hF10 hF11 hF12 hF13 hF14 hF15 hF16 (yf_gg_M_worked hF0 hF1 hF2 hF3 hF4 hF5 hF6 hF7 hF8 hF9 hF10 hF11 hF12 hF13 hF14 hF15 hF16 _).1 (yf_gg_M_worked hF0 hF1 hF2 hF3 hF4 hF5 hF6 hF7 hF8 hF9 hF10 hF11 hF12 hF13 hF14 hF15 hF16 _).2 | with_reducible exact yf_fb_M_worked_45 (by assumption) hF0 hF1 hF2 hF3 hF4 hF5 hF6 hF7 hF8 hF9 hF10 hF11 hF12 hF13 hF14 hF15 hF16 (yf_gg_M_worked hF0 hF1 hF2 hF3 hF4 hF5 hF6 hF7 hF8 hF9 hF10 hF11 hF12 hF13 hF14 hF15 hF16 _).1 (yf_gg_M_worked hF0 hF1 hF2 hF3 hF4 hF5 hF6 hF7 hF8 hF9 hF10 hF11 hF12 hF13 hF14 hF15 hF16 _).2 | with_reducible exact yf_fb_M_worked_20 (by assumption) hF0 hF1 hF2 hF3 hF4 hF5 hF6 hF7 hF8 hF9 hF10 hF11 hF12 hF13 hF14 hF15 hF16 (yf_gg_M_worked hF0 hF1 hF2 hF3 hF4 hF5 hF6 hF7 hF8 hF9 hF10 hF11 hF12 hF13 hF14 hF15 hF16 _).1 (yf_gg_M_worked hF0 hF1 hF2 hF3 hF4 hF5 hF6 hF7 hF8 hF9 hF10 hF11 hF12 hF13 hF14 hF15 hF16 _).2 | with_reducible exact yf_fb_M_worked_9 (by assumption) hF0 hF1 hF2 hF3 hF4 hF5 hF6 hF7 hF8 hF9 hF10 hF11 hF12 hF13 hF14 hF15 hF16 (yf_gg_M_worked hF0 hF1 hF2 hF3 hF4 hF5 hF6 hF7 hF8 hF9 hF10 hF11 hF12 hF13 hF14 hF15 hF16 _).1 (yf_gg_M_worked hF0 hF1 hF2 hF3 hF4 hF5 hF6 hF7 hF8 hF9 hF10 hF11 hF12 hF13 hF14 hF15 hF16 _).2 | with_reducible exact yf_fb_M_worked_0 (by assumption) hF0 hF1 hF2 hF3 hF4 hF5 hF6 hF7 hF8 hF9 hF10 hF11 hF12 hF13 hF14 hF15 hF16 (yf_gg_M_worked hF0 hF1 hF2 hF3 hF4 hF5 hF6 hF7 hF8 hF9 hF10 hF11 hF12 hF13 hF14 hF15 hF16 _).1 (yf_gg_M_worked hF0 hF1 hF2 hF3 hF4 hF5 hF6 hF7 hF8 hF9 hF10 hF11 hF12 hF13 hF14 hF15 hF16 _).2 | with_reducible exact (yf_gg_M_worked hF0 hF1 hF2 hF3 hF4 hF5 hF6 hF7 hF8 hF9 hF10 hF11 hF12 hF13 hF14 hF15 hF16 _).1 _ _ _ _ (by assumption) | with_reducible exact (yf_gg_M_worked hF0 hF1 hF2 hF3 hF4 hF5 hF6 hF7 hF8 hF9 hF10 hF11 hF12 hF13 hF14 hF15 hF16 _).2 _ _ (by assumption) | with_reducible exact (yf_gg_M_worked hF0 hF1 hF2 hF3 hF4 hF5 hF6 hF7 hF8 hF9 hF10 hF11 hF12 hF13 hF14 hF15 hF16 _).2 _ _ _ _ (by assumption) | with_reducible refine Kf_ltv (fun _ => ?_) | with_reducible refine Kf_I ?_ (by decide) | with_reducible refine Kf_A ?_ | with_reducible refine Kf_J ?_ | with_reducible refine Kf_L ?_)
theorem wkR_e {R : MS → Int32 ⊕ Nat → MS → Int32 → Prop} {a : Option (MS × (Int32 ⊕ Nat))} (hw : WP w K T q) (h67 : w.1 67 = 0) (h : ∀ M, PP R a (bnd (gg_M_reduce N N w v1 (I (rkK (K q) : Nat)) r 1) (wkF N (rc_M_behind N d) M v1 (rkK (K q))))) : PP R a (wkR N (rc_M_behind N d) M v1 w r) := by
  have k46 := hw.1.1.k46 hw.2.2
  have rk6 : rkK (K q) ≤ 6 := by
    have : ∀ k, k < 46 → rkK k ≤ 6 := by decide
    exact this _ k46
  unfold wkR fb_M_worked_129 fb_M_worked_141
  rw [decide_eq_true h67, br_tq, lvl_m hw, bnd_s, show (0 : Int32) = I ((0 : Nat) : Int) from rfl, decI (by omega) (by omega) (by omega) (by omega)]
  by_cases z : rkK (K q) = 0
  · rw [decide_eq_true (by omega), br_tq, show decide (I ((0 : Nat) : Int) = I ((0 : Nat) : Int)) = true from decide_eq_true rfl, br_tq]
    unfold fb_M_worked_331
    cases M with
    | zero => exact pp_nr
    | succ M =>
      show PP R a (fb_M_worked_9 N (rc_M_behind N d) (gg_M_worked N (rc_M_behind N d) M) w v1 r 0)
      unfold fb_M_worked_9 fb_M_worked_334
      rw [show decide ((0 : Int32) = 0) = true from rfl, br_tq, decide_eq_true h67, br_tq]
      have := h 0
      rw [z] at this
      exact this
  · rw [decide_eq_false (by omega), br_fq, show decide ((1 : Int32) = I ((0 : Nat) : Int)) = false from rfl, br_fq]
    have := h M
    unfold wkF at this
    rw [show (fun (u12 : MS) (r12 : Int32) => if rkK (K q) = 0 then some (u12, r12) else _) = (fun (u12 : MS) (r12 : Int32) => _) from funext (fun u => funext (fun r => if_neg z))] at this
    exact this
theorem ps_r {R : MS → Int32 ⊕ Nat → MS → Int32 → Prop} {a : Option (MS × (Int32 ⊕ Nat))} (hw : WP w K T q) (hq : q ≤ 4000) (h83 : w.1 83 = I ((b0 + len : Nat) : Int)) (hb3 : b0 + len ≤ 3000) (h1 : 1 ≤ rkK (K q)) (hR : RNs w (e2 :: t2)) (nd : ND w) (hg : decide (w.1 73 = 0) = !gd) (hG : b0 + len < 3000 → ∀ w1 w2, PSS K q b0 len e2.1.length w w1 → (((gd && decide (rkK (K q) = 4)) = false ∧ w2 = w1) ∨ ((gd && decide (rkK (K q) = 4)) = true ∧ w2.1 72 ≠ 0 ∧ (∀ k, k ≠ 71 → k ≠ 72 → w2.1 k = w1.1 k) ∧ w2.2.2.1 = w1.2.2.1)) → PP R a (fb_M_worked_292 N (rc_M_behind N d) (gg_M_worked N (rc_M_behind N d) M) w2 v1 r 1)) : PP R a (fb_M_worked_189 N (rc_M_behind N d) (gg_M_worked N (rc_M_behind N d) M) w v1 r 1 (I (rkK (K q) : Nat))) := by
  have k46 := hw.1.1.k46 hw.2.2
  have rk6 : rkK (K q) ≤ 6 := by
    have : ∀ k, k < 46 → rkK k ≤ 6 := by decide
    exact this _ k46
  have rk := rk_k k46 h1
  unfold fb_M_worked_189
  refine r_ck (fun z83 => ?_)
  have hb : b0 + len < 3000 := by
    rw [h83] at z83
    have := (I_inb (n := ln 79) (x := ((b0 + len : Nat) : Int)) (by omega) (by omega)).mp z83
    have l79 : ln 79 = 3000 := rfl
    omega
  refine r_lt (r_ck (fun _ => r_lt ?_))
  have i83 : (w.1 83).toNatClampNeg = b0 + len := by rw [h83]; exact tnI rfl (by omega)
  rw [i83, nar_byte (t := (rkK (K q) : Nat)) (by omega)]
  have e10 : ∀ g, ((upA w 79 g).1 83).toNatClampNeg = b0 + len := fun _ => i83
  have e69 : ∀ g, (upA w 79 g).1 69 = I (q : Nat) := fun _ => hw.2.1
  rw [e10, e69, nar_short (t := (q : Nat)) (by omega)]
  generalize hw11 : upA (upA w 79 (upd (w.2.2.1 79) (b0 + len) (I (rkK (K q) : Nat)))) 80 _ = w11
  have i11 : ∀ k, w11.1 k = w.1 k := fun k => by rw [← hw11]; rfl
  have r11 : ∀ k, k ≠ 79 → k ≠ 80 → w11.2.2.1 k = w.2.2.1 k := fun k k1 k2 => by rw [← hw11, upA_no k2, upA_no k1]
  have j11 : ∀ k j, j ≠ b0 + len → w11.2.2.1 k j = w.2.2.1 k j := fun k j hj => by
    rw [← hw11]
    by_cases z : k = 80
    · subst z; rw [upA_at, upd_no hj, upA_no (by decide)]
    · rw [upA_no z]
      by_cases z2 : k = 79
      · subst z2; rw [upA_at, upd_no hj]
      · rw [upA_no z2]
  have a11 : w11.2.2.1 79 (b0 + len) = I (rkK (K q) : Nat) ∧ w11.2.2.1 80 (b0 + len) = I (q : Nat) := by
    rw [← hw11, upA_no (by decide), upA_at, upA_at, upd_at, upd_at]
    exact ⟨rfl, rfl⟩
  clear hw11 e10 e69
  have g269 : ∀ w1, PSS K q b0 len e2.1.length w w1 → PP R a (fb_M_worked_269 N (rc_M_behind N d) (gg_M_worked N (rc_M_behind N d) M) w1 v1 r 1 (I (rkK (K q) : Nat))) := fun w1 hp => by
    unfold fb_M_worked_269
    have e73 : w1.1 73 = w.1 73 := hp.1 73 (by decide)
    rw [e73, I_dn (a := rkK (K q)) (b := 4) (s := 4) (by omega) (by decide) rfl, hg]
    cases hgd : gd with
    | false => exact hG hb w1 w1 hp (Or.inl ⟨by rw [hgd]; rfl, rfl⟩)
    | true =>
      show PP R a (br false _ _)
      rw [br_fq]
      by_cases z : rkK (K q) = 4
      · rw [decide_eq_true z, br_tq]
        exact r_bnd (pk_mo (rule_p (by decide)) (fun v _ y => hG hb w1 v hp (Or.inr ⟨by rw [hgd, decide_eq_true z]; rfl, y⟩)))
      · rw [decide_eq_false z, br_fq]
        exact hG hb w1 w1 hp (Or.inl ⟨by rw [decide_eq_false z, Bool.and_false], rfl⟩)
  rw [show (3 : Int32) = I ((3 : Nat) : Int) from rfl, decI (by omega) (by omega) (by omega) (by omega)]
  by_cases z3 : 3 ≤ rkK (K q)
  · rw [decide_eq_true (by omega), br_tq]
    refine g269 w11 ⟨fun k _ => i11 k, fun k hk h79 => r11 k (by omega) (by omega), fun k _ _ j hj => j11 k j hj, a11, fun z => by omega, fun a f1 f2 => ⟨a, ⟨by rw [i11]; exact f1, Nat.le_refl _, f2⟩, fun j _ => ?_, fun j j1 j2 => absurd j2 (by omega)⟩⟩
    rw [r11 23 (by decide) (by decide), r11 25 (by decide) (by decide), r11 26 (by decide) (by decide), r11 27 (by decide) (by decide)]
    exact ⟨rfl, fun _ => ⟨rfl, rfl, rfl⟩⟩
  · rw [decide_eq_false (by omega), br_fq]
    have g243 : ∀ t3 : Int32, (vp_nar .byte (t3.toInt8.toInt32) ≠ 12 ∧ vp_nar .byte (t3.toInt8.toInt32) ≠ 15) → PP R a (fb_M_worked_243 N (rc_M_behind N d) (gg_M_worked N (rc_M_behind N d) M) w11 v1 r 1 (I (rkK (K q) : Nat)) 81 (w11.1 83) t3) := fun t3 h3 => by
      unfold fb_M_worked_243
      refine r_bnd (pk_mo (node_p (w := w11)) (fun u7 r7 qn => ?_))
      obtain ⟨b', ⟨e1, e2', e3, e4⟩, e5, e6, e7, e8⟩ := qn
      refine r_ck (fun _ => r_ck (fun _ => r_lt (r_ck (fun _ => r_ck (fun _ => r_lt ?_)))))
      have i83' : (w11.1 83).toNatClampNeg = b0 + len := by rw [i11]; exact i83
      rw [i83']
      generalize hw8 : upA u7 81 (upd (u7.2.2.1 81) (b0 + len) r7) = w8
      have i8 : ∀ k, k ≠ 32 → w8.1 k = w.1 k := fun k hk => by rw [← hw8]; show u7.1 k = _; rw [e7 k hk]; exact i11 k
      have r8 : ∀ k, k ≠ 81 → w8.2.2.1 k = u7.2.2.1 k := fun k hk => by rw [← hw8]; exact upA_no hk
      have s81 : w8.2.2.1 81 = upd (u7.2.2.1 81) (b0 + len) r7 := by rw [← hw8]; exact upA_at
      have n8 : w8.1 32 = I ((b' + 1 : Nat) : Int) := by rw [← hw8]; exact e4
      clear hw8
      have i838 : (w8.1 83).toNatClampNeg = b0 + len := by rw [i8 83 (by decide)]; exact i83
      have i65 : (w8.1 65).toNatClampNeg = t2.length := by
        rw [i8 65 (by decide), hR.1]
        have : t2.length + 1 ≤ 27 := hR.2.1.2
        exact tnI (n := t2.length) rfl (by omega)
      have r60 : w8.2.2.1 60 t2.length = I (e2.1.length : Nat) := by
        rw [r8 60 (by decide), e8 60 (by omega), r11 60 (by decide) (by decide)]
        exact hR.2.2.1.1.1
      rw [i838, i65, r60]
      generalize hw9 : upA w8 82 (upd (w8.2.2.1 82) (b0 + len) (I (e2.1.length : Nat))) = w9
      have i9 : ∀ k, w9.1 k = w8.1 k := fun k => by rw [← hw9]; rfl
      have r9 : ∀ k, k ≠ 82 → w9.2.2.1 k = w8.2.2.1 k := fun k hk => by rw [← hw9]; exact upA_no hk
      have s82 : w9.2.2.1 82 = upd (w8.2.2.1 82) (b0 + len) (I (e2.1.length : Nat)) := by rw [← hw9]; exact upA_at
      clear hw9
      have k23 : w9.2.2.1 23 = u7.2.2.1 23 := by rw [r9 23 (by decide), r8 23 (by decide)]
      have rowx : ∀ k, k ≠ 81 → k ≠ 82 → ∀ j, j ≠ b' → w9.2.2.1 k j = w11.2.2.1 k j := fun k h1 h2 j hj => by rw [r9 k h2, r8 k h1]; exact e6 k j hj
      refine g269 w9 ⟨fun k hk => by rw [i9]; exact i8 k hk, fun k hk h79 => ?_, fun k k1 k2 j hj => ?_, ⟨?_, ?_⟩, fun _ => ⟨by rw [s82, upd_at], b', b' + 1, ?_, by rw [i9]; exact n8, by omega, by omega, ?_⟩, fun a' f1 f2 => ?_⟩
      · rw [r9 k (by omega), r8 k (by omega), e8 k (by unfold SMX at hk; omega)]
        exact r11 k (by omega) (by omega)
      · by_cases z2 : k = 82
        · subst z2; rw [s82, upd_no hj, r8 82 (by decide), e8 82 (by omega)]; exact j11 82 j hj
        · rw [r9 k z2]
          by_cases z1 : k = 81
          · subst z1; rw [s81, upd_no hj, e8 81 (by omega)]; exact j11 81 j hj
          · rw [r8 k z1, e8 k (by omega)]; exact j11 k j hj
      · rw [r9 79 (by decide), r8 79 (by decide), e8 79 (by omega)]; exact a11.1
      · rw [r9 80 (by decide), r8 80 (by decide), e8 80 (by omega)]; exact a11.2
      · rw [r9 81 (by decide), s81, upd_at]; exact e3
      · rw [k23, e5]; exact h3
      · have eb : a' = b' := by
          have := (f1.symm.trans ((i11 32).symm.trans e1))
          have := (I_eq (x := (a' : Nat)) (y := (b' : Nat)) (by omega) (by omega) (by omega) (by omega)).mp this
          omega
        subst eb
        refine ⟨a' + 1, ⟨by rw [i9]; exact n8, by omega, by omega⟩, fun j hj => ?_, fun j j1 j2 => ?_⟩
        · have ne : j ≠ a' := by omega
          rw [rowx 23 (by decide) (by decide) j ne, rowx 25 (by decide) (by decide) j ne, rowx 26 (by decide) (by decide) j ne, rowx 27 (by decide) (by decide) j ne, r11 23 (by decide) (by decide), r11 25 (by decide) (by decide), r11 26 (by decide) (by decide), r11 27 (by decide) (by decide)]
          exact ⟨rfl, fun _ => ⟨rfl, rfl, rfl⟩⟩
        · have : j = a' := by omega
          subst this
          rw [k23, e5]; exact h3
    exact r_br (fun _ => g243 10 (by decide)) (fun _ => g243 9 (by decide))
theorem un_rf (h : CP m K T p) (c45 : K p ≠ 45) (hb : bUK (K p) = false) : ∀ D, (hrc_Pa_matched N D).2.2.2.2.2.2.2.2.2.2.2.2.1 m = none ∨ RFS ((hrc_Pa_matched N D).2.2.2.2.2.2.2.2.2.2.2.2.1 m)
  | 0 => Or.inl rfl
  | D + 1 => by
    have k46 := h.1.1.k46 h.2.2
    have k34 : K p ≠ 34 := fun z => by rw [z] at hb; cases hb
    have k14 : K p ≠ 14 := fun z => by rw [z] at hb; cases hb
    show hb_Pa_unit_0 N (hrc_Pa_matched N D) () m = none ∨ RFS (hb_Pa_unit_0 N (hrc_Pa_matched N D) () m)
    unfold hb_Pa_unit_0
    rw [look_e h c45, bTm_l, I_dn (a := K p) (b := 34) (s := 34) (by omega) (by decide) rfl, I_dn (a := K p) (b := 14) (s := 14) (by omega) (by decide) rfl, decide_eq_false k34, br_fq, decide_eq_false k14, br_fq]
    cases D with
    | zero => exact Or.inl rfl
    | succ D =>
      refine Or.inr (RFS_T ?_)
      show RFS (hm_Pa_primary N (hrc_Pa_matched N D) m)
      have kk : K p = 0 ∨ K p = 5 ∨ K p = 6 ∨ K p = 9 ∨ K p = 10 ∨ K p = 11 ∨ K p = 15 ∨ K p = 16 ∨ K p = 18 ∨ K p = 19 ∨ K p = 21 ∨ K p = 23 ∨ 25 ≤ K p := by
        have : ∀ k, k < 46 → bUK k = false → k = 0 ∨ k = 5 ∨ k = 6 ∨ k = 9 ∨ k = 10 ∨ k = 11 ∨ k = 15 ∨ k = 16 ∨ k = 18 ∨ k = 19 ∨ k = 21 ∨ k = 23 ∨ 25 ≤ k := by decide
        exact this _ k46 hb
      by_cases z : K p = 0 ∨ K p = 21 ∨ K p = 23 ∨ 25 ≤ K p
      · exact pr_none h c45 z
      · unfold hm_Pa_primary hb_Pa_primary_0
        rw [look_e h c45, bTm_l]
        have k2 : K p = 5 ∨ K p = 6 ∨ K p = 9 ∨ K p = 10 ∨ K p = 11 ∨ K p = 15 ∨ K p = 16 ∨ K p = 18 ∨ K p = 19 := by omega
        rcases k2 with hk | hk | hk | hk | hk | hk | hk | hk | hk
        · rw [hk, show decide (I ((5 : Nat) : Int) = 1) = false from rfl, br_fq, show decide (I ((5 : Nat) : Int) = 2) = false from rfl, br_fq, show decide (I ((5 : Nat) : Int) = 3) = false from rfl, br_fq, show decide (I ((5 : Nat) : Int) = 4) = false from rfl, br_fq, show decide (I ((5 : Nat) : Int) = 5) = true from rfl, br_tq]; exact RFS_T (rfs_e h)
        · rw [hk, show decide (I ((6 : Nat) : Int) = 1) = false from rfl, br_fq, show decide (I ((6 : Nat) : Int) = 2) = false from rfl, br_fq, show decide (I ((6 : Nat) : Int) = 3) = false from rfl, br_fq, show decide (I ((6 : Nat) : Int) = 4) = false from rfl, br_fq, show decide (I ((6 : Nat) : Int) = 5) = false from rfl, br_fq, show decide (I ((6 : Nat) : Int) = 6) = true from rfl, br_tq]; exact RFS_T (rfs_e h)
        · rw [hk, show decide (I ((9 : Nat) : Int) = 1) = false from rfl, br_fq, show decide (I ((9 : Nat) : Int) = 2) = false from rfl, br_fq, show decide (I ((9 : Nat) : Int) = 3) = false from rfl, br_fq, show decide (I ((9 : Nat) : Int) = 4) = false from rfl, br_fq, show decide (I ((9 : Nat) : Int) = 5) = false from rfl, br_fq, show decide (I ((9 : Nat) : Int) = 6) = false from rfl, br_fq, show decide (I ((9 : Nat) : Int) = 7) = false from rfl, br_fq, show decide (I ((9 : Nat) : Int) = 8) = false from rfl, br_fq, show decide (I ((9 : Nat) : Int) = 9) = true from rfl, br_tq]; exact RFS_T (rfs_e h)
        · rw [hk, show decide (I ((10 : Nat) : Int) = 1) = false from rfl, br_fq, show decide (I ((10 : Nat) : Int) = 2) = false from rfl, br_fq, show decide (I ((10 : Nat) : Int) = 3) = false from rfl, br_fq, show decide (I ((10 : Nat) : Int) = 4) = false from rfl, br_fq, show decide (I ((10 : Nat) : Int) = 5) = false from rfl, br_fq, show decide (I ((10 : Nat) : Int) = 6) = false from rfl, br_fq, show decide (I ((10 : Nat) : Int) = 7) = false from rfl, br_fq, show decide (I ((10 : Nat) : Int) = 8) = false from rfl, br_fq, show decide (I ((10 : Nat) : Int) = 9) = false from rfl, br_fq, show decide (I ((10 : Nat) : Int) = 10) = true from rfl, br_tq]; exact RFS_T (rfs_e h)
        · rw [hk, show decide (I ((11 : Nat) : Int) = 1) = false from rfl, br_fq, show decide (I ((11 : Nat) : Int) = 2) = false from rfl, br_fq, show decide (I ((11 : Nat) : Int) = 3) = false from rfl, br_fq, show decide (I ((11 : Nat) : Int) = 4) = false from rfl, br_fq, show decide (I ((11 : Nat) : Int) = 5) = false from rfl, br_fq, show decide (I ((11 : Nat) : Int) = 6) = false from rfl, br_fq, show decide (I ((11 : Nat) : Int) = 7) = false from rfl, br_fq, show decide (I ((11 : Nat) : Int) = 8) = false from rfl, br_fq, show decide (I ((11 : Nat) : Int) = 9) = false from rfl, br_fq, show decide (I ((11 : Nat) : Int) = 10) = false from rfl, br_fq, show decide (I ((11 : Nat) : Int) = 11) = true from rfl, br_tq]; exact RFS_T (rfs_e h)
        · rw [hk, show decide (I ((15 : Nat) : Int) = 1) = false from rfl, br_fq, show decide (I ((15 : Nat) : Int) = 2) = false from rfl, br_fq, show decide (I ((15 : Nat) : Int) = 3) = false from rfl, br_fq, show decide (I ((15 : Nat) : Int) = 4) = false from rfl, br_fq, show decide (I ((15 : Nat) : Int) = 5) = false from rfl, br_fq, show decide (I ((15 : Nat) : Int) = 6) = false from rfl, br_fq, show decide (I ((15 : Nat) : Int) = 7) = false from rfl, br_fq, show decide (I ((15 : Nat) : Int) = 8) = false from rfl, br_fq, show decide (I ((15 : Nat) : Int) = 9) = false from rfl, br_fq, show decide (I ((15 : Nat) : Int) = 10) = false from rfl, br_fq, show decide (I ((15 : Nat) : Int) = 11) = false from rfl, br_fq, show decide (I ((15 : Nat) : Int) = 12) = false from rfl, br_fq, show decide (I ((15 : Nat) : Int) = 13) = false from rfl, br_fq, show decide (I ((15 : Nat) : Int) = 14) = false from rfl, br_fq, show decide (I ((15 : Nat) : Int) = 15) = true from rfl, br_tq]; exact RFS_T (rfs_e h)
        · rw [hk, show decide (I ((16 : Nat) : Int) = 1) = false from rfl, br_fq, show decide (I ((16 : Nat) : Int) = 2) = false from rfl, br_fq, show decide (I ((16 : Nat) : Int) = 3) = false from rfl, br_fq, show decide (I ((16 : Nat) : Int) = 4) = false from rfl, br_fq, show decide (I ((16 : Nat) : Int) = 5) = false from rfl, br_fq, show decide (I ((16 : Nat) : Int) = 6) = false from rfl, br_fq, show decide (I ((16 : Nat) : Int) = 7) = false from rfl, br_fq, show decide (I ((16 : Nat) : Int) = 8) = false from rfl, br_fq, show decide (I ((16 : Nat) : Int) = 9) = false from rfl, br_fq, show decide (I ((16 : Nat) : Int) = 10) = false from rfl, br_fq, show decide (I ((16 : Nat) : Int) = 11) = false from rfl, br_fq, show decide (I ((16 : Nat) : Int) = 12) = false from rfl, br_fq, show decide (I ((16 : Nat) : Int) = 13) = false from rfl, br_fq, show decide (I ((16 : Nat) : Int) = 14) = false from rfl, br_fq, show decide (I ((16 : Nat) : Int) = 15) = false from rfl, br_fq, show decide (I ((16 : Nat) : Int) = 16) = true from rfl, br_tq]; exact RFS_T (rfs_e h)
        · rw [hk, show decide (I ((18 : Nat) : Int) = 1) = false from rfl, br_fq, show decide (I ((18 : Nat) : Int) = 2) = false from rfl, br_fq, show decide (I ((18 : Nat) : Int) = 3) = false from rfl, br_fq, show decide (I ((18 : Nat) : Int) = 4) = false from rfl, br_fq, show decide (I ((18 : Nat) : Int) = 5) = false from rfl, br_fq, show decide (I ((18 : Nat) : Int) = 6) = false from rfl, br_fq, show decide (I ((18 : Nat) : Int) = 7) = false from rfl, br_fq, show decide (I ((18 : Nat) : Int) = 8) = false from rfl, br_fq, show decide (I ((18 : Nat) : Int) = 9) = false from rfl, br_fq, show decide (I ((18 : Nat) : Int) = 10) = false from rfl, br_fq, show decide (I ((18 : Nat) : Int) = 11) = false from rfl, br_fq, show decide (I ((18 : Nat) : Int) = 12) = false from rfl, br_fq, show decide (I ((18 : Nat) : Int) = 13) = false from rfl, br_fq, show decide (I ((18 : Nat) : Int) = 14) = false from rfl, br_fq, show decide (I ((18 : Nat) : Int) = 15) = false from rfl, br_fq, show decide (I ((18 : Nat) : Int) = 16) = false from rfl, br_fq, show decide (I ((18 : Nat) : Int) = 17) = false from rfl, br_fq, show decide (I ((18 : Nat) : Int) = 18) = true from rfl, br_tq]; exact RFS_T (rfs_e h)
        · rw [hk, show decide (I ((19 : Nat) : Int) = 1) = false from rfl, br_fq, show decide (I ((19 : Nat) : Int) = 2) = false from rfl, br_fq, show decide (I ((19 : Nat) : Int) = 3) = false from rfl, br_fq, show decide (I ((19 : Nat) : Int) = 4) = false from rfl, br_fq, show decide (I ((19 : Nat) : Int) = 5) = false from rfl, br_fq, show decide (I ((19 : Nat) : Int) = 6) = false from rfl, br_fq, show decide (I ((19 : Nat) : Int) = 7) = false from rfl, br_fq, show decide (I ((19 : Nat) : Int) = 8) = false from rfl, br_fq, show decide (I ((19 : Nat) : Int) = 9) = false from rfl, br_fq, show decide (I ((19 : Nat) : Int) = 10) = false from rfl, br_fq, show decide (I ((19 : Nat) : Int) = 11) = false from rfl, br_fq, show decide (I ((19 : Nat) : Int) = 12) = false from rfl, br_fq, show decide (I ((19 : Nat) : Int) = 13) = false from rfl, br_fq, show decide (I ((19 : Nat) : Int) = 14) = false from rfl, br_fq, show decide (I ((19 : Nat) : Int) = 15) = false from rfl, br_fq, show decide (I ((19 : Nat) : Int) = 16) = false from rfl, br_fq, show decide (I ((19 : Nat) : Int) = 17) = false from rfl, br_fq, show decide (I ((19 : Nat) : Int) = 18) = false from rfl, br_fq, show decide (I ((19 : Nat) : Int) = 19) = true from rfl, br_tq]; exact RFS_T (rfs_e h)
end
end
section
set_option maxRecDepth 100000
def FUI (N : Nat) (w0 : MS) (K : Nat → Nat) (T : Nat) (nm Nk : Nat → Nat) (p n0 o φ : Nat) : Prop := (∃ (m1 : MS) (n1 q1 X : Nat), PTX N w0 K T nm Nk m1 n0 n1 φ p q1 o NC0 X ∧ 0 < rkK (K q1)) ∧ (K p = 1 → NC0 (K (p + 1)))
def HWo (N : Nat) (m0 w0 : MS) (K : Nat → Nat) (T : Nat) (nm Nk : Nat → Nat) (d : Nat) : Prop := ∀ D, EXS N m0 w0 K T nm Nk 1 NC0 ((hrc_Pa_matched N D).2.2.2.2.2.2.2.2.2.2.2.2.2.1) ((rc_M_behind N d).2.2.2.2.2.2.2.2.2.2.2.1)
section
variable {m0 w0 m w v u mB wB m2 w2 m3 w3 mi w' w1 mX : MS} {K nm Nk W W2 : Nat → Nat} {T p n N q X Y n2 n' p0 n0 n3 p2 ν μ κ o s L d D k q1 q2 lo li ni t0 b c0 b0 tt e0 cur lv len φ : Nat} {sc sc1 sc2 sc3 t t2 : SCT} {e e2 : List Nat × List Nat × Nat} {gd Rf Zf Rg Zg : Bool} {l l' : List Nat} {σ : List (Nat × Nat)} {r v1 v2 v3 v4 v5 x y am om am2 om2 : Int32} {CL CM : Int32 × Int32 × Int32 → Prop} {NC : Nat → Prop} {B1 B2 BC : MS → Prop}
theorem SLI_r (c : CTZ m0 w0 K T nm Nk) (h : SLI N m0 w0 K T nm Nk gd mB wB p n0 e t c0 b0 s m w q n e2 t2 am om l σ) : RLP m0 w0 T q m w ∧ RNs w (e2 :: t2) ∧ ND w ∧ m.1 306 = I (n : Nat) ∧ (p ≤ q ∧ n + 2 * p + s + σ.length ≤ n0 + 2 * q) ∧ (∀ k, k ∈ [70, 73] → w.1 k = wB.1 k) ∧ m.1 666 = mB.1 666 := by
  obtain ⟨X, W, Rf, Rs, Zf, CL, q0, a1, a2, a3, a4, a5, a6⟩ := h
  obtain ⟨a, x, y⟩ := STQ_nd a1
  have nb := a1.2.1
  refine ⟨?_, WFP_rn (STQ_rn a1) (by rw [upI_ne (by decide)]) rfl, ⟨a, by rw [upI_ne (by decide)] at x; exact x, y⟩, by have := nb.2.1; rw [upI_ne (by decide)] at this; exact this, ⟨nb.1, by omega⟩, fun k hk => ?_, ?_⟩
  · obtain ⟨h1, h2, h3, h4, h5, h6, h7⟩ := a1.1
    exact ⟨⟨fun k hk => by have := h1.1 k hk; rw [upI_ne (by omega)] at this; exact this, h1.2⟩, ⟨fun k hk => by have := h2.1 k hk; rw [upI_ne (by rintro rfl; revert hk; decide)] at this; exact this, h2.2⟩, by rw [upI_ne (by decide)] at h3; exact h3, by rw [upI_ne (by decide)] at h4; exact h4, h5, by rw [upI_ne (by decide), upI_ne (by decide)] at h6; exact h6, by rw [upI_ne (by decide)] at h7; exact h7⟩
  · have := a1.2.2.2.2.1.2.2.2.2.2.2.1.1 k (by simp only [List.mem_cons, List.not_mem_nil, or_false] at hk ⊢; omega)
    rw [upI_ne (by rintro rfl; revert hk; decide)] at this
    exact this
  · have := a1.2.2.2.1.1 666 (by decide)
    rw [upI_ne (by decide)] at this
    exact this
theorem SLI_end (c : CTZ m0 w0 K T nm Nk) (hn0 : n0 ≤ 2 * p) (h : SLI N m0 w0 K T nm Nk gd mB wB p n0 e t c0 b0 s m w q n e2 t2 am om l []) (hs : 2 ≤ s) (hφ : l.headD 0 = φ) (hf : FUI N w0 K T nm Nk p n0 o φ) (hpq : p < q) : n + 1 < 8016 ∧ m.1 306 = I (n : Nat) ∧ EXZ N m0 w0 K T nm Nk p n0 gd (e :: t) o NC0 mB wB (adN m n 22 (I (p : Nat)) (I (φ : Nat)) 0 0) (.inl (I ((n + 1 : Nat) : Int))) w r := by
  have hr := SLI_r c h
  obtain ⟨X, W, Rf, Rs, Zf, CL, q0, a1, a2, a3, a4, a5, a6⟩ := h
  have t4 := c.1.1.1
  have nb := a1.2.1
  have qT := a1.1.2.2.2.2.1
  have l0 : ([] : List (Nat × Nat)).length = 0 := rfl
  rw [l0] at a1 a5
  obtain ⟨⟨m1, n1, q1, X9, hx1, hx2⟩, hk1⟩ := hf
  have em : upI m 664 (mB.1 664) = m := upI_id (by rw [a5.1]; exact a5.2.2.2.1)
  have ew : upI w 83 (wB.1 83) = w := upI_id (by rw [a5.2.1]; exact a5.2.2.2.2.1)
  rw [em, ew] at a1
  refine ⟨by omega, hr.2.2.2.1, ?_⟩
  have s1 := STQ_add (s := 1) (a := 22) (b := I (p : Nat)) (c := I (φ : Nat)) (d := 0) (f := 0) (STQ_s2 (s2 := 2) a1 (by omega))
  have Ao := adN_o (m := m) (n := n) (a := 22) (b := I (p : Nat)) (c := I (φ : Nat)) (d := 0) (f := 0)
  have An := adN_nod (m := m) (n := n) (a := 22) (b := I (p : Nat)) (c := I (φ : Nat)) (d := 0) (f := 0)
  have kc : Kcc m (adN m n 22 (I (p : Nat)) (I (φ : Nat)) 0 0) := ⟨fun k hk => adN_i (by omega), fun k hk => adN_r (by omega)⟩
  generalize hA : adN m n 22 (I (p : Nat)) (I (φ : Nat)) 0 0 = A at s1 Ao An kc
  have a3 : Rf = Rs := by
    rw [a3]
    show (Rs || (gd && false)) = Rs
    rw [Bool.and_false, Bool.or_false]
  refine ⟨q, n + 1, n + 1, e2 :: t2, X, W, Rf, Zf, CL, rfl, ⟨by omega, Nat.le_refl _⟩, hpq, s1, An.2, ?_, PTX_der hx1 An.1 (by omega) (Nat.le_refl _) (by omega) (by decide) (by decide) (by decide) (fun _ z => z) (Or.inl hx2), 22, nod_16 An.1, by decide, fun z => absurd z (by decide), fun _ z => hk1 z, p, by omega, nod_17 An.1⟩
  rw [a3]
  have al := SGE_len a2
  exact exn_sig (l := l) (q := p) (q2 := q0) (am := am) (om := om) (by rw [hφ]; exact An.1) (by omega) (Nat.le_refl _) (by omega) ⟨Nat.le_refl _, al.1, a5.2.2.2.2.2.2.1⟩ (fun j h1 h2 => absurd h2 (by omega)) a5.2.2.2.2.2.2.2 (SGE_W a2) BCo_st Ao kc (by omega)
theorem sg_lp (c : CTZ m0 w0 K T nm Nk) (c45 : ∀ p, p ≤ T → K p ≠ 45) (hP : HPr N m0 w0 K T nm Nk d) (hn0 : n0 ≤ 2 * p) (h70 : wB.1 70 = I ((o + 1 : Nat) : Int)) (ho : o + 1 ≤ 25) (hg : decide (wB.1 73 = 0) = !gd) (hc0 : c0 ≤ 4001) : ∀ (M M1 M' : Nat) (m w : MS) (q n : Nat) (e2 : List Nat × List Nat × Nat) (t2 : SCT) (am om : Int32) (l : List Nat) (σ : List (Nat × Nat)) (k s : Nat) (v5 r : Int32), SLI N m0 w0 K T nm Nk gd mB wB p n0 e t c0 b0 s m w q n e2 t2 am om l σ → l.headD 0 = φ → (p < q ∧ p + 2 * k ≤ q) → ((v5 = 1 ∧ 1 ≤ s ∧ σ = [] ∧ l = [φ] ∧ (∀ r', EXZ N m0 w0 K T nm Nk p n0 gd (e :: t) o NC0 mB wB m (.inl (I (φ : Nat))) w r') ∧ (0 < rkK (K q) → FUI N w0 K T nm Nk p n0 o φ)) ∨ (v5 = 0 ∧ 2 ≤ s ∧ FUI N w0 K T nm Nk p n0 o φ)) → PP (EXZ N m0 w0 K T nm Nk p n0 gd (e :: t) o NC0 mB wB) (hg_Pa_signed N (hrc_Pa_matched N D) M m (I (p : Nat)) (I (c0 : Nat)) (I (φ : Nat)) (I ((l.getLastD 0 : Nat) : Int)) v5 (I (k : Nat))) (bnd (gg_M_reduce N M' w (I (b0 : Nat)) (I (rkK (K q) : Nat)) r 1) (wkF N (rc_M_behind N d) M1 (I (b0 : Nat)) (rkK (K q)))) := by
  intro M
  induction M with
  | zero => intros; exact pp_nl
  | succ M ih =>
    intro M1 M' m w q n e2 t2 am om l σ k s v5 r hS hφ hpk hv
    obtain ⟨rl, rn, nd, m306, hb, w7, m666⟩ := SLI_r c hS
    have t4 := c.1.1.1
    have hc := RLP_c c rl
    have hw := RLP_w c rl
    have h0 := rl.2.2.2.2.2.2
    have qT := rl.2.2.2.2.1
    have k46 := hc.1.1.k46 hc.2.2
    have rk6 : rkK (K q) ≤ 6 := by
      have : ∀ k, k < 46 → rkK k ≤ 6 := by decide
      exact this _ k46
    show PP _ (hb_Pa_signed_24 N (hrc_Pa_matched N D) (hg_Pa_signed N (hrc_Pa_matched N D) M) m (I (p : Nat)) (I (c0 : Nat)) (I (φ : Nat)) (I ((l.getLastD 0 : Nat) : Int)) v5 (I (k : Nat))) _
    unfold hb_Pa_signed_24
    rw [show (4000 : Int32) = I ((4000 : Nat) : Int) from rfl, decI (by omega) (by omega) (by omega) (by omega), decide_eq_false (by omega), br_fq, look_e hc (c45 _ qT), bTm_l, rk_e k46, bnd_s]
    have d0 : decide (I (rkK (K q) : Nat) ≤ 0) = decide (rkK (K q) = 0) := by
      rw [show (0 : Int32) = I ((0 : Nat) : Int) from rfl, decI (by omega) (by omega) (by omega) (by omega)]
      exact decide_eq_decide.mpr ⟨fun z => by omega, fun z => by omega⟩
    rw [d0]
    by_cases z0 : rkK (K q) = 0
    · rw [decide_eq_true z0, br_tq]
      unfold hb_Pa_signed_155
      rcases hv with ⟨rfl, hs, rfl, rfl, hE, -⟩ | ⟨rfl, hs, hf⟩
      · rw [show decide ((1 : Int32) = 0) = false from rfl, br_fq]
        obtain ⟨X, W, Rf, Rs, Zf, CL, q0, a1, a2, a3, a4, a5, a6⟩ := hS
        cases M' with
        | zero => exact pp_nr
        | succ M' =>
          show PP _ _ (bnd (fb_M_reduce_6 N (gg_M_reduce N M') w (I (b0 : Nat)) (I (rkK (K q) : Nat)) r 1) _)
          unfold fb_M_reduce_6 fb_M_reduce_258
          rw [show decide ((1 : Int32) = 0) = false from rfl, br_fq, a5.2.2.2.2.1, decI (by show -2147483648 ≤ ((b0 + 0 : Nat) : Int); omega) (by show ((b0 + 0 : Nat) : Int) < 2147483648; have := a5.2.2.1; have l0 : ([] : List (Nat × Nat)).length = 0 := rfl; rw [l0] at this; omega) (by omega) (by have := a5.2.2.1; omega), decide_eq_true (by show ((b0 + 0 : Nat) : Int) ≤ _; omega), br_tq, bnd_s]
          unfold wkF
          rw [if_pos z0]
          exact pp_end (hE r)
      · rw [show decide ((0 : Int32) = 0) = true from rfl, br_tq]
        have hb0 : b0 ≤ 3000 := by
          obtain ⟨X, W, Rf, Rs, Zf, CL, q0, a1, a2, a3, a4, a5, a6⟩ := hS
          have := a5.2.2.1
          omega
        have := cls_pp (R := EXZ N m0 w0 K T nm Nk p n0 gd (e :: t) o NC0 mB wB) (fC := fun u1 r1 => bnd (hm_Tr_add N u1 22 (I (p : Nat)) (I (φ : Nat)) 0 0) (fun u3 r3 => some (u3, .inl r3))) (f := wkF N (rc_M_behind N d) M1 (I (b0 : Nat)) (rkK (K q))) (lv := rkK (K q)) (s := s) (q := q) (mB := mB) (wB := wB) (gd := gd) (e := e) (t := t) (c0 := c0) (b0 := b0) c hn0 rk6 (fun _ _ _ _ z => z) (fun m' w' n3 e3 t3 am' om' l3 σ3 r3 h3 hd3 htop => ?_) (fun w' len r3 z => by omega) σ m w n e2 t2 am om l N M' r hS hφ
        · rw [z0] at this
          rw [z0]
          exact this
        · cases σ3 with
          | cons top rest =>
            have := htop top rfl
            omega
          | nil =>
            obtain ⟨y1, y2, y3⟩ := SLI_end (r := r3) c hn0 h3 hs hd3 hf hpk.1
            show PP _ (bnd (hm_Tr_add N m' 22 (I (p : Nat)) (I (φ : Nat)) 0 0) _) _
            rw [add_e y2 y1, bnd_s]
            unfold wkF
            rw [if_pos z0]
            exact pp_end y3
    · rw [decide_eq_false z0, br_fq, look_e hc (c45 _ qT), bTm_l, rk_e k46, bnd_s]
      have h1 : 1 ≤ rkK (K q) := by omega
      have rk := rk_k k46 h1
      have hq : q < T := TWK_lt c qT (by
        have : ∀ k, k < 46 → 1 ≤ rkK k → 1 ≤ k ∧ k ≤ 44 := by decide
        exact (this _ k46 h1).1) (by
        have : ∀ k, k < 46 → 1 ≤ rkK k → 1 ≤ k ∧ k ≤ 44 := by decide
        exact (this _ k46 h1).2)
      have hf : FUI N w0 K T nm Nk p n0 o φ ∧ 1 ≤ s := by
        rcases hv with ⟨-, hs, -, -, -, hf⟩ | ⟨-, hs, hf⟩
        · exact ⟨hf (by omega), hs⟩
        · exact ⟨hf, by omega⟩
      have hb0 : b0 ≤ 3000 := by
        obtain ⟨X, W, Rf, Rs, Zf, CL, q0, a1, a2, a3, a4, a5, a6⟩ := hS
        have := a5.2.2.1
        omega
      refine cls_pp (R := EXZ N m0 w0 K T nm Nk p n0 gd (e :: t) o NC0 mB wB) (φ := φ) (f := wkF N (rc_M_behind N d) M1 (I (b0 : Nat)) (rkK (K q))) (lv := rkK (K q)) (s := s) (q := q) (mB := mB) (wB := wB) (gd := gd) (e := e) (t := t) (c0 := c0) (b0 := b0) c hn0 rk6 (fun _ _ _ _ z => z) (fun m' w' n3 e3 t3 am' om' l3 σ3 r3 h3 hd3 htop => ?_) (fun w' len r3 z x83 xlen x79 x67 xw => ?_) σ m w n e2 t2 am om l N M' r hS hφ
      · obtain ⟨rl', rn', nd', m306', hb', w7', m666'⟩ := SLI_r c h3
        have hc' := RLP_c c rl'
        have hw' := RLP_w c rl'
        have h0' := rl'.2.2.2.2.2.2
        have num : m'.1 664 = I ((c0 + σ3.length : Nat) : Int) ∧ w'.1 83 = I ((b0 + σ3.length : Nat) : Int) ∧ b0 + σ3.length ≤ 3000 ∧ c0 + σ3.length ≤ 4002 ∧ l3 ≠ [] ∧ l3.getLastD 0 ≤ 8015 ∧ (∀ top rest, σ3 = top :: rest → w'.2.2.1 79 (b0 + rest.length) = I (rkK (K top.1) : Nat)) := by
          obtain ⟨X, W, Rf, Rs, Zf, CL, q0, a1, a2, a3, a4, a5, a6⟩ := h3
          obtain ⟨d1, d2, d3⟩ := SGE_hd a2 a4.1
          refine ⟨a5.2.2.2.1, a5.2.2.2.2.1, a5.2.2.1, a5.2.2.2.2.2.1, a4.1, by omega, fun top rest z => ?_⟩
          subst z
          obtain ⟨q', b'⟩ := top
          exact a6.1.2.1
        obtain ⟨n664, n83, nb3, nc2, ln0, ll8, n79⟩ := num
        have g73 : decide (w'.1 73 = 0) = !gd := by rw [w7' 73 (by decide)]; exact hg
        have ref : ∀ {a : Option (MS × (Int32 ⊕ Nat))}, (b0 + σ3.length < 3000 → ∀ w1 w2, PSS K q b0 σ3.length e3.1.length w' w1 → (((gd && decide (rkK (K q) = 4)) = false ∧ w2 = w1) ∨ ((gd && decide (rkK (K q) = 4)) = true ∧ w2.1 72 ≠ 0 ∧ (∀ k, k ≠ 71 → k ≠ 72 → w2.1 k = w1.1 k) ∧ w2.2.2.1 = w1.2.2.1)) → PP (EXZ N m0 w0 K T nm Nk p n0 gd (e :: t) o NC0 mB wB) a (fb_M_worked_292 N (rc_M_behind N d) (gg_M_worked N (rc_M_behind N d) M1) w2 (I (b0 : Nat)) r3 1)) → PP (EXZ N m0 w0 K T nm Nk p n0 gd (e :: t) o NC0 mB wB) a (wkF N (rc_M_behind N d) M1 (I (b0 : Nat)) (rkK (K q)) w' r3) := fun {a} hG => by
          have base := ps_r (R := EXZ N m0 w0 K T nm Nk p n0 gd (e :: t) o NC0 mB wB) (a := a) (v1 := I (b0 : Nat)) (r := r3) (M := M1) hw' (by omega) n83 nb3 h1 rn' nd' g73 hG
          unfold wkF
          rw [if_neg z0, I_dn (a := rkK (K q)) (b := 3) (s := 3) (by omega) (by decide) rfl]
          by_cases z3 : rkK (K q) = 3
          · rw [decide_eq_true z3, br_tq, n83, decI (by omega) (by omega) (by omega) (by omega)]
            cases σ3 with
            | nil =>
              rw [decide_eq_true (by show ((b0 + 0 : Nat) : Int) ≤ _; omega), br_tq]
              exact base
            | cons top rest =>
              have ll : (top :: rest).length = rest.length + 1 := rfl
              rw [ll, decide_eq_false (by omega), br_fq, show b0 + (rest.length + 1) = b0 + rest.length + 1 by omega, I_sn]
              refine r_ck (fun _ => ?_)
              have tp := htop top rfl
              rw [tnI (n := b0 + rest.length) rfl (by rw [ll] at nb3; omega), n79 top rest rfl, I_dn (a := rkK (K top.1)) (b := 3) (s := 3) (by omega) (by decide) rfl, decide_eq_false (p := rkK (K top.1) = 3) (by omega), br_fq]
              exact base
          · rw [decide_eq_false z3, br_fq]
            exact base
        show PP _ (ck (inb (m'.1 664) 4002) _) _
        refine l_ck (fun z664 => ?_)
        have hlen2 : c0 + σ3.length < 4002 := by
          rw [n664] at z664
          have := (I_inb (n := 4002) (x := ((c0 + σ3.length : Nat) : Int)) (by omega) (by omega)).mp z664
          omega
        refine l_lt (l_lt ?_)
        rw [n664, tnI (n := c0 + σ3.length) rfl (by omega), hc'.2.1]
        have e664 : ∀ g, (upA m' 34 g).1 664 + 1 = I ((c0 + σ3.length + 1 : Nat) : Int) := fun g => by show m'.1 664 + 1 = _; rw [n664, i_suc]
        rw [e664]
        have go : ∀ (mX : MS) (n' : Nat) (l' : List Nat) (am2 om2 : Int32), ((3 ≤ rkK (K q) ∧ mX = upI (upA m' 34 (upd (m'.2.2.1 34) (c0 + σ3.length) (I (q : Nat)))) 664 (I ((c0 + σ3.length + 1 : Nat) : Int)) ∧ n' = n3 ∧ l' = l3 ∧ am2 = am' ∧ om2 = om') ∨ (rkK (K q) ≤ 2 ∧ mX = upA (adN (upI (upA m' 34 (upd (m'.2.2.1 34) (c0 + σ3.length) (I (q : Nat)))) 664 (I ((c0 + σ3.length + 1 : Nat) : Int))) n3 24 (I (q : Nat)) (I (K q : Nat)) 0 0) 21 (upd ((adN (upI (upA m' 34 (upd (m'.2.2.1 34) (c0 + σ3.length) (I (q : Nat)))) 664 (I ((c0 + σ3.length + 1 : Nat) : Int))) n3 24 (I (q : Nat)) (I (K q : Nat)) 0 0).2.2.1 21) (l3.getLastD 0) (I ((n3 + 1 : Nat) : Int))) ∧ n' = n3 + 1 ∧ l' = l3 ++ [n3 + 1] ∧ ((K q = 6 ∧ am2 = I (tot (e3 :: t3) : Nat) ∧ om2 = om') ∨ (K q = 16 ∧ am2 = am' ∧ om2 = I (tot (e3 :: t3) : Nat))))) → mX.1 665 = I (q : Nat) → PP (EXZ N m0 w0 K T nm Nk p n0 gd (e :: t) o NC0 mB wB) (hb_Pa_signed_127 N (hrc_Pa_matched N D) (hg_Pa_signed N (hrc_Pa_matched N D) M) mX (I (p : Nat)) (I (c0 : Nat)) (I (φ : Nat)) (I ((l'.getLastD 0 : Nat) : Int)) 0 (I (k : Nat))) (wkF N (rc_M_behind N d) M1 (I (b0 : Nat)) (rkK (K q)) w' r3) := fun mX n' l' am2 om2 hm x665 => by
          refine ref (fun hlen w1 w2 hp hw2 => ?_)
          have S2 := SLI_push (mX := mX) (n' := n') (l' := l') (am2 := am2) (om2 := om2) c hn0 h3 htop h1 hq hlen hlen2 hp hw2 hm
          have w2f : ∀ k, k ≠ 71 → k ≠ 72 → k ≠ 32 → w2.1 k = w'.1 k := fun k k1 k2 k3 => by
            rcases hw2 with ⟨-, rfl⟩ | ⟨-, -, z, -⟩
            · exact hp.1 k k3
            · rw [z k k1 k2]; exact hp.1 k k3
          unfold hb_Pa_signed_127 fb_M_worked_292
          refine r_lt (r_lt (l_lt ?_))
          have e83 : w2.1 83 + 1 = I ((b0 + σ3.length + 1 : Nat) : Int) := by rw [w2f 83 (by decide) (by decide) (by decide), n83, i_suc]
          rw [e83]
          have e69 : (upI w2 83 (I ((b0 + σ3.length + 1 : Nat) : Int))).1 69 + 1 = I ((q + 1 : Nat) : Int) := by rw [upI_ne (by decide), w2f 69 (by decide) (by decide) (by decide), hw'.2.1, i_suc]
          rw [e69, x665, i_suc]
          obtain ⟨rlx, rnx, ndx, m306x, hbx, w7x, m666x⟩ := SLI_r c S2
          have l2x : l' ≠ [] ∧ l'.getLastD 0 ≤ 8015 ∧ l'.headD 0 = φ := by
            rcases hm with ⟨-, -, -, rfl, -⟩ | ⟨-, -, -, rfl, -⟩
            · exact ⟨ln0, ll8, hd3⟩
            · exact ⟨by simp, by rw [getLastD_snoc]; omega, by rw [headD_snoc ln0]; exact hd3⟩
          show PP _ (bTm ((hrc_Pa_matched N D).2.2.2.2.2.2.2.2.2.2.2.2.1 (advc mX q)) _) _
          generalize hw3 : upI (upI w2 83 (I ((b0 + σ3.length + 1 : Nat) : Int))) 69 (I ((q + 1 : Nat) : Int)) = w3 at S2 rlx rnx ndx w7x
          have hcx := RLP_c c rlx
          have hwx := RLP_w c rlx
          have h0x := rlx.2.2.2.2.2.2
          have b3x : w3.1 83 = I ((b0 + (σ3.length + 1) : Nat) : Int) := by rw [← hw3, upI_ne (by decide), upI_at]; congr 2
          rw [decide_eq_true h0x, br_tq, bU_m hwx, bnd_s]
          cases hbu : bUK (K (q + 1)) with
          | false =>
            rw [show decide (b2c false = 0) = true from rfl, br_tq]
            rcases un_rf (N := N) hcx (c45 _ hq) hbu D with z | z
            · rw [z]; exact pp_nl
            · exact pp_rf (RFS_T z) (fun mm => pk_bnd (fun v r z => w331_f (wrong_s (u0 := v) (by decide) v r z)))
          | true =>
            rw [show decide (b2c true = 0) = false from rfl, br_fq]
            unfold fb_M_worked_331
            cases M1 with
            | zero => exact pp_nr
            | succ M1 =>
              show PP _ _ (fb_M_worked_9 N (rc_M_behind N d) (gg_M_worked N (rc_M_behind N d) M1) w3 (I (b0 : Nat)) r3 1)
              unfold fb_M_worked_9
              rw [show decide ((1 : Int32) = 0) = false from rfl, br_fq, decide_eq_true h0x, br_tq]
              refine un_pp (gd := gd) c c45 hP (fun _ _ _ _ z => z) D M1 (advc mX q) w3 (q + 1) n' (e3 :: t3) o _ rlx m306x (by omega) rnx ndx (by rw [w7x 70 (by decide)]; exact h70) ho (by rw [w7x 73 (by decide)]; exact hg) (fun M2 m2 ε w2' r' k' hEu hU => ?_)
              obtain ⟨q2, n2, μ, sc4, X, W, Rf, Zf, CL, b1, b2, b3, b4, b5⟩ := id hEu
              have w2p : WP w2' K T q2 := by
                have := RLP_w c b4.1
                exact ⟨this.1, by have := this.2.1; rw [bkW_i (by decide) (by decide)] at this; exact this, this.2.2⟩
              have w2z : w2'.1 67 = 0 := by have := b4.1.2.2.2.2.2.2; rw [bkW_i (by decide) (by decide)] at this; exact this
              refine wkR_e w2p w2z (fun M3 => ?_)
              have fin : ∀ u r9 M9, SMS (bkW w3 w2') u → u.1 69 = (bkW w3 w2').1 69 → PP (EXZ N m0 w0 K T nm Nk p n0 gd (e :: t) o NC0 mB wB) (bnd (hm_Pa_chain N m2 (I ((l'.getLastD 0 : Nat) : Int)) ε) (fun u8 r8 => hg_Pa_signed N (hrc_Pa_matched N D) M u8 (I (p : Nat)) (I (c0 : Nat)) (I (φ : Nat)) r8 0 (I (k : Nat) + 1))) (bnd (gg_M_reduce N M9 u (I (b0 : Nat)) (I (rkK (K q2) : Nat)) r9 1) (wkF N (rc_M_behind N d) M3 (I (b0 : Nat)) (rkK (K q2)))) := fun u r9 M9 sm s69 => by
                obtain ⟨μ', q2', n2', e4, t4', x1, x2, x3, x4⟩ := SLI_unit c hn0 S2 hEu sm s69 hf.2
                have eq2 : q2' = q2 := by
                  have f1 := (SLI_r c x4).1.2.2.2.1
                  have f2 := b4.1.2.2.2.1
                  rw [s69, f2] at f1
                  have := (I_eq (x := (q2 : Nat)) (y := (q2' : Nat)) (by omega) (by have := b4.1.2.2.2.2.1; omega) (by omega) (by have := (SLI_r c x4).1.2.2.2.2.1; omega)).mp f1
                  omega
                subst eq2
                unfold hm_Pa_chain hb_Pa_chain_0
                rw [x1, tnI (n := l'.getLastD 0) rfl (by omega), bnd_ck]
                refine l_ck (fun _ => ?_)
                rw [bnd_lt]
                refine l_lt ?_
                rw [bnd_s, i_suc]
                have := ih M3 M9 _ u q2' n2' e4 t4' am2 om2 (l' ++ [μ']) ((q, e3.1.length) :: σ3) (k + 1) (s + 1) 0 r9 x4 (by rw [headD_snoc l2x.1]; exact l2x.2.2) ⟨by omega, by omega⟩ (Or.inr ⟨rfl, by omega, hf.1⟩)
                rw [getLastD_snoc] at this
                exact this
              rcases hU with ⟨rfl, y1, y2⟩ | ⟨t0, y1, y2, y3, y4, δ, y5, y6, y7⟩
              · have e2 : bkW w3 w2' = w2' := by
                  unfold bkW
                  rw [upI_id (k := 83) y1, upI_id (k := 70) y2]
                exact fin w2' r' N (by rw [e2]; exact SMS_rf) (by rw [e2])
              · have et : t0 = b0 + (σ3.length + 1) := by
                  have := y1.symm.trans b3x
                  have := (I_eq (x := (t0 : Nat)) (y := ((b0 + (σ3.length + 1) : Nat) : Int)) (by omega) (by omega) (by omega) (by omega)).mp this
                  omega
                have k46' := w2p.1.1.k46 w2p.2.2
                have rk6' : rkK (K q2) ≤ 6 := by
                  have : ∀ k, k < 46 → rkK k ≤ 6 := by decide
                  exact this _ k46'
                refine red_un (t0 := t0) (δ := δ) rk6' (by omega) k' N w2' r' y2 y3 y4 y7 (fun u r9 M9 sm s69 => fin u r9 M9 ?_ ?_)
                · unfold bkW
                  rw [y1, y5]
                  exact sm
                · rw [s69, bkW_i (by decide) (by decide)]
        rw [I_dn (a := K q) (b := 6) (s := 6) (by omega) (by decide) rfl, I_dn (a := K q) (b := 16) (s := 16) (by omega) (by decide) rfl]
        have hinge : ∀ (am2 om2 : Int32), rkK (K q) ≤ 2 → ((K q = 6 ∧ am2 = I (tot (e3 :: t3) : Nat) ∧ om2 = om') ∨ (K q = 16 ∧ am2 = am' ∧ om2 = I (tot (e3 :: t3) : Nat))) → PP (EXZ N m0 w0 K T nm Nk p n0 gd (e :: t) o NC0 mB wB) (hb_Pa_signed_102 N (hrc_Pa_matched N D) (hg_Pa_signed N (hrc_Pa_matched N D) M) (upI (upA m' 34 (upd (m'.2.2.1 34) (c0 + σ3.length) (I (q : Nat)))) 664 (I ((c0 + σ3.length + 1 : Nat) : Int))) (I (p : Nat)) (I (c0 : Nat)) (I (φ : Nat)) (I ((l3.getLastD 0 : Nat) : Int)) 0 (I (k : Nat)) (I (K q : Nat))) (wkF N (rc_M_behind N d) M1 (I (b0 : Nat)) (rkK (K q)) w' r3) := fun am2 om2 hk2 hao => by
          unfold hb_Pa_signed_102
          have i306 : (upI (upA m' 34 (upd (m'.2.2.1 34) (c0 + σ3.length) (I (q : Nat)))) 664 (I ((c0 + σ3.length + 1 : Nat) : Int))).1 306 = I (n3 : Nat) := by rw [upI_ne (by decide)]; exact m306'
          have i665 : (upI (upA m' 34 (upd (m'.2.2.1 34) (c0 + σ3.length) (I (q : Nat)))) 664 (I ((c0 + σ3.length + 1 : Nat) : Int))).1 665 = I (q : Nat) := by rw [upI_ne (by decide)]; exact hc'.2.1
          rw [i665, add_e i306 (by omega), bnd_s]
          unfold hm_Pa_chain hb_Pa_chain_0
          rw [tnI (n := l3.getLastD 0) rfl (by omega), bnd_ck]
          refine l_ck (fun _ => ?_)
          rw [bnd_lt]
          refine l_lt ?_
          rw [bnd_s]
          have a665 : (adN (upI (upA m' 34 (upd (m'.2.2.1 34) (c0 + σ3.length) (I (q : Nat)))) 664 (I ((c0 + σ3.length + 1 : Nat) : Int))) n3 24 (I (q : Nat)) (I (K q : Nat)) 0 0).1 665 = I (q : Nat) := (adN_i (by decide)).trans i665
          have := go _ (n3 + 1) (l3 ++ [n3 + 1]) am2 om2 (Or.inr ⟨hk2, rfl, rfl, rfl, hao⟩) a665
          rw [getLastD_snoc] at this
          exact this
        by_cases k6 : K q = 6
        · rw [decide_eq_true k6, br_tq]
          exact hinge _ _ (rk.1.mpr (Or.inl k6)) (Or.inl ⟨k6, rfl, rfl⟩)
        · rw [decide_eq_false k6, br_fq]
          by_cases k16 : K q = 16
          · rw [decide_eq_true k16, br_tq]
            exact hinge _ _ (rk.1.mpr (Or.inr k16)) (Or.inr ⟨k16, rfl, rfl⟩)
          · rw [decide_eq_false k16, br_fq]
            have hk3 : 3 ≤ rkK (K q) := by
              have : ¬ rkK (K q) ≤ 2 := fun z => by rcases rk.1.mp z with y | y <;> omega
              omega
            exact go _ n3 l3 am' om' (Or.inl ⟨hk3, rfl, rfl, rfl, rfl, rfl⟩) (by rw [upI_ne (by decide)]; exact hc'.2.1)
      · unfold wkF
        rw [if_neg z0, z, show decide (I ((3 : Nat) : Int) = 3) = true from rfl, br_tq, x83, decI (by omega) (by omega) (by omega) (by omega), decide_eq_false (by omega), br_fq, I_sn]
        refine pk_ck (fun _ => ?_)
        rw [tnI (n := b0 + len) rfl (by omega), x79, show decide ((3 : Int32) = 3) = true from rfl, br_tq]
        exact pk_bnd (fun v r z => w189_f (wrong_s (u0 := v) (by decide) v r z))
end
end
section
set_option maxRecDepth 100000
section
variable {m0 w0 m w v u mB wB m2 w2 m3 w3 mi w' w1 mX : MS} {K nm Nk W W2 : Nat → Nat} {T p n N q X Y n2 n' p0 n0 n3 p2 ν μ κ o s L d D k q1 q2 lo li ni t0 b c0 b0 tt e0 cur lv len φ : Nat} {sc sc1 sc2 sc3 t t2 : SCT} {e e2 : List Nat × List Nat × Nat} {gd Rf Zf Rg Zg : Bool} {l l' : List Nat} {σ : List (Nat × Nat)} {r v1 v2 v3 v4 v5 x y am om am2 om2 : Int32} {CL CM : Int32 × Int32 × Int32 → Prop} {NC : Nat → Prop} {B1 B2 BC : MS → Prop}
theorem le_rf {x : Int32} : decide (x ≤ x) = true := decide_eq_true (Int32.le_refl x)
theorem EXZ_s {z : Int32} (h : EXZ N m0 w0 K T nm Nk p n gd sc o NC m w m2 (.inl z) w2 r) (k : SMS w2 u) (h69 : u.1 69 = w2.1 69) : EXZ N m0 w0 K T nm Nk p n gd sc o NC m w m2 (.inl z) u v1 := by
  obtain ⟨q, n2, μ, sc4, X, W, Rf, Zf, CL, b1, b2, b3, b4, b5⟩ := h
  exact ⟨q, n2, μ, sc4, X, W, Rf, Zf, CL, b1, b2, b3, STQ_s b4 k h69, b5⟩
theorem sg_st (c : CTZ m0 w0 K T nm Nk) (c45 : ∀ p, p ≤ T → K p ≠ 45) (hP : HPr N m0 w0 K T nm Nk d) (hn0 : n ≤ 2 * p) (h70 : w.1 70 = I ((o + 1 : Nat) : Int)) (ho : o + 1 ≤ 25) (hg : decide (w.1 73 = 0) = !gd) {M M3 M9 : Nat} (h : EXZ N m0 w0 K T nm Nk p n gd sc o NC0 m w m2 (.inl x) u r) : ∃ q, WP u K T q ∧ u.1 67 = 0 ∧ PP (EXZ N m0 w0 K T nm Nk p n gd sc o NC0 m w) (hg_Pa_signed N (hrc_Pa_matched N D) M m2 (I (p : Nat)) (m.1 664) x x 1 0) (bnd (gg_M_reduce N M9 u (w.1 83) (I (rkK (K q) : Nat)) r 1) (wkF N (rc_M_behind N d) M3 (w.1 83) (rkK (K q)))) := by
  obtain ⟨q, n2, μ, sc2, X, W, Rf, Zf, CL, b1, b2, b3, b4, b5, b6, b7, kk, k1, k2, k3, k4⟩ := id h
  have hc := RLP_c c b4.1
  have hw := RLP_w c b4.1
  have h0 := b4.1.2.2.2.2.2.2
  have qT := b4.1.2.2.2.2.1
  have k46 := hc.1.1.k46 hc.2.2
  have t4 := c.1.1.1
  have u83 : u.1 83 = w.1 83 := b4.2.2.2.2.1.2.2.2.2.2.2.1.1 83 (by decide)
  have m664 : m2.1 664 = m.1 664 := b4.2.2.2.1.1 664 (by decide)
  have nb := b4.2.1
  have rk6 : rkK (K q) ≤ 6 := by
    have : ∀ k, k < 46 → rkK k ≤ 6 := by decide
    exact this _ k46
  refine ⟨q, hw, h0, ?_⟩
  by_cases hx : (∃ b0 : Nat, w.1 83 = I (b0 : Nat) ∧ b0 ≤ 3000) ∧ ∃ c0 : Nat, m.1 664 = I (c0 : Nat) ∧ c0 ≤ 4001
  · obtain ⟨⟨b0, hb0, hb3⟩, c0, hc0, hc4⟩ := hx
    rw [hb0, hc0, b1]
    have fu : 0 < rkK (K q) → FUI N w0 K T nm Nk p n o μ := fun z => by
      refine ⟨⟨m2, n2, q, X, b7, z⟩, fun y => ?_⟩
      by_cases k9 : kk = 1
      · rw [← (k3 k9).2.1]; exact Or.inl z
      · exact k4.1 k9 y
    have scl := b4.2.2.2.2.1
    cases sc with
    | nil => exact scl.2.1.elim
    | cons e t =>
      cases sc2 with
      | nil => exact scl.2.1.elim
      | cons e2 t2 =>
        have := sg_lp (N := N) (D := D) (φ := μ) (e := e) (t := t) (mB := m) (wB := w) c c45 hP hn0 h70 ho hg hc4 M M3 M9 m2 u q n2 e2 t2 0 0 [μ] [] 0 1 1 r (b0 := b0) ?_ rfl ⟨b3, by omega⟩ (Or.inl ⟨rfl, Nat.le_refl _, rfl, rfl, fun r' => ?_, fu⟩)
        · exact this
        · refine ⟨X, W, Rf, Rf, Zf, CL, q, ?_, ?_, ?_, ⟨(fun z => by cases z), b5⟩, ⟨hc0, hb0, by show b0 + 0 ≤ 3000; omega, by rw [m664]; exact hc0, by rw [u83]; exact hb0, by show c0 + 0 ≤ 4002; omega, Nat.le_refl _, fun j h1 h2 => absurd h2 (by omega)⟩, trivial⟩
          · rw [upI_id (k := 664) m664, upI_id (k := 83) u83]
            exact b4
          · exact ⟨⟨b2.1, b2.2⟩, b5, Or.inl ⟨p, q, e2 :: t2, X, 0, Rf, false, Zf, false, BCo N CL, (fun _ => False), ⟨Nat.le_refl _, by omega, Nat.le_refl _⟩, fun j h1 h2 => absurd h2 (by omega), ⟨m2, n, n2, kk, b6, ⟨fun _ _ _ => ⟨rfl, fun _ => rfl⟩, Kc_rf⟩, ⟨Nat.le_refl _, Nat.le_refl _⟩, ⟨k1, k2⟩, b2, fun z => absurd rfl z⟩, ⟨scl.2.2.2.1.1, SCX_len scl.2.1, scl.2.2.2.1.2⟩, ⟨⟨rfl, rfl, rfl, rfl, rfl, fun _ z => z⟩, rfl, rfl⟩, by omega, (Bool.or_false _).symm, (Bool.or_false _).symm, fun m => (iff_of_eq (or_false _)).symm, fun _ _ _ => Iff.rfl⟩⟩
          · show Rf = (Rf || (gd && false))
            rw [Bool.and_false, Bool.or_false]
        · rw [← b1]
          exact EXZ_s h SMS_rf rfl
  · cases M with
    | zero => exact pp_nl
    | succ M =>
      cases M9 with
      | zero => exact pp_nr
      | succ M9 =>
        show PP _ (hb_Pa_signed_24 N (hrc_Pa_matched N D) (hg_Pa_signed N (hrc_Pa_matched N D) M) m2 (I (p : Nat)) (m.1 664) x x 1 0) (bnd (fb_M_reduce_6 N (gg_M_reduce N M9) u (w.1 83) (I (rkK (K q) : Nat)) r 1) _)
        unfold hb_Pa_signed_24 fb_M_reduce_6 fb_M_reduce_258
        rw [show decide ((4000 : Int32) ≤ 0) = false from rfl, br_fq, look_e hc (c45 _ qT), bTm_l, rk_e k46, bnd_s, u83, le_rf, show decide ((1 : Int32) = 0) = false from rfl, br_fq, br_tq, bnd_s]
        have d0 : decide (I (rkK (K q) : Nat) ≤ 0) = decide (rkK (K q) = 0) := by
          rw [show (0 : Int32) = I ((0 : Nat) : Int) from rfl, decI (by omega) (by omega) (by omega) (by omega)]
          exact decide_eq_decide.mpr ⟨fun z => by omega, fun z => by omega⟩
        rw [d0]
        unfold wkF
        by_cases z0 : rkK (K q) = 0
        · rw [decide_eq_true z0, br_tq, if_pos z0]
          unfold hb_Pa_signed_155
          rw [show decide ((1 : Int32) = 0) = false from rfl, br_fq]
          exact pp_end h
        · rw [decide_eq_false z0, br_fq, if_neg z0, look_e hc (c45 _ qT), bTm_l, rk_e k46, bnd_s, u83, le_rf, br_tq]
          have cl : ∀ M, hg_Pa_closeSigns N M m2 (m.1 664) (I (rkK (K q) : Nat)) x = none ∨ hg_Pa_closeSigns N M m2 (m.1 664) (I (rkK (K q) : Nat)) x = some (m2, .inl x) := fun M => by
            cases M with
            | zero => exact Or.inl rfl
            | succ M =>
              refine Or.inr ?_
              show hb_Pa_closeSigns_3 N (hg_Pa_closeSigns N M) m2 (m.1 664) (I (rkK (K q) : Nat)) x = _
              unfold hb_Pa_closeSigns_3
              rw [m664, le_rf, br_tq]
          show PP _ (bTm (hg_Pa_closeSigns N N m2 (m.1 664) (I (rkK (K q) : Nat)) x) _) _
          rcases cl N with z | z
          · rw [z]; exact pp_nl
          · rw [z, bTm_l]
            refine l_ck (fun zc => ?_)
            have hcx : ∃ c0 : Nat, m.1 664 = I (c0 : Nat) ∧ c0 ≤ 4001 := by
              rw [m664] at zc
              obtain ⟨a, h1, h2⟩ := inb_N zc
              exact ⟨a, h1, by omega⟩
            have nb0 : ¬ ∃ b0 : Nat, w.1 83 = I (b0 : Nat) ∧ b0 ≤ 3000 := fun y => hx ⟨y, hcx⟩
            have n189 : PP (EXZ N m0 w0 K T nm Nk p n gd sc o NC0 m w) (lt (upA m2 34 (upd (m2.2.2.1 34) (m2.1 664).toNatClampNeg (m2.1 665))) (fun w23 => lt (upI w23 664 (w23.1 664 + 1)) (fun w25 => br (decide (I (K q : Nat) = 6)) (hb_Pa_signed_102 N (hrc_Pa_matched N D) (hg_Pa_signed N (hrc_Pa_matched N D) M) w25 (I (p : Nat)) (m.1 664) x x 0 0 (I (K q : Nat))) (br (decide (I (K q : Nat) = 16)) (hb_Pa_signed_102 N (hrc_Pa_matched N D) (hg_Pa_signed N (hrc_Pa_matched N D) M) w25 (I (p : Nat)) (m.1 664) x x 0 0 (I (K q : Nat))) (hb_Pa_signed_127 N (hrc_Pa_matched N D) (hg_Pa_signed N (hrc_Pa_matched N D) M) w25 (I (p : Nat)) (m.1 664) x x 0 0))))) (fb_M_worked_189 N (rc_M_behind N d) (gg_M_worked N (rc_M_behind N d) M3) u (w.1 83) r 1 (I (rkK (K q) : Nat))) := by
              unfold fb_M_worked_189
              refine r_ck (fun zb => ?_)
              exfalso
              rw [u83] at zb
              obtain ⟨a, h1, h2⟩ := inb_N zb
              have l79 : ln 79 = 3000 := rfl
              exact nb0 ⟨a, h1, by omega⟩
            exact r_br (fun _ => n189) (fun _ => n189)
theorem HWo_s (c : CTZ m0 w0 K T nm Nk) (c45 : ∀ p, p ≤ T → K p ≠ 45) (hP : HPr N m0 w0 K T nm Nk d) : HWo N m0 w0 K T nm Nk (d + 1) := by
  intro D m w p n sc gd o h hn hn2 hR nd h70 ho hg
  cases D with
  | zero => exact pp_nl
  | succ D =>
    show PP _ (hb_Pa_signed_0 N (hrc_Pa_matched N D) (hg_Pa_signed N (hrc_Pa_matched N D) N) m) (fb_M_worked_0 N (rc_M_behind N d) (gg_M_worked N (rc_M_behind N d) N) w)
    have hc := RLP_c c h
    have h0 := h.2.2.2.2.2.2
    unfold hb_Pa_signed_0 fb_M_worked_0
    have go : ∀ M, PP (EXZ N m0 w0 K T nm Nk p n gd sc o NC0 m w) (bTm ((hrc_Pa_matched N D).2.2.2.2.2.2.2.2.2.2.2.2.1 m) (fun u28 r28 => hg_Pa_signed N (hrc_Pa_matched N D) N u28 (m.1 665) (m.1 664) r28 r28 1 0)) ((gg_M_worked N (rc_M_behind N d) M).1 w (w.1 83) (-1) 1) := fun M => by
      cases M with
      | zero => exact pp_nr
      | succ M =>
        show PP _ _ (fb_M_worked_9 N (rc_M_behind N d) (gg_M_worked N (rc_M_behind N d) M) w (w.1 83) (-1) 1)
        unfold fb_M_worked_9
        rw [show decide ((1 : Int32) = 0) = false from rfl, br_fq, decide_eq_true h0, br_tq]
        refine un_pp (gd := gd) (v1 := w.1 83) c c45 hP (fun _ _ _ _ z => z) D M m w p n sc o _ h hn hn2 hR nd h70 ho hg (fun M2 m2 ε w2 r k hE hU => ?_)
        rw [hc.2.1]
        have pos : ∃ q, WP w2 K T q ∧ w2.1 67 = 0 := by
          obtain ⟨q2, n2, μ, sc4, X, W, Rf, Zf, CL, b1, b2, b3, b4, b5⟩ := hE
          refine ⟨q2, ?_, ?_⟩
          · have := RLP_w c b4.1
            exact ⟨this.1, by have := this.2.1; rw [bkW_i (by decide) (by decide)] at this; exact this, this.2.2⟩
          · have := b4.1.2.2.2.2.2.2; rw [bkW_i (by decide) (by decide)] at this; exact this
        obtain ⟨q, hw2, h02⟩ := pos
        have qe : ∀ u q', WP u K T q' → u.1 69 = w2.1 69 → q' = q := fun u q' hu h69 => by
          have := hu.2.1.symm.trans (h69.trans hw2.2.1)
          have t4 := c.1.1.1
          have := (I_eq (x := (q' : Nat)) (y := (q : Nat)) (by omega) (by have := hu.2.2; omega) (by omega) (by have := hw2.2.2; omega)).mp this
          omega
        refine wkR_e hw2 h02 (fun M3 => ?_)
        rcases hU with ⟨rfl, y1, y2⟩ | ⟨t0, y1, y2, y3, y4, δ, y5, y6, y7⟩
        · have e2 : bkW w w2 = w2 := by
            unfold bkW
            rw [upI_id (k := 83) y1, upI_id (k := 70) y2]
          rw [e2] at hE
          obtain ⟨q', hq', -, hh⟩ := sg_st (D := D) (M := N) (M3 := M3) (M9 := N) c c45 hP hn2 h70 ho hg hE
          have := qe w2 q' hq' rfl
          subst this
          exact hh
        · have k46' := hw2.1.1.k46 hw2.2.2
          have rk6' : rkK (K q) ≤ 6 := by
            have : ∀ k, k < 46 → rkK k ≤ 6 := by decide
            exact this _ k46'
          rw [y1]
          refine red_un (t0 := t0) (δ := δ) rk6' (Nat.le_refl _) k N w2 r y2 y3 y4 y7 (fun u r9 M9 sm s69 => ?_)
          have sm2 : SMS (bkW w w2) u := by
            unfold bkW
            rw [y1, y5]
            exact sm
          have hE2 := EXZ_s (v1 := r9) hE sm2 (by rw [s69, bkW_i (by decide) (by decide)])
          obtain ⟨q', hq', -, hh⟩ := sg_st (D := D) (M := N) (M3 := M3) (M9 := M9) c c45 hP hn2 h70 ho hg hE2
          have := qe u q' hq' s69
          subst this
          rw [← y1]
          exact hh
    exact go N
end
end
section
set_option maxRecDepth 100000
def SVC (w v : MS) (a b L : Nat) : Prop := v.2.2.1 74 a = w.1 32 ∧ v.2.2.1 74 (a + 6) = w.1 72 ∧ v.2.2.1 74 (a + 7) = (if w.1 66 = 0 then 0 else 1) ∧ ∀ i, i < L → v.2.2.1 76 (b + 2 * i) = w.2.2.1 60 i ∧ v.2.2.1 76 (b + 2 * i + 1) = w.2.2.1 63 i
def SVG (w v : MS) (L : Nat) : Prop := ∃ a b : Nat, (w.1 75 = I (a : Nat) ∧ w.1 77 = I (b : Nat) ∧ a + 8 ≤ 400 ∧ b + 54 ≤ 3300) ∧ (v.1 75 = I ((a + 8 : Nat) : Int) ∧ v.1 77 = I ((b + 54 : Nat) : Int)) ∧ (∀ k, k ≠ 75 → k ≠ 77 → v.1 k = w.1 k) ∧ (∀ k, k ≠ 74 → k ≠ 76 → v.2.2.1 k = w.2.2.1 k) ∧ (∀ j, j < a → v.2.2.1 74 j = w.2.2.1 74 j) ∧ (∀ j, j < b → v.2.2.1 76 j = w.2.2.1 76 j) ∧ SVC w v a b L
section
variable {w v u s : MS} {N a b L k : Nat} {x y : Int32} {sc : SCT}
theorem sv_st {β : Type} {Q : MS → β → Prop} {f : MS → Option (MS × β)} {n : Nat} (h : ∀ s', s'.1 = s.1 → (∀ k, k ≠ 74 → s'.2.2.1 k = s.2.2.1 k) → s'.2.2.1 74 = upd (s.2.2.1 74) x.toNatClampNeg y → PK Q (f s')) : PK Q (ck (inb x n) (lt (upA s 74 (upd (s.2.2.1 74) x.toNatClampNeg y)) f)) := pk_ck (fun _ => pk_ltq (h _ rfl (fun k hk => upA_no hk) upA_at))
theorem I_pl {c : Nat} (h : a + c < 2147483648) {z : Int32} (hz : z = I (c : Nat)) : (I (a : Nat) + z).toNatClampNeg = a + c := by
  rw [hz, I_add]
  exact tnI (n := a + c) (by omega) h
theorem sv_lp (h65 : w.1 65 = I ((L : Nat) : Int)) (hL : L ≤ 26) (h77 : w.1 77 = I (b : Nat)) (hb : b ≤ 3246) : ∀ (M i : Nat) (s : MS), i ≤ L + 1 → s.1 = w.1 → (∀ k, k ≠ 76 → s.2.2.1 k = w.2.2.1 k) → (∀ j, j < b → s.2.2.1 76 j = w.2.2.1 76 j) → (∀ j, j < i → s.2.2.1 76 (b + 2 * j) = w.2.2.1 60 j ∧ s.2.2.1 76 (b + 2 * j + 1) = w.2.2.1 63 j) → PK (fun v (_ : Unit) => v.1 77 = I ((b + 54 : Nat) : Int) ∧ (∀ k, k ≠ 77 → v.1 k = w.1 k) ∧ (∀ k, k ≠ 76 → v.2.2.1 k = w.2.2.1 k) ∧ (∀ j, j < b → v.2.2.1 76 j = w.2.2.1 76 j) ∧ ∀ j, j < L + 1 → v.2.2.1 76 (b + 2 * j) = w.2.2.1 60 j ∧ v.2.2.1 76 (b + 2 * j + 1) = w.2.2.1 63 j) (gg_M_save N M s (I (i : Nat)))
  | 0, _, _, _, _, _, _, _ => pk_none
  | M + 1, i, s, hi, e1, e2, e3, e4 => by
    show PK _ (fb_M_save_141 N (gg_M_save N M) s (I (i : Nat)))
    unfold fb_M_save_141
    rw [e1, h65, h77, decide_eq_decide.mpr (I_lt (x := (L : Nat)) (y := (i : Nat)) (by omega) (by omega) (by omega) (by omega))]
    by_cases z : L < i
    · rw [decide_eq_true (by omega), br_tq]
      refine pk_ltq (pk_some ⟨?_, fun k hk => ?_, e2, e3, fun j hj => e4 j (by omega)⟩)
      · rw [upI_at, show (54 : Int32) = I ((54 : Nat) : Int) from rfl, I_add]; congr 1
      · rw [upI_ne hk, e1]
    · rw [decide_eq_false (by omega), br_fq]
      have d2 : (2 : Int32) * I (i : Nat) = I ((2 * i : Nat) : Int) := by rw [show (2 : Int32) = I 2 from rfl, I_mul]; congr 1
      rw [d2, I_pl (a := b) (c := 2 * i) (by omega) rfl, tnI (n := i) rfl (by omega)]
      refine pk_ck (fun _ => pk_ck (fun _ => pk_ltq ?_))
      have f1 : ∀ g, (upA s 76 g).1 77 = I (b : Nat) := fun _ => by show s.1 77 = _; rw [e1]; exact h77
      rw [f1]
      have d3 : I (b : Nat) + I ((2 * i : Nat) : Int) + 1 = I ((b + 2 * i + 1 : Nat) : Int) := by rw [I_add, show (1 : Int32) = I 1 from rfl, I_add]; congr 1
      rw [d3, tnI (n := b + 2 * i + 1) rfl (by omega)]
      refine pk_ck (fun _ => pk_ck (fun _ => pk_ltq ?_))
      rw [i_suc]
      refine sv_lp h65 hL h77 hb M (i + 1) _ (by omega) e1 (fun k hk => ?_) (fun j hj => ?_) (fun j hj => ?_)
      · rw [upA_no hk, upA_no hk]; exact e2 k hk
      · rw [upA_at, upd_no (by omega), upA_at, upd_no (by omega)]; exact e3 j hj
      · rw [upA_at]
        by_cases y : j = i
        · subst y
          rw [upd_no (by omega), upA_at, upd_at, upd_at, upA_no (by decide), e2 60 (by decide), e2 63 (by decide)]
          exact ⟨rfl, rfl⟩
        · obtain ⟨g1, g2⟩ := e4 j (by omega)
          rw [upd_no (by omega), upd_no (by omega), upA_at, upd_no (by omega), upd_no (by omega)]
          exact ⟨g1, g2⟩
theorem save_p (h : RNs w sc) : PK (fun v (_ : Unit) => SVG w v sc.length) (fm_M_save N w) := by
  have hl := h.2.1
  have h65 := h.1
  show PK _ (fb_M_save_0 N (gg_M_save N N) w)
  unfold fb_M_save_0
  by_cases z : inb (w.1 75) (ln 74) = true
  rotate_left
  · exact pk_ck (fun y => absurd y z)
  obtain ⟨a, ha, ha4⟩ := inb_N z
  have l74 : ln 74 = 400 := rfl
  rw [l74] at ha4
  refine sv_st (fun s1 i1 r1 x1 => ?_)
  refine sv_st (fun s2 i2 r2 x2 => ?_)
  refine sv_st (fun s3 i3 r3 x3 => ?_)
  refine sv_st (fun s4 i4 r4 x4 => ?_)
  refine sv_st (fun s5 i5 r5 x5 => ?_)
  refine sv_st (fun s6 i6 r6 x6 => ?_)
  refine sv_st (fun s7 i7 r7 x7 => ?_)
  have ia : ∀ (s : MS), s.1 = w.1 → ∀ (c : Nat) (z : Int32), z = I (c : Nat) → c < 100 → (s.1 75 + z).toNatClampNeg = a + c := fun s hs c z hz hc => by rw [hs, ha]; exact I_pl (by omega) hz
  have j1 := i1
  have j2 := i2.trans j1
  have j3 := i3.trans j2
  have j4 := i4.trans j3
  have j5 := i5.trans j4
  have j6 := i6.trans j5
  have j7 := i7.trans j6
  rw [ha, tnI (n := a) rfl (by omega)] at x1
  rw [ia s1 j1 1 1 rfl (by decide)] at x2
  rw [ia s2 j2 2 2 rfl (by decide)] at x3
  rw [ia s3 j3 3 3 rfl (by decide)] at x4
  rw [ia s4 j4 4 4 rfl (by decide)] at x5
  rw [ia s5 j5 5 5 rfl (by decide)] at x6
  rw [ia s6 j6 6 6 rfl (by decide), j6] at x7
  have rr : ∀ k, k ≠ 74 → s7.2.2.1 k = w.2.2.1 k := fun k hk => by rw [r7 k hk, r6 k hk, r5 k hk, r4 k hk, r3 k hk, r2 k hk, r1 k hk]
  have fin : ∀ y : Int32, y = (if w.1 66 = 0 then 0 else 1) → PK (fun v (_ : Unit) => SVG w v sc.length) (fb_M_save_127 N (gg_M_save N N) s7 74 (s7.1 75 + 7) y) := fun y hy => by
    unfold fb_M_save_127
    refine pk_ck (fun _ => pk_ck (fun z7 => pk_ltq (pk_ltq ?_)))
    have ha8 : a + 8 ≤ 400 := by
      rw [j7, ha] at z7
      have e7 : I (a : Nat) + 7 = I ((a + 7 : Nat) : Int) := by rw [show (7 : Int32) = I 7 from rfl, I_add]; congr 1
      rw [e7] at z7
      have := (I_inb (n := ln 74) (x := ((a + 7 : Nat) : Int)) (by omega) (by omega)).mp z7
      rw [l74] at this
      omega
    rw [ia s7 j7 7 7 rfl (by decide)]
    generalize hs8 : upA s7 74 (upd (s7.2.2.1 74) (a + 7) y) = s8
    have r8 : ∀ k, k ≠ 74 → s8.2.2.1 k = w.2.2.1 k := fun k hk => by rw [← hs8, upA_no hk]; exact rr k hk
    have i8 : s8.1 = w.1 := by rw [← hs8]; exact j7
    have x8 : s8.2.2.1 74 = upd (s7.2.2.1 74) (a + 7) y := by rw [← hs8]; exact upA_at
    have e75 : s8.1 75 + 8 = I ((a + 8 : Nat) : Int) := by rw [i8, ha, show (8 : Int32) = I 8 from rfl, I_add]; congr 1
    rw [e75]
    generalize hs9 : upI s8 75 (I ((a + 8 : Nat) : Int)) = s9
    have i9 : ∀ k, k ≠ 75 → s9.1 k = w.1 k := fun k hk => by rw [← hs9, upI_ne hk, i8]
    have i95 : s9.1 75 = I ((a + 8 : Nat) : Int) := by rw [← hs9]; exact upI_at
    have r9 : s9.2.2.1 = s8.2.2.1 := by rw [← hs9]; rfl
    have h77 : ∃ b : Nat, w.1 77 = I (b : Nat) ∧ b ≤ 3240 ∨ (∀ M, gg_M_save N M s9 0 = none) := by
      by_cases zb : inb (w.1 77) (ln 76) = true
      · obtain ⟨b, hb1, hb2⟩ := inb_N zb
        have l76 : ln 76 = 3240 := rfl
        exact ⟨b, Or.inl ⟨hb1, by omega⟩⟩
      · refine ⟨0, Or.inr (fun M => ?_)⟩
        cases M with
        | zero => rfl
        | succ M =>
          show fb_M_save_141 N (gg_M_save N M) s9 0 = none
          unfold fb_M_save_141
          rw [i9 65 (by decide), h65, i9 77 (by decide), show (0 : Int32) = I ((0 : Nat) : Int) from rfl, decide_eq_decide.mpr (I_lt (x := ((sc.length - 1 : Nat) : Int)) (y := ((0 : Nat) : Int)) (by omega) (by omega) (by omega) (by omega)), decide_eq_false (by omega), br_fq]
          have e0 : w.1 77 + 2 * I ((0 : Nat) : Int) = w.1 77 := by
            rw [show (2 : Int32) * I ((0 : Nat) : Int) = 0 from rfl]
            exact Int32.add_zero _
          rw [e0]
          have : inb (w.1 77) (ln 76) = false := by simpa using zb
          rw [this]
          cases inb (I ((0 : Nat) : Int)) (ln 60) <;> rfl
    obtain ⟨b, hb | hb⟩ := h77
    · refine pk_mo (sv_lp (w := s9) (L := sc.length - 1) (b := b) (by rw [i9 65 (by decide)]; exact h65) (by omega) (by rw [i9 77 (by decide)]; exact hb.1) (by omega) N 0 s9 (Nat.zero_le _) rfl (fun _ _ => rfl) (fun _ _ => rfl) (fun j hj => absurd hj (by omega))) (fun v _ q => ?_)
      obtain ⟨q1, q2, q3, q4, q5⟩ := q
      have v74 : v.2.2.1 74 = upd (s7.2.2.1 74) (a + 7) y := by rw [q3 74 (by decide), r9]; exact x8
      refine ⟨a, b, ⟨ha, hb.1, ha8, by omega⟩, ⟨by rw [q2 75 (by decide)]; exact i95, q1⟩, fun k k1 k2 => by rw [q2 k k2]; exact i9 k k1, fun k k1 k2 => by rw [q3 k k2, r9]; exact r8 k k1, fun j hj => ?_, fun j hj => by rw [q4 j hj, r9, r8 76 (by decide)], ?_, ?_, ?_, fun i hi => ?_⟩
      · rw [v74, upd_no (by omega), x7, upd_no (by omega), x6, upd_no (by omega), x5, upd_no (by omega), x4, upd_no (by omega), x3, upd_no (by omega), x2, upd_no (by omega), x1, upd_no (by omega)]
      · rw [v74, upd_no (by omega), x7, upd_no (by omega), x6, upd_no (by omega), x5, upd_no (by omega), x4, upd_no (by omega), x3, upd_no (by omega), x2, upd_no (by omega), x1, upd_at]
      · rw [v74, upd_no (by omega), x7, upd_at]
      · rw [v74, upd_at]; exact hy
      · have := q5 i (by omega)
        rw [r9, r8 60 (by decide), r8 63 (by decide)] at this
        exact this
    · rw [show (0 : Int32) = I ((0 : Nat) : Int) from rfl] at hb
      intro v r e
      have := hb N
      rw [show (0 : Int32) = I ((0 : Nat) : Int) from rfl] at e
      rw [this] at e
      cases e
  rw [show s7.1 66 = w.1 66 by rw [j7]]
  by_cases y : w.1 66 = 0
  · rw [decide_eq_true y, br_tq]
    exact fin 0 (by rw [if_pos y])
  · rw [decide_eq_false y, br_fq]
    exact fin 1 (by rw [if_neg y])
end
end
section
set_option maxRecDepth 100000
def TBK (w v x : MS) (L : Nat) : Prop := (x.1 32 = w.1 32 ∧ x.1 72 = w.1 72 ∧ (x.1 66 = 0 ↔ w.1 66 = 0)) ∧ (∀ k, k ∉ [32, 39, 46, 56, 58, 66, 71, 72] → x.1 k = v.1 k) ∧ (∀ k, k ≠ 60 → k ≠ 63 → x.2.2.1 k = v.2.2.1 k) ∧ (∀ i, i < L → x.2.2.1 60 i = w.2.2.1 60 i ∧ x.2.2.1 63 i = w.2.2.1 63 i) ∧ ∀ i, L ≤ i → x.2.2.1 60 i = v.2.2.1 60 i ∧ x.2.2.1 63 i = v.2.2.1 63 i
def rst : SCT → SCT → SCT
  | e :: t, e2 :: t2 => (e.1, e.2.1, e2.2.2) :: rst t t2
  | _, _ => []
section
variable {w v u s x x1 : MS} {N a b L k X p p2 : Nat} {y : Int32} {sc sc2 t t2 : SCT} {e e2 : List Nat × List Nat × Nat} {Nk K W : Nat → Nat}
theorem I_mn {c : Nat} (h : c ≤ a) {z : Int32} (hz : z = I (c : Nat)) : I (a : Nat) - z = I ((a - c : Nat) : Int) := by
  rw [hz, I_sub]; congr 1; omega
theorem tb_lp (h65 : s.1 65 = I ((L : Nat) : Int)) (hL : L ≤ 26) (h77 : s.1 77 = I ((b + 54 : Nat) : Int)) (hb : b ≤ 3246) : ∀ (M i : Nat) (r : MS), i ≤ L + 1 → r.1 = s.1 → (∀ k, k ≠ 60 → k ≠ 63 → r.2.2.1 k = s.2.2.1 k) → (∀ j, j < i → r.2.2.1 60 j = s.2.2.1 76 (b + 2 * j) ∧ r.2.2.1 63 j = s.2.2.1 76 (b + 2 * j + 1)) → (∀ j, i ≤ j → r.2.2.1 60 j = s.2.2.1 60 j ∧ r.2.2.1 63 j = s.2.2.1 63 j) → PK (fun v (_ : Unit) => v.1 = s.1 ∧ (∀ k, k ≠ 60 → k ≠ 63 → v.2.2.1 k = s.2.2.1 k) ∧ (∀ j, j < L + 1 → v.2.2.1 60 j = s.2.2.1 76 (b + 2 * j) ∧ v.2.2.1 63 j = s.2.2.1 76 (b + 2 * j + 1)) ∧ ∀ j, L + 1 ≤ j → v.2.2.1 60 j = s.2.2.1 60 j ∧ v.2.2.1 63 j = s.2.2.1 63 j) (gg_M_takeBack N M r (I (i : Nat)))
  | 0, _, _, _, _, _, _, _ => pk_none
  | M + 1, i, r, hi, e1, e2, e3, e4 => by
    show PK _ (fb_M_takeBack_115 N (gg_M_takeBack N M) r (I (i : Nat)))
    unfold fb_M_takeBack_115
    rw [e1, h65, h77, decide_eq_decide.mpr (I_lt (x := (L : Nat)) (y := (i : Nat)) (by omega) (by omega) (by omega) (by omega))]
    by_cases z : L < i
    · rw [decide_eq_true (by omega), br_tq]
      exact pk_some ⟨e1, e2, fun j hj => e3 j (by omega), fun j hj => e4 j (by omega)⟩
    · rw [decide_eq_false (by omega), br_fq]
      have d1 : I ((b + 54 : Nat) : Int) - 54 = I (b : Nat) := (I_mn (a := b + 54) (c := 54) (by omega) rfl).trans (by congr 2)
      have d2 : (2 : Int32) * I (i : Nat) = I ((2 * i : Nat) : Int) := by rw [show (2 : Int32) = I 2 from rfl, I_mul]; congr 1
      have d3 : I (b : Nat) + I ((2 * i : Nat) : Int) = I ((b + 2 * i : Nat) : Int) := by rw [I_add]; congr 1
      rw [d1, d2, d3, tnI (n := b + 2 * i) rfl (by omega), tnI (n := i) rfl (by omega)]
      refine pk_ck (fun _ => pk_ck (fun _ => pk_ltq ?_))
      have f1 : ∀ g, (upA r 60 g).1 77 = I ((b + 54 : Nat) : Int) := fun _ => by show r.1 77 = _; rw [e1]; exact h77
      rw [f1, d1, d3, i_suc, tnI (n := b + 2 * i + 1) rfl (by omega)]
      refine pk_ck (fun _ => pk_ck (fun _ => pk_ltq ?_))
      rw [i_suc]
      refine tb_lp h65 hL h77 hb M (i + 1) _ (by omega) e1 (fun k k1 k2 => ?_) (fun j hj => ?_) (fun j hj => ?_)
      · rw [upA_no k2, upA_no k1]; exact e2 k k1 k2
      · rw [upA_at, upA_no (j := 60) (by decide), upA_at]
        by_cases y : j = i
        · subst y
          rw [upd_at, upd_at, upA_no (by decide), e2 76 (by decide) (by decide)]
          exact ⟨rfl, rfl⟩
        · rw [upd_no y, upd_no y, upA_no (by decide)]
          exact e3 j (by omega)
      · rw [upA_at, upA_no (j := 60) (by decide), upA_at, upd_no (by omega), upd_no (by omega), upA_no (by decide)]
        exact e4 j (by omega)
theorem tb_p (h65 : v.1 65 = I ((L : Nat) : Int)) (hL : L ≤ 26) (h75 : v.1 75 = I ((a + 8 : Nat) : Int)) (ha : a + 8 ≤ 400) (h77 : v.1 77 = I ((b + 54 : Nat) : Int)) (hb : b ≤ 3246) (hs : SVC w v a b (L + 1)) : PK (fun x (_ : Unit) => TBK w v x (L + 1)) (fm_M_takeBack N v) := by
  show PK _ (fb_M_takeBack_0 N (gg_M_takeBack N N) v)
  unfold fb_M_takeBack_0
  have d1 : v.1 75 - 8 = I (a : Nat) := by rw [h75]; exact (I_mn (a := a + 8) (c := 8) (by omega) rfl).trans (by congr 2)
  rw [d1]
  have ia : ∀ (c : Nat) (z : Int32), z = I (c : Nat) → c < 100 → (I (a : Nat) + z).toNatClampNeg = a + c := fun c z hz hc => I_pl (by omega) hz
  rw [tnI (n := a) rfl (by omega), ia 1 1 rfl (by decide), ia 2 2 rfl (by decide), ia 3 3 rfl (by decide), ia 4 4 rfl (by decide), ia 5 5 rfl (by decide), ia 6 6 rfl (by decide), ia 7 7 rfl (by decide)]
  refine pk_ck (fun _ => pk_ltq (pk_ck (fun _ => pk_ltq (pk_ck (fun _ => pk_ltq (pk_ck (fun _ => pk_ltq (pk_ck (fun _ => pk_ltq (pk_ck (fun _ => pk_ltq (pk_ck (fun _ => pk_ltq (pk_ck (fun _ => ?_)))))))))))))))
  generalize hw10 : upI _ 72 _ = w10
  have r10 : w10.2.2.1 = v.2.2.1 := by rw [← hw10]; rfl
  have i10 : ∀ k, k ∉ [32, 39, 46, 56, 58, 71, 72] → w10.1 k = v.1 k := fun k hk => by
    simp only [List.mem_cons, List.not_mem_nil, or_false] at hk
    rw [← hw10, upI_ne (by omega), upI_ne (by omega), upI_ne (by omega), upI_ne (by omega), upI_ne (by omega), upI_ne (by omega), upI_ne (by omega)]
  have n32 : w10.1 32 = w.1 32 := by
    rw [← hw10, upI_ne (by decide), upI_ne (by decide), upI_ne (by decide), upI_ne (by decide), upI_ne (by decide), upI_ne (by decide), upI_at]
    exact hs.1
  have n72 : w10.1 72 = w.1 72 := by
    rw [← hw10, upI_at]
    exact hs.2.1
  clear hw10
  rw [r10, hs.2.2.1]
  have fin : ∀ t1 : Int32, (t1 = 0 ↔ w.1 66 = 0) → PK (fun x (_ : Unit) => TBK w v x (L + 1)) (fb_M_takeBack_110 N (gg_M_takeBack N N) w10 t1) := fun t1 ht => by
    unfold fb_M_takeBack_110
    refine pk_ck (fun _ => pk_ltq ?_)
    have i11 : ∀ k, k ≠ 66 → (upI w10 66 t1).1 k = w10.1 k := fun k hk => upI_ne hk
    refine pk_mo (tb_lp (s := upI w10 66 t1) (L := L) (b := b) (by rw [i11 65 (by decide), i10 65 (by decide)]; exact h65) hL (by rw [i11 77 (by decide), i10 77 (by decide)]; exact h77) hb N 0 (upI w10 66 t1) (Nat.zero_le _) rfl (fun _ _ _ => rfl) (fun j hj => absurd hj (by omega)) (fun _ _ => ⟨rfl, rfl⟩)) (fun x _ q => ?_)
    obtain ⟨q1, q2, q3, q4⟩ := q
    have rr : (upI w10 66 t1).2.2.1 = v.2.2.1 := r10
    refine ⟨⟨by rw [q1, i11 32 (by decide)]; exact n32, by rw [q1, i11 72 (by decide)]; exact n72, by rw [q1, upI_at]; exact ht⟩, fun k hk => ?_, fun k k1 k2 => by rw [q2 k k1 k2, rr], fun i hi => ?_, fun i hi => ?_⟩
    · simp only [List.mem_cons, List.not_mem_nil, or_false] at hk
      rw [q1, i11 k (by omega)]
      exact i10 k (by simp only [List.mem_cons, List.not_mem_nil, or_false]; omega)
    · have := q3 i hi
      rw [rr] at this
      exact ⟨this.1.trans (hs.2.2.2 i hi).1, this.2.trans (hs.2.2.2 i hi).2⟩
    · have := q4 i hi
      rw [rr] at this
      exact this
  by_cases z : w.1 66 = 0
  · rw [if_pos z, show decide ((0 : Int32) = 1) = false from rfl, br_fq]
    exact fin 0 ⟨fun _ => z, fun _ => rfl⟩
  · rw [if_neg z, show decide ((1 : Int32) = 1) = true from rfl, br_tq]
    exact fin 1 ⟨fun y => absurd y (by decide), fun y => absurd y z⟩
theorem pre_get {a b : List Nat} {i y : Nat} (h : a <+: b) (e : a[i]? = some y) : b[i]? = some y := by
  obtain ⟨c, rfl⟩ := h
  rw [List.getElem?_append_left]
  · exact e
  · exact (List.getElem?_eq_some_iff.mp e).1
theorem rst_len : ∀ {a b : SCT}, a.length = b.length → (rst a b).length = a.length
  | [], [], _ => rfl
  | e :: t, e2 :: t2, h => by
    show (rst t t2).length + 1 = t.length + 1
    rw [rst_len (by simpa using h)]
  | [], _ :: _, h => by cases h
  | _ :: _, [], h => by cases h
theorem rst_BD : ∀ {a b : SCT}, BDs a b → rst a b = a
  | [], [], _ => rfl
  | e :: t, e2 :: t2, h => by
    show (e.1, e.2.1, e2.2.2) :: rst t t2 = e :: t
    rw [rst_BD h.2, h.1.2]
  | [], _ :: _, h => h.elim
  | _ :: _, [], h => h.elim
theorem RNl_tb : ∀ {a b : SCT}, RNl w a → RNl v b → HDs Nk K W p p2 a b → (∀ i, i < a.length → x.2.2.1 60 i = w.2.2.1 60 i ∧ x.2.2.1 63 i = w.2.2.1 63 i) → x.2.2.1 59 = v.2.2.1 59 → x.2.2.1 61 = v.2.2.1 61 → x.2.2.1 64 = v.2.2.1 64 → (BDs a b ∨ ∃ X, SCX a b X) → RNl x (rst a b)
  | [], [], _, _, _, _, _, _, _, _ => trivial
  | e :: t, e2 :: t2, ha, hb, hd, h1, h2, h3, h4, hx => by
    have ln : t2.length = t.length := HDs_len hd.2
    have nm : e.1 <+: e2.1 ∧ BDs t t2 := by
      rcases hx with hx | ⟨X, hx⟩
      · exact ⟨by rw [hx.1.1]; exact List.prefix_refl _, hx.2⟩
      · exact ⟨hx.1, hx.2.2⟩
    have hl : (rst t t2).length = t.length := rst_len ln.symm
    refine ⟨?_, RNl_tb ha.2 hb.2 hd.2 (fun i hi => h1 i (by show i < t.length + 1; omega)) h2 h3 h4 (Or.inl nm.2)⟩
    rw [hl]
    obtain ⟨a1, a2, a3, a4, a5⟩ := ha.1
    obtain ⟨b1, b2, b3, b4, b5⟩ := hb.1
    rw [ln] at b2 b4 b5
    obtain ⟨c1, c2⟩ := h1 t.length (by show t.length < t.length + 1; omega)
    refine ⟨by rw [c1]; exact a1, fun k y hy => ?_, by rw [c2]; exact a3, fun k y hy => ?_, by rw [h4]; exact b5⟩
    · rw [h2]; exact b2 k y (pre_get nm.1 hy)
    · rw [h3]; exact b4 k y (pre_get hd.1.2.2 hy)
  | [], _ :: _, _, _, h, _, _, _, _, _ => h.elim
  | _ :: _, [], _, _, h, _, _, _, _, _ => h.elim
theorem SOK_m (h : SOK (e :: t)) (hm : k ≤ 1400) : SOK ((e.1, e.2.1, max e.2.2 k) :: t) := by
  obtain ⟨⟨h1, h2, h3, h4, h5, h6, h7⟩, h8⟩ := h
  exact ⟨⟨h1, h2, h3, by show e.1.length ≤ max e.2.2 k; omega, by show max e.2.2 k ≤ 1400; omega, h6, h7⟩, h8⟩
theorem RNs_tb (ha : RNs w (e :: t)) (hb : RNs v sc2) (hx : SCX (e :: t) sc2 X) (hX : X ≤ 1400) (hd : HDs Nk K W p p2 (e :: t) sc2) (ht : TBK w v x (t.length + 1)) (h65 : v.1 65 = w.1 65) : RNs x ((e.1, e.2.1, max e.2.2 X) :: t) := by
  cases sc2 with
  | nil => exact hx.elim
  | cons e2 t2 =>
    have r := RNl_tb (x := x) ha.2.2.1 hb.2.2.1 hd (fun i hi => ht.2.2.2.1 i hi) (ht.2.2.1 59 (by decide) (by decide)) (ht.2.2.1 61 (by decide) (by decide)) (ht.2.2.1 64 (by decide) (by decide)) (Or.inr ⟨X, hx⟩)
    have e1 : rst (e :: t) (e2 :: t2) = (e.1, e.2.1, max e.2.2 X) :: t := by
      show (e.1, e.2.1, e2.2.2) :: rst t t2 = _
      rw [rst_BD hx.2.2, hx.2.1]
    rw [e1] at r
    refine ⟨?_, ha.2.1, r, SOK_m ha.2.2.2 hX⟩
    rw [ht.2.1 65 (by decide), h65]
    exact ha.1
end
end
