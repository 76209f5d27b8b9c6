set_option maxRecDepth 100000
section
variable {α : Type} {R : MS → α → MS → Int32 → Prop} {A : Option (MS × α)} {m0 w0 m w v u m2 m3 w2 x y z xB xC mF vS mB wB : MS} {K nm Nk W W1 W2 WA WB : Nat → Nat} {T p n N q X Y X1 X2 XA n2 n3 lo p2 p4 ν μ a b L L' k d o M D s : Nat} {sc sc1 sc2 sc3 sc4 sc5 t t2 t3 t4 t5 : SCT} {e e2 e3 e4 e5 : List Nat × List Nat × Nat} {gd Rf Rg Zf : Bool} {BC : MS → Prop} {v1 v2 r ξ : Int32} {S : SG_M_behind} {NC : Nat → Prop} {CL CM : Int32 × Int32 × Int32 → Prop}
theorem i_back {x : Int32} : x + 1 - 1 = x := by
  rw [Int32.sub_eq_add_neg, Int32.add_assoc]
  show x + (1 + -1) = x
  rw [show (1 : Int32) + -1 = 0 from rfl, Int32.add_zero]
theorem kc_666 {y : Int32} : Kcc m (upI m 666 y) := ⟨fun k hk => upI_ne (by omega), fun _ _ => rfl⟩
theorem kx_666 {y : Int32} : KPX lo n2 ν m2 (upI m2 666 y) := ⟨fun _ _ _ => ⟨rfl, fun _ => rfl⟩, kc_666⟩
theorem STQ_70 (h : STQ m0 w0 K T Nk gd (upI m 666 (m.1 666 + 1)) (upI w 70 (w.1 70 + 1)) p n sc s m2 w2 q n2 sc2 X W Rf Zf CL) (hm : m.1 666 = w.1 70) : STQ m0 w0 K T Nk gd m w p n sc s (upI m2 666 (m2.1 666 - 1)) (upI w2 70 (w2.1 70 - 1)) q n2 sc2 X W Rf Zf CL := by
  obtain ⟨s1, s2, s3, s4, s5, s6, s7⟩ := h
  have a1 : m2.1 666 - 1 = m.1 666 := by rw [s4.1 666 (by decide), upI_at, i_back]
  have a2 : w2.1 70 - 1 = w.1 70 := by rw [s5.2.2.2.2.2.2.1.1 70 (by decide), upI_at, i_back]
  obtain ⟨c1, c2, c3, c4, c5, c6, c7⟩ := s1
  refine ⟨⟨Kc_tr c1 kc_666, Kt_I c2 (by decide), by rw [upI_ne (by decide)]; exact c3, by rw [upI_ne (by decide)]; exact c4, c5, by rw [upI_at, upI_at, a1, a2]; exact hm, by rw [upI_ne (by decide)]; exact c7⟩, ⟨s2.1, by rw [upI_ne (by decide)]; exact s2.2.1, s2.2.2⟩, s3, PCG_666 s4 a1, STW_k (Or.inl rfl) s5 a2, s6, s7⟩
theorem EXZ_70 (h : EXZ N m0 w0 K T nm Nk p n gd sc o NC (upI m 666 (m.1 666 + 1)) (upI w 70 (w.1 70 + 1)) m2 (.inl ξ) w2 r) (hm : m.1 666 = w.1 70) : EXZ N m0 w0 K T nm Nk p n gd sc o NC m w (upI m2 666 (m2.1 666 - 1)) (.inl ξ) (upI w2 70 (w2.1 70 - 1)) v1 := by
  obtain ⟨q, n2, μ, sc2, X, W, Rf, Zf, CL, b1, b2, b3, b4, b5, b6, b7, b8⟩ := h
  exact ⟨q, n2, μ, sc2, X, W, Rf, Zf, CL, b1, b2, b3, STQ_70 b4 hm, b5, EXN_up kx_666 (Nat.le_refl _) (Nat.le_refl _) b6, PTX_up b7 kx_666 (Nat.le_refl _) (Nat.le_refl _) (fun _ z => z), b8⟩
theorem RLP_70 (h : RLP m0 w0 T p m w) : RLP m0 w0 T p (upI m 666 (m.1 666 + 1)) (upI w 70 (w.1 70 + 1)) := by
  obtain ⟨c1, c2, c3, c4, c5, c6, c7⟩ := h
  exact ⟨Kc_tr c1 kc_666, Kt_I c2 (by decide), by rw [upI_ne (by decide)]; exact c3, by rw [upI_ne (by decide)]; exact c4, c5, by rw [upI_at, upI_at, c6], by rw [upI_ne (by decide)]; exact c7⟩
theorem lt25 (h : w.1 70 = I (o : Nat)) (ho : o ≤ 25) : w.1 70 < 25 ↔ o < 25 := by
  rw [h, show (25 : Int32) = I ((25 : Nat) : Int) from rfl, I_lt (by omega) (by omega) (by omega) (by omega)]
  omega
theorem sim_pp (hS : HSi N m0 w0 K T nm Nk d) (h : RLP m0 w0 T p m w) (hn : m.1 306 = I (n : Nat)) (hn2 : n ≤ 2 * p) (hR : RNs w sc) (nd : ND w) (h70 : w.1 70 = I (o : Nat)) (ho : o < 25) (hg : decide (w.1 73 = 0) = !gd) : PP (EXZ N m0 w0 K T nm Nk p n gd sc o NC1 m w) (bTm ((hrc_Pa_matched N D).2.2.2.2.2.2.2.2.2.2.2.2.2.1 (upI m 666 (m.1 666 + 1))) (fun u5 r5 => bTm ((hrc_Pa_matched N D).1 u5 r5) (fun u6 r6 => hb_Pa_expression_84 N (hrc_Pa_matched N D) () u6 r6))) (bnd ((rc_M_behind N d).2.2.2.2.2.2.2.2.2.2.2.2.1 (upI w 70 (w.1 70 + 1))) (fun u3 r3 => lt (upI u3 70 (u3.1 70 - 1)) (fun w4 => some (w4, r3)))) := by
  rw [← bTm_as]
  obtain ⟨av, hav, hav2⟩ := nd
  refine pp_bTn (hS D _ _ p n sc gd o (RLP_70 h) (by rw [upI_ne (by decide)]; exact hn) hn2 (RNs_e hR (upI_ne (by decide)) (fun _ _ _ => rfl)) ⟨av, by rw [upI_ne (by decide)]; exact hav, hav2⟩ (by rw [upI_at, h70]; exact i_suc) (by omega) (by rw [upI_ne (by decide)]; exact hg)) (fun m2 ξ u r hE => ?_) (fun m2 k u r hE => ?_)
  · exact pp_end (EXZ_70 hE h.2.2.2.2.2.1)
  · have hE : FLW u := hE
    refine pk_lt (pk_some ?_)
    show (upI u 70 _).1 67 ≠ 0
    rw [upI_ne (by decide)]
    exact hE
theorem HBh_s (c : CTZ m0 w0 K T nm Nk) (c45 : ∀ p, p ≤ T → K p ≠ 45) (hS : HSi N m0 w0 K T nm Nk d) : HBh N m0 w0 K T nm Nk (d + 1) := by
  intro D m w p n sc gd o h hn hn2 hR nd h70 ho hg
  cases D with
  | zero => exact pp_nl
  | succ D =>
    show PP _ (hb_Pa_expression_0 N (hrc_Pa_matched N D) () m 0) (fb_M_behind_0 N (rc_M_behind N d) () w)
    have hc := RLP_c c h
    have hwp := RLP_w c h
    have h0 := h.2.2.2.2.2.2
    have k46 := hc.1.1.k46 hc.2.2
    unfold hb_Pa_expression_0 fb_M_behind_0 hb_Pa_expression_27 hb_Pa_expression_23 hb_Pa_expression_28
    rw [look_e hc (c45 _ h.2.2.2.2.1), bTm_l, bU_e k46, bnd_s, decide_eq_true h0, br_tq, bU_m hwp, bnd_s]
    cases hb : bUK (K p) with
    | false =>
      rw [show decide (b2c false = 0) = true from rfl, br_tq, br_tq, show decide ((0 : Int32) = 0) = true from rfl, br_tq]
      refine pp_rf (RFS_T (opens_0 hc)) (fun m' => ?_)
      exact pk_bnd (fun v r z => pk_some (wrong_s (u0 := w) (by decide) v r z))
    | true =>
      rw [show decide (b2c true = 0) = false from rfl, br_fq, br_fq]
      have k9 : K p ≠ 9 := fun z => by rw [z] at hb; cases hb
      by_cases z : o < 25
      · have zz := (lt25 h70 (by omega)).mpr z
        rw [opens_e (by rw [h.2.2.2.2.2.1]; exact zz), bTm_l, opn_e zz, bnd_s, I_dn (a := K p) (b := 9) (s := 9) (by omega) (by decide) rfl, decide_eq_false k9, br_fq]
        exact sim_pp hS h hn hn2 hR nd h70 z hg
      · have zz : ¬ w.1 70 < 25 := fun y => z ((lt25 h70 (by omega)).mp y)
        refine pp_rf (RFS_T (opens_x hc (by rw [h.2.2.2.2.2.1]; exact zz))) (fun m' => ?_)
        refine pk_bnd (pk_mo (opn_x zz) (fun v r y => ?_))
        intro v2 r2 e
        have y2 : Kfc v v := y
        refine (?_ : KfE v _) v2 r2 e
        obtain ⟨hF0, hF1, hF2, hF3, hF4, hF5, hF6, hF7, hF8, hF9, hF10, hF11, hF12, hF13, hF14, hF15, hF16⟩ := yf_rc_M_behind (u0 := v) (N := N) d
        repeat' (first | with_reducible assumption | with_reducible refine Kf_br ?_ ?_ | with_reducible refine Kf_bnd ?_ (fun _ _ _ => ?_) | with_reducible refine Kf_ck ?_ | with_reducible refine Kf_ltm ?_ (fun _ _ => ?_) | with_reducible refine Kf_some ?_ | with_reducible refine Kf_bo (fun _ => ?_) | with_reducible exact yf_fm_M_node (by assumption) | with_reducible exact yf_fm_M_pattern (by assumption) | with_reducible exact yf_fm_M_wrong (by assumption) | with_reducible exact yf_fm_M_rule (by assumption) | with_reducible exact yf_fm_M_isSign (by assumption) | with_reducible exact yf_fm_M_isWord (by assumption) | with_reducible exact yf_fm_M_takeSign (by assumption) | with_reducible exact yf_fm_M_takeWord (by assumption) | with_reducible exact yf_fm_M_needSign (by assumption) | with_reducible exact yf_fm_M_needWord (by assumption) | with_reducible exact yf_fm_M_opens (by assumption) | with_reducible exact yf_fm_M_boundIn (by assumption) | with_reducible exact yf_fr_M_found (by assumption) | with_reducible exact yf_fm_M_bind (by assumption) | with_reducible exact yf_fm_M_isUnderscore (by assumption) | with_reducible exact yf_fm_M_unbind (by assumption) | with_reducible exact yf_fm_M_term (by assumption) | with_reducible exact yf_fm_M_namePattern (by assumption) | with_reducible exact yf_fr_M_patternAt (by assumption) | with_reducible exact yf_fm_M_beginsUnit (by assumption) | with_reducible exact yf_fm_M_save (by assumption) | with_reducible exact yf_fm_M_addRoot (by assumption) | with_reducible exact yf_fm_M_level (by assumption) | with_reducible exact yf_fm_M_reduce (by assumption) | with_reducible exact yf_fm_M_takeBack (by assumption) | with_reducible exact yf_fm_M_forgetSaved (by assumption) | with_reducible exact yf_fr_M_last (by assumption) | with_reducible exact yf_fr_M_clause (by assumption) | with_reducible exact yf_fm_M_predefinedOf (by assumption) | with_reducible exact yf_fm_M_function0 (by assumption) | with_reducible exact yf_fm_M_program (by assumption) | with_reducible exact hF0 _ (by assumption) | with_reducible exact hF1 _ _ (by assumption) | with_reducible exact hF2 _ _ _ (by assumption) | with_reducible exact hF3 _ _ _ (by assumption) | with_reducible exact hF4 _ (by assumption) | with_reducible exact hF5 _ _ (by assumption) | with_reducible exact hF6 _ _ (by assumption) | with_reducible exact hF7 _ _ (by assumption) | with_reducible exact hF8 _ _ (by assumption) | with_reducible exact hF9 _ (by assumption) | with_reducible exact hF10 _ (by assumption) | with_reducible exact hF11 _ (by assumption) | with_reducible exact hF12 _ (by assumption) | with_reducible exact hF13 _ (by assumption) | with_reducible exact hF14 _ (by assumption) | with_reducible exact hF15 _ (by assumption) | with_reducible exact hF16 _ _ (by assumption) | with_reducible refine Kf_ltv (fun _ => ?_) | with_reducible refine Kf_I ?_ (by decide) | with_reducible refine Kf_A ?_ | with_reducible refine Kf_J ?_ | with_reducible refine Kf_L ?_)
end
