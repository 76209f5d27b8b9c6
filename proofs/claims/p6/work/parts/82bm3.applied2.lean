set_option maxRecDepth 100000
section
variable {m0 w0 m w v u mB wB m2 w2 m3 w3 mi : MS} {K nm Nk W W2 : Nat → Nat} {T p n N q X Y n2 p0 n0 n3 p2 ν μ κ o s L d D k q1 q2 lo li ni : Nat} {sc sc1 sc2 sc3 t : SCT} {gd Rf Zf Rg Zg : Bool} {l : List Nat} {la : List (Nat × List Nat)} {r v1 v2 v3 v4 v5 : Int32} {CL CM : Int32 × Int32 × Int32 → Prop} {NC : Nat → Prop} {B1 B2 BC : MS → Prop}
def HAg (N : Nat) (m0 w0 : MS) (K : Nat → Nat) (T : Nat) (nm Nk : Nat → Nat) (d : Nat) : Prop := ∀ (D : Nat) (m w : MS) (p n : Nat) (sc : SCT) (gd : Bool) (o : Nat), RLP m0 w0 T p m w → m.1 306 = I (n : Nat) → n ≤ 2 * p → RNs w sc → ND w → w.1 70 = I (o : Nat) → o ≤ 25 → decide (w.1 73 = 0) = !gd → K p = 20 → PP (ARGZ N m0 w0 K T nm Nk p n gd sc o m w) (hm_Pa_rowUpTo N (hrc_Pa_matched N D) (advc m p) 0 6 21) ((rc_M_behind N d).2.2.2.2.2.2.2.2.2.1 w)
theorem HAg_s (c : CTZ m0 w0 K T nm Nk) (c45 : ∀ p, p ≤ T → K p ≠ 45) (hE : HE N m0 w0 K T nm Nk d) : HAg N m0 w0 K T nm Nk (d + 1) := fun D m w p n sc gd o a1 a2 a3 a4 a5 a6 a7 a8 a9 => arg_pp c c45 hE a1 a2 a3 a4 a5 a6 a7 a8 a9
theorem p157_f {M : Nat} (h : FLW w) : PK (fun w2 (_ : Int32) => FLW w2) (bnd (fm_M_node N w 13 v1) (fun u2 r2 => ck (inb r2 (ln 26)) (lt (upA u2 26 (upd (u2.2.2.1 26) r2.toNatClampNeg (u2.1 84))) (fun w3 => (gg_M_primary N (rc_M_behind N d) M) w3 (v1) (r2))))) := by
  refine Kf_pk (u0 := w) ?_
  have h : Kfc w w := h
  obtain ⟨hF0, hF1, hF2, hF3, hF4, hF5, hF6, hF7, hF8, hF9, hF10, hF11, hF12, hF13, hF14, hF15, hF16⟩ := yf_rc_M_behind (u0 := w) (N := N) d
  repeat' (first | with_reducible assumption | with_reducible refine Kf_br ?_ ?_ | with_reducible refine Kf_bnd ?_ (fun _ _ _ => ?_) | with_reducible refine Kf_ck ?_ | with_reducible refine Kf_ltm ?_ (fun _ _ => ?_) | with_reducible refine Kf_some ?_ | with_reducible refine Kf_bo (fun _ => ?_) | with_reducible exact yf_fm_M_node (by assumption) | with_reducible exact yf_fm_M_pattern (by assumption) | with_reducible exact yf_fm_M_wrong (by assumption) | with_reducible exact yf_fm_M_rule (by assumption) | with_reducible exact yf_fm_M_isSign (by assumption) | with_reducible exact yf_fm_M_isWord (by assumption) | with_reducible exact yf_fm_M_takeSign (by assumption) | with_reducible exact yf_fm_M_takeWord (by assumption) | with_reducible exact yf_fm_M_needSign (by assumption) | with_reducible exact yf_fm_M_needWord (by assumption) | with_reducible exact yf_fm_M_opens (by assumption) | with_reducible exact yf_fm_M_boundIn (by assumption) | with_reducible exact yf_fr_M_found (by assumption) | with_reducible exact yf_fm_M_bind (by assumption) | with_reducible exact yf_fm_M_isUnderscore (by assumption) | with_reducible exact yf_fm_M_unbind (by assumption) | with_reducible exact yf_fm_M_term (by assumption) | with_reducible exact yf_fm_M_namePattern (by assumption) | with_reducible exact yf_fr_M_patternAt (by assumption) | with_reducible exact yf_fm_M_beginsUnit (by assumption) | with_reducible exact yf_fm_M_save (by assumption) | with_reducible exact yf_fm_M_addRoot (by assumption) | with_reducible exact yf_fm_M_level (by assumption) | with_reducible exact yf_fm_M_reduce (by assumption) | with_reducible exact yf_fm_M_takeBack (by assumption) | with_reducible exact yf_fm_M_forgetSaved (by assumption) | with_reducible exact yf_fr_M_last (by assumption) | with_reducible exact yf_fr_M_clause (by assumption) | with_reducible exact yf_fm_M_predefinedOf (by assumption) | with_reducible exact yf_fm_M_function0 (by assumption) | with_reducible exact yf_fm_M_program (by assumption) | with_reducible exact hF0 _ (by assumption) | with_reducible exact hF1 _ _ (by assumption) | with_reducible exact hF2 _ _ _ (by assumption) | with_reducible exact hF3 _ _ _ (by assumption) | with_reducible exact hF4 _ (by assumption) | with_reducible exact hF5 _ _ (by assumption) | with_reducible exact hF6 _ _ (by assumption) | with_reducible exact hF7 _ _ (by assumption) | with_reducible exact hF8 _ _ (by assumption) | with_reducible exact hF9 _ (by assumption) | with_reducible exact hF10 _ (by assumption) | with_reducible exact hF11 _ (by assumption) | with_reducible exact hF12 _ (by assumption) | with_reducible exact hF13 _ (by assumption) | with_reducible exact hF14 _ (by assumption) | with_reducible exact hF15 _ (by assumption) | with_reducible exact hF16 _ _ (by assumption) | with_reducible exact yf_fb_M_primary_182 (by assumption) hF0 hF1 hF2 hF3 hF4 hF5 hF6 hF7 hF8 hF9 hF10 hF11 hF12 hF13 hF14 hF15 hF16 (yf_gg_M_primary hF0 hF1 hF2 hF3 hF4 hF5 hF6 hF7 hF8 hF9 hF10 hF11 hF12 hF13 hF14 hF15 hF16 _) | with_reducible exact yf_fb_M_primary_157 (by assumption) hF0 hF1 hF2 hF3 hF4 hF5 hF6 hF7 hF8 hF9 hF10 hF11 hF12 hF13 hF14 hF15 hF16 (yf_gg_M_primary hF0 hF1 hF2 hF3 hF4 hF5 hF6 hF7 hF8 hF9 hF10 hF11 hF12 hF13 hF14 hF15 hF16 _) | with_reducible exact yf_fb_M_primary_128 (by assumption) hF0 hF1 hF2 hF3 hF4 hF5 hF6 hF7 hF8 hF9 hF10 hF11 hF12 hF13 hF14 hF15 hF16 (yf_gg_M_primary hF0 hF1 hF2 hF3 hF4 hF5 hF6 hF7 hF8 hF9 hF10 hF11 hF12 hF13 hF14 hF15 hF16 _) | with_reducible exact yf_fb_M_primary_122 (by assumption) hF0 hF1 hF2 hF3 hF4 hF5 hF6 hF7 hF8 hF9 hF10 hF11 hF12 hF13 hF14 hF15 hF16 (yf_gg_M_primary hF0 hF1 hF2 hF3 hF4 hF5 hF6 hF7 hF8 hF9 hF10 hF11 hF12 hF13 hF14 hF15 hF16 _) | with_reducible exact yf_fb_M_primary_118 (by assumption) hF0 hF1 hF2 hF3 hF4 hF5 hF6 hF7 hF8 hF9 hF10 hF11 hF12 hF13 hF14 hF15 hF16 (yf_gg_M_primary hF0 hF1 hF2 hF3 hF4 hF5 hF6 hF7 hF8 hF9 hF10 hF11 hF12 hF13 hF14 hF15 hF16 _) | with_reducible exact yf_fb_M_primary_0 (by assumption) hF0 hF1 hF2 hF3 hF4 hF5 hF6 hF7 hF8 hF9 hF10 hF11 hF12 hF13 hF14 hF15 hF16 (yf_gg_M_primary hF0 hF1 hF2 hF3 hF4 hF5 hF6 hF7 hF8 hF9 hF10 hF11 hF12 hF13 hF14 hF15 hF16 _) | with_reducible exact (yf_gg_M_primary hF0 hF1 hF2 hF3 hF4 hF5 hF6 hF7 hF8 hF9 hF10 hF11 hF12 hF13 hF14 hF15 hF16 _) _ _ _ (by assumption) | with_reducible refine Kf_ltv (fun _ => ?_) | with_reducible refine Kf_I ?_ (by decide) | with_reducible refine Kf_A ?_ | with_reducible refine Kf_J ?_ | with_reducible refine Kf_L ?_)
theorem app_lp (c : CTZ m0 w0 K T nm Nk) (c45 : ∀ p, p ≤ T → K p ≠ 45) (hA : HAg N m0 w0 K T nm Nk d) (hn0 : n0 ≤ 2 * p) (h70 : wB.1 70 = I ((o + 1 : Nat) : Int)) (ho : o + 1 ≤ 25) (hg : decide (wB.1 73 = 0) = !gd) : ∀ (M M' : Nat) (m w : MS) (q n : Nat) (sc2 : SCT) (la : List (Nat × List Nat)) (k : Nat) (v3 r : Int32), APL N m0 w0 K T nm Nk gd mB wB p n0 sc o ν m w q n sc2 la → la.length = k → ((la = [] ∧ v3 = 0 ∧ K q = 20) ∨ (la ≠ [] ∧ v3 = I ((la.getLastD (0, [])).1 : Nat))) → PP (EXZ N m0 w0 K T nm Nk p n0 gd sc o NC0 mB wB) (hg_Pa_applied N (hrc_Pa_matched N D) M m (I (ν : Nat)) v3 (I (k : Nat))) (gg_M_primary N (rc_M_behind N d) M' w (I (p : Nat)) r) := by
  intro M
  induction M with
  | zero => intro M' m w q n sc2 la k v3 r _ _ _; exact pp_nl
  | succ M ih =>
    intro M' m w q n sc2 la k v3 r h hlk hv3
    obtain ⟨n1, μ, tok, q2, q3, m1, sc1, X1, X2, W, R1, R2, Rf, Z1, Z2, CL1, CL2, a1, a2, a3, a4, a5, a6, a7, a8, a9, a10, a12, a13, a14⟩ := id h
    have t4 := c.1.1.1
    have hc := RLP_c c a1.1
    have hw := RLP_w c a1.1
    have h0 := a1.1.2.2.2.2.2.2
    have qT := a1.1.2.2.2.2.1
    have k46 := hc.1.1.k46 hc.2.2
    have na := a1.2.1
    cases M' with
    | zero => exact pp_nr
    | succ M' =>
      show PP _ (hb_Pa_applied_38 N (hrc_Pa_matched N D) (hg_Pa_applied N (hrc_Pa_matched N D) M) m (I (ν : Nat)) v3 (I (k : Nat))) (fb_M_primary_128 N (rc_M_behind N d) (gg_M_primary N (rc_M_behind N d) M') w (I (p : Nat)) r)
      unfold hb_Pa_applied_38 hb_Pa_applied_145 fb_M_primary_128 fb_M_primary_182
      rw [show (4000 : Int32) = I ((4000 : Nat) : Int) from rfl, decI (by omega) (by omega) (by omega) (by omega), decide_eq_false (by omega), br_fq, look_e hc (c45 _ qT), bTm_l, decide_eq_true h0, br_tq, isS_e (k := 20) (s := 0) hw (by decide) rfl, bnd_s, I_dn (a := K q) (b := 20) (s := 20) (by omega) (by decide) rfl]
      by_cases k20 : K q = 20
      · rw [decide_eq_true k20, br_tq, if_pos k20, show decide ((1 : Int32) = 0) = false from rfl, br_fq]
        have hl : q < T := TWK_lt c qT (by omega) (by omega)
        have w7 : ∀ k, k ∈ [70, 73] → w.1 k = wB.1 k := fun k hk => a1.2.2.2.2.1.2.2.2.2.2.2.1.1 k (by simp only [List.mem_cons, List.not_mem_nil, or_false] at hk ⊢; omega)
        have go : ∀ w3, ((gd = false ∧ w3 = w) ∨ (gd = true ∧ w3.1 72 ≠ 0 ∧ (∀ k, k ≠ 71 → k ≠ 72 → w3.1 k = w.1 k) ∧ w3.2.2.1 = w.2.2.1)) → PP (EXZ N m0 w0 K T nm Nk p n0 gd sc o NC0 mB wB) (lt (upI m 665 ((m.1 665) + 1)) (fun w4 => bTm ((hrc_Pa_matched N D).2.2.2.2.2.2.2.2.2.2.2.2.2.2.2.2.2.2.2 w4 0 6 21) (fun u5 r5 => bnd (hm_Tr_length N u5 r5) (fun u8 r8 => bnd (hm_Tr_add N u8 16 (m.1 665) r5 r8 0) (fun u10 r10 => br (decide (v3 = 0)) (ck (inb (I (ν : Nat)) 8016) (lt (upA u10 19 (upd (u10.2.2.1 19) (I (ν : Nat)).toNatClampNeg r10)) (fun w21 => hb_Pa_applied_136 N (hrc_Pa_matched N D) (hg_Pa_applied N (hrc_Pa_matched N D) M) w21 (I (ν : Nat)) (I (k : Nat)) (r10)))) (ck (inb v3 8016) (lt (upA u10 21 (upd (u10.2.2.1 21) v3.toNatClampNeg r10)) (fun w16 => hb_Pa_applied_136 N (hrc_Pa_matched N D) (hg_Pa_applied N (hrc_Pa_matched N D) M) w16 (I (ν : Nat)) (I (k : Nat)) (r10))))))))) (fb_M_primary_157 N (rc_M_behind N d) (gg_M_primary N (rc_M_behind N d) M') w3 (I (p : Nat))) := fun w3 h3 => by
          have f3 : (∀ k, k ≠ 71 → k ≠ 72 → w3.1 k = w.1 k) ∧ w3.2.2.1 = w.2.2.1 := by
            rcases h3 with ⟨-, rfl⟩ | ⟨-, -, z⟩
            · exact ⟨fun _ _ _ => rfl, rfl⟩
            · exact z
          have rl3 : RLP m0 w0 T q m w3 := by
            obtain ⟨b1, b2, b3, b4, b5, b6, b7⟩ := a1.1
            exact ⟨b1, Kt_tr b2 ⟨fun k hk => f3.1 k (by rintro rfl; revert hk; decide) (by rintro rfl; revert hk; decide), fun k hk => by rw [f3.2]⟩, b3, by rw [f3.1 69 (by decide) (by decide)]; exact b4, b5, by rw [f3.1 70 (by decide) (by decide)]; exact b6, by rw [f3.1 67 (by decide) (by decide)]; exact b7⟩
          unfold fb_M_primary_157
          refine l_lt ?_
          rw [hc.2.1, i_suc]
          cases D with
          | zero => exact pp_nl
          | succ D =>
            show PP _ (bTm (hm_Pa_rowUpTo N (hrc_Pa_matched N D) (advc m q) 0 6 21) _) _
            have nd3 : ND w3 := by
              obtain ⟨a, x, y⟩ := STQ_nd a1
              exact ⟨a, by rw [f3.1 32 (by decide) (by decide)]; exact x, y⟩
            refine pp_bTn (hA D m w3 q n sc2 gd (o + 1) rl3 na.2.1 (by omega) (WFP_rn (STQ_rn a1) (f3.1 65 (by decide) (by decide)) f3.2) nd3 (by rw [f3.1 70 (by decide) (by decide), w7 70 (by decide)]; exact h70) ho (by rw [f3.1 73 (by decide) (by decide), w7 73 (by decide)]; exact hg) k20) (fun m2 φ w2 _ qz => ?_) (fun m2 kk w2 _ qz => p157_f qz)
            obtain ⟨l, q1, e1, e84, hz⟩ := qz
            rw [e1]
            refine r_bnd (pk_mo (node_s (w := w2) (by decide)) (fun u r2 qn => ?_))
            obtain ⟨s1, u69, -, a, ha, hr2, h32, h23, hra⟩ := qn
            refine r_ck (fun _ => r_lt ?_)
            have nc : u.2.2.1 23 r2.toNatClampNeg ≠ 12 ∧ u.2.2.1 23 r2.toNatClampNeg ≠ 15 := by rw [hra, h23]; decide
            obtain ⟨n2, sc3, x1, x2, x3, x4, x5⟩ := APL_next (u := upA u 26 (upd (u.2.2.1 26) r2.toNatClampNeg (u.1 84))) c h hn0 k20 h3 hz (SMS_B s1 (Or.inr (Or.inl rfl)) nc) u69
            refine l_bnd (pk_mo (NXT_len x4) (fun u8 r8 e8 => ?_))
            obtain ⟨e8, e9⟩ := e8
            subst e8
            show PP _ (bnd (hm_Tr_add N u8 16 (I (q : Nat)) (I ((l.headD 0 : Nat) : Int)) r8 0) _) _
            rw [add_e x1 x2, bnd_s]
            obtain ⟨y1, y2⟩ := x5 (I (q : Nat)) r8
            unfold hb_Pa_applied_136
            have iν : (I (ν : Nat)).toNatClampNeg = ν := tnI rfl (by omega)
            rcases hv3 with ⟨z, rfl, -⟩ | ⟨z, rfl⟩
            · rw [show decide ((0 : Int32) = 0) = true from rfl, br_tq, iν, i_suc]
              refine l_ck (fun _ => l_lt ?_)
              refine ih M' _ _ q1 (n2 + 1) sc3 (la ++ [(n2 + 1, l)]) (k + 1) _ _ (y1 z) (by rw [List.length_append, List.length_singleton]; omega) (Or.inr ⟨by simp, ?_⟩)
              rw [getLastD_sn]
            · obtain ⟨d1, d2, d3⟩ := AR2_hd a10 z
              rw [I_n0 (by omega) (by omega), br_fq, tnI (n := (la.getLastD (0, [])).1) rfl (by omega), i_suc]
              refine l_ck (fun _ => l_lt ?_)
              refine ih M' _ _ q1 (n2 + 1) sc3 (la ++ [(n2 + 1, l)]) (k + 1) _ _ (y2 z) (by rw [List.length_append, List.length_singleton]; omega) (Or.inr ⟨by simp, ?_⟩)
              rw [getLastD_sn]
        refine r_br (fun z => ?_) (fun z => ?_)
        · rw [w7 73 (by decide), hg] at z
          exact go w (Or.inl ⟨(by cases gd <;> first | rfl | (cases z)), rfl⟩)
        · rw [w7 73 (by decide), hg] at z
          exact r_bnd (pk_mo (rule_p (by decide)) (fun v _ y => go v (Or.inr ⟨(by cases gd <;> first | rfl | (cases z)), y⟩)))
      · rw [decide_eq_false k20, br_fq, if_neg k20, show decide ((0 : Int32) = 0) = true from rfl, br_tq]
        have hla : la ≠ [] := by
          rcases hv3 with ⟨-, -, z⟩ | ⟨z, -⟩
          · exact absurd z k20
          · exact z
        exact pp_end (APL_end hn0 t4 h hla)
theorem app_pp (c : CTZ m0 w0 K T nm Nk) (c45 : ∀ p, p ≤ T → K p ≠ 45) (hA : HAg N m0 w0 K T nm Nk d) (hn0 : n0 ≤ 2 * p) (h70 : wB.1 70 = I ((o + 1 : Nat) : Int)) (ho : o + 1 ≤ 25) (hg : decide (wB.1 73 = 0) = !gd) {M : Nat} {ε r0 : Int32} (h : EXZ N m0 w0 K T nm Nk p n0 gd sc o NC0 mB wB m (.inl ε) w r0) : PP (EXZ N m0 w0 K T nm Nk p n0 gd sc o NC0 mB wB) (hm_Pa_applied N (hrc_Pa_matched N D) m ε) (gg_M_primary N (rc_M_behind N d) M w (I (p : Nat)) r) := by
  obtain ⟨q, n1, μ, sc1, X1, W, R1, Z1, CL1, e1, a2, a3, a4, a5, a6, a7, k, k1, k2, k3, k4, tok, htk1, htk⟩ := id h
  have hc := RLP_c c a4.1
  have hw := RLP_w c a4.1
  have h0 := a4.1.2.2.2.2.2.2
  have qT := a4.1.2.2.2.2.1
  have k46 := hc.1.1.k46 hc.2.2
  have t4 := c.1.1.1
  have na := a4.2.1
  unfold hm_Pa_applied hb_Pa_applied_0
  rw [look_e hc (c45 _ qT), bTm_l, I_dn (a := K q) (b := 20) (s := 20) (by omega) (by decide) rfl]
  by_cases k20 : K q = 20
  · rw [decide_eq_true k20, br_tq]
    refine l_ck (fun _ => ?_)
    rw [add_e na.2.1 (by omega), bnd_s, e1, tnI (n := μ) rfl (by omega), htk]
    have s2 := STQ_add (s := 0) (a := 15) (b := I (tok : Nat)) (c := I (μ : Nat)) (d := 0) (f := 0) a4
    have Ao := adN_o (m := m) (n := n1) (a := 15) (b := I (tok : Nat)) (c := I (μ : Nat)) (d := 0) (f := 0)
    have An := adN_nod (m := m) (n := n1) (a := 15) (b := I (tok : Nat)) (c := I (μ : Nat)) (d := 0) (f := 0)
    have kc : Kcc m (adN m n1 15 (I (tok : Nat)) (I (μ : Nat)) 0 0) := ⟨fun k hk => adN_i (by omega), fun k hk => adN_r (by omega)⟩
    generalize hA2 : adN m n1 15 (I (tok : Nat)) (I (μ : Nat)) 0 0 = A at s2 Ao An kc
    refine app_lp c c45 hA hn0 h70 ho hg N M A w q (n1 + 1) sc1 [] 0 0 r ?_ rfl (Or.inl ⟨rfl, rfl, k20⟩)
    refine ⟨n1, μ, tok, q, q, m, sc1, X1, 0, W, R1, false, R1, Z1, false, CL1, (fun _ => False), ?_, ⟨fun _ => (Bool.or_false _).symm, fun z => absurd rfl z⟩, ⟨a3, by show q + 2 * 0 ≤ q; omega, k20, Nat.le_refl _, fun j h1 h2 => absurd h2 (by omega)⟩, a6, ⟨fun j j1 j2 => ⟨(Ao j j2).1, fun _ => (Ao j j2).2⟩, kc⟩, ⟨a2.1, a2.2, by omega, Nat.le_refl _⟩, An.1, htk1, An.2, ⟨rfl, rfl, rfl, rfl, rfl, fun _ => BCo_no⟩, ⟨a4.2.2.2.2.1.2.2.2.1.1, SCX_len a4.2.2.2.2.1.2.1, a4.2.2.2.2.1.2.2.2.1.2⟩, a7, fun z => ?_⟩
    · rw [if_pos rfl, show max X1 0 = X1 by omega, Bool.or_false]
      exact STQ_cl (fun x => ⟨Or.inl, fun z => z.elim id False.elim⟩) s2
    · by_cases y : k = 1
      · obtain ⟨-, y2, -⟩ := k3 y
        rw [← y2]; exact Or.inr k20
      · exact k4 y z
  · rw [decide_eq_false k20, br_fq]
    cases M with
    | zero => exact pp_nr
    | succ M =>
      show PP _ _ (fb_M_primary_128 N (rc_M_behind N d) (gg_M_primary N (rc_M_behind N d) M) w (I (p : Nat)) r)
      unfold fb_M_primary_128 fb_M_primary_182
      rw [decide_eq_true h0, br_tq, isS_e (k := 20) (s := 0) hw (by decide) rfl, bnd_s, if_neg k20, show decide ((0 : Int32) = 0) = true from rfl, br_tq]
      exact pp_end h
end
