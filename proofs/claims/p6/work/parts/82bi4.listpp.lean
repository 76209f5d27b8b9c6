set_option maxRecDepth 100000
section
variable {m0 w0 m w v u mB wB m2 w2 m3 w3 : MS} {K nm Nk W : Nat → Nat} {T p n N q X n2 p0 n0 p2 ν : Nat} {sc sc1 sc2 sc3 t : SCT} {own : Bool} {l : List Nat} {r v1 v2 v3 v4 : Int32} {S : SG_M_rowPattern} {SC1 SC2 SC3 : SF_Pa_matched}
theorem lst_pp (c : CTZ m0 w0 K T nm Nk) (h : RLP m0 w0 T p m w) (hn : m.1 306 = I (n : Nat)) (hn2 : n ≤ 2 * p) (hR : RNs w sc) (hk : K p = 24) (hS0 : ∀ (u0 u : MS) a0, Kfc u0 u → KfE u0 (S.1 u a0)) (hS1 : ∀ (u0 u : MS) a0, Kfc u0 u → KfE u0 (S.2 u a0)) (h2 : (∀ u a b, SC1.2.2.2.2.2.2.2.2.2.2.2.2.2.2.2.2.2.2.1 u a b = hm_Pa_row N SC2 u a b) ∨ ∀ u a b, SC1.2.2.2.2.2.2.2.2.2.2.2.2.2.2.2.2.2.2.1 u a b = none) (hP : PTS N m0 w0 K T nm Nk own v1 (SC2.2.2.2.2.2.2.2.2.2.2.2.2.2.2.2.2.2.1) S.2) (hP1 : PTS N m0 w0 K T nm Nk own v1 (SC1.2.2.2.2.2.2.2.2.2.2.2.2.2.2.2.2.2.1) S.2) (h45 : ∀ (w : MS) (p : Nat), WP w K T p → w.1 67 = 0 → K p = 45 → PK (fun w2 _ => FLW w2) (S.2 w v1)) : PP (PAZ N m0 w0 K T nm Nk p n own sc m w) (hm_Pa_list N SC1 m 1) (fm_M_rowPattern N S w v1) := by
  have hc := RLP_c c h
  have hw := RLP_w c h
  have t4 := c.1.1.1
  have hl : p < T := TWK_lt c h.2.2.2.2.1 (by omega) (by omega)
  unfold hm_Pa_list hb_Pa_list_0 fm_M_rowPattern fb_M_rowPattern_0 fb_M_rowPattern_15
  rw [isS_e (k := 22) (s := 2) hw (by decide) rfl, if_neg (by omega), bnd_s, show decide ((0 : Int32) = 0) = true from rfl, br_tq, br_tq]
  refine l_lt ?_
  rw [hc.2.1, i_suc]
  show PP _ (bTm (hm_Pa_look N (advc m p)) _) _
  unfold fb_M_rowPattern_27
  refine r_bnd (fun u13 r13 x13 => r_lt ?_)
  have f13 := yr_fm_M_pattern (u0 := w) Kr_rf u13 r13 x13
  have q13 := WNQ_kr (WNQ_0 hw hR) f13
  have qD : WNQ K T (p + 1) sc (w.1 66) w (upI u13 69 (u13.1 69 + 1)) := WNQ_on q13 hl (by rw [q13.1.2.1, i_suc])
  generalize hD : upI u13 69 (u13.1 69 + 1) = D at qD
  have cC : CP (advc m p) K T (p + 1) := advc_p hc hl
  have D0 : D.1 67 = 0 := by rw [qD.2.2.2.1 67 (by decide)]; exact h.2.2.2.2.2.2
  have rl : RLP m0 w0 T (p + 1) (advc m p) D := ⟨⟨fun k hk => by unfold advc; rw [upI_ne (by omega)]; exact h.1.1 k hk, h.1.2⟩, Kt_tr h.2.1 (WFP_k (WNQ_f qD)), cC.2.1, qD.1.2.1, hl, by unfold advc; rw [upI_ne (by decide), qD.2.2.2.1 70 (by decide)]; exact h.2.2.2.2.2.1, D0⟩
  have pC : PCF m (advc m p) := ⟨fun k hk => by unfold advc; exact upI_ne (fun z => hk (by rw [z]; decide)), fun _ _ => rfl⟩
  have g1 : ∀ j, p ≤ j → j < p + 1 → K j ≠ 3 := fun j h1 h2 => by rw [show j = p by omega]; omega
  rw [decide_eq_true D0, br_tq, isS_e (k := 25) (s := 5) qD.1 (by decide) rfl, bnd_s]
  have flt : ∀ (M : Nat) (w5 : MS) (p5 : Nat) (v8 k : Int32), WP w5 K T p5 → w5.1 67 = 0 → K p5 ≠ 29 → K p5 ≠ 25 → PK (fun w2 (_ : Int32) => FLW w2) (fb_M_rowPattern_151 N S (gg_M_rowPattern N S M) w5 v1 0 5 r13 v8 k) := fun M w5 p5 v8 k hw5 h05 n29 n25 => by
    unfold fb_M_rowPattern_151 fb_M_rowPattern_194
    rw [show decide ((0 : Int32) = 0) = true from rfl, br_tq, tkS_e (k := 29) (s := 9) hw5 h05 (by decide) rfl, if_neg n29, bnd_s, show decide ((0 : Int32) = 0) = true from rfl, br_tq]
    refine pk_ck (fun _ => pk_lt ?_)
    have hw6 : WP (upA w5 35 (upd (w5.2.2.1 35) r13.toNatClampNeg k)) K T p5 := WP_e hw5 hw5.2.1 hw5.2.2 (upA_no (by decide)) (upA_no (by decide))
    exact pk_bnd (pk_mo (ndS_0 (N := N) (k := 25) (s := 5) hw6 h05 (by decide) rfl n25) (fun v r2 z => pk_some z))
  by_cases k45 : K (p + 1) = 45
  · refine pp_rf (RFS_T (look_x cC k45)) (fun mm => ?_)
    rw [if_neg (by omega), show decide ((0 : Int32) = 0) = true from rfl, br_tq]
    have key : ∀ M, PK (fun w2 (_ : Int32) => FLW w2) (gg_M_rowPattern N S M D v1 0 5 r13 (-1) 0 1) := fun M => by
      cases M with
      | zero => exact pk_none
      | succ M =>
        show PK _ (fb_M_rowPattern_66 N S (gg_M_rowPattern N S M) D v1 0 5 r13 (-1) 0 1)
        unfold fb_M_rowPattern_66
        rw [show decide ((1 : Int32) = 0) = false from rfl, br_fq, decide_eq_true D0, br_tq]
        refine pk_bnd (pk_mo (h45 D (p + 1) qD.1 D0 k45) (fun u10 r10 z => ?_))
        refine Kf_pk (u0 := u10) ?_
        refine Kf_br (Kf_ck (Kf_ltm (Kf_A z) (fun u h => ?_))) (Kf_ck (Kf_ltm (Kf_A z) (fun u h => ?_)))
        · exact yf_fb_M_rowPattern_112 h (hS0 u10) (hS1 u10) (gg_f hS0 hS1 M)
        · exact yf_fb_M_rowPattern_112 h (hS0 u10) (hS1 u10) (gg_f hS0 hS1 M)
    exact key N
  · rw [look_e cC k45, bTm_l]
    by_cases k25 : K (p + 1) = 25
    · rw [k25, show decide (I ((25 : Nat) : Int) = 25) = true from rfl, br_tq, if_pos rfl, show decide ((1 : Int32) = 0) = false from rfl, br_fq]
      unfold fb_M_rowPattern_194 hb_Pa_list_35 hb_Pa_list_80
      rw [show decide ((0 : Int32) = 0) = true from rfl, br_tq]
      refine row_end (k9 := 25) (kd := 7) (c9 := 0) (φ := 0) (X := 0) (W := fun _ => 32) (sc2 := sc) c hn2 h rl (by omega) (by decide) rfl rfl ⟨by omega, by unfold advc; rw [upI_ne (by decide)]; exact hn, by omega⟩ (Nat.le_refl _) (fun _ _ => ⟨rfl, rfl⟩) pC qD.2.1 (SCO_0 hR) (HDs_no (fun j h1 h2 h3 => absurd h3 (g1 j h1 h2))) ⟨by omega, by omega⟩ (by rw [lgS_0]; exact qD.2.2.1) (WNQ_f qD) (fun mf ko kc hx kq => ?_)
      obtain ⟨r7, hx⟩ := hx
      have := ptn_lst (N := N) (K := K) (nm := nm) (W := fun _ => 32) (own := own) (sc := sc) (sc2 := sc) (sc3 := sc) (lo := n) (l := []) (q := p + 1) (q2 := p + 1) (q3 := p + 1) (p := p) (p2 := p + 1 + 1) (c0 := 0) (X := 0) (X3 := 0) (a := I (p : Nat)) (c := r7) (m2 := mf) (n2 := n + 1) (ν := n + 1) hx (by omega) (Nat.le_refl _) (by omega) ⟨by omega, by omega, by omega, by omega⟩ g1 (fun j h1 h2 => by rw [show j = p + 1 by omega]; omega) ⟨by omega, by omega⟩ (m1 := advc m p) (n1 := n) ⟨rfl, rfl, rfl⟩ ko kc (by omega) (Or.inl ⟨rfl, rfl, rfl, fun j h1 h2 => absurd h2 (by omega)⟩)
      exact this
    · have k46 := cC.1.1.k46 cC.2.2
      rw [I_dn (a := K (p + 1)) (b := 25) (s := 25) (by omega) (by decide) rfl, decide_eq_false k25, br_fq, if_neg k25, show decide ((0 : Int32) = 0) = true from rfl, br_tq]
      rcases h2 with h2 | h2
      rotate_left
      · rw [h2]; exact pp_nl
      rw [h2]
      unfold hm_Pa_row hb_Pa_row_0 hb_Pa_row_16
      rw [show decide ((1 : Int32) = 0) = false from rfl, br_fq, bTm_as]
      have first : ∀ M, PP (PAZ N m0 w0 K T nm Nk p n own sc m w) (bTm (SC2.2.2.2.2.2.2.2.2.2.2.2.2.2.2.2.2.2.1 (advc m p)) (fun u r => bTm (hg_Pa_row N SC2 N u 1 8 r r 1) (fun u17 r17 => hb_Pa_list_35 N SC1 () u17 1 (I (p : Nat)) r17))) (gg_M_rowPattern N S M D v1 0 5 r13 (-1) 0 1) := fun M => by
        cases M with
        | zero => exact pp_nr
        | succ M =>
          show PP _ _ (fb_M_rowPattern_66 N S (gg_M_rowPattern N S M) D v1 0 5 r13 (-1) 0 1)
          unfold fb_M_rowPattern_66
          rw [show decide ((1 : Int32) = 0) = false from rfl, br_fq, decide_eq_true D0, br_tq]
          refine pp_bTn (hP (advc m p) D (p + 1) n sc rl (by unfold advc; rw [upI_ne (by decide)]; exact hn) (by omega) qD.2.1) (fun m2 ε w2 r10 q => ?_) (fun m2 kk w2 r10 q => ?_)
          · rw [show decide ((-1 : Int32) = -1) = true from rfl, br_tq]
            refine r_ck (fun _ => r_lt ?_)
            obtain ⟨ν, p2, e1, hI⟩ := RWI_1 (w3 := upA w2 36 (upd (w2.2.2.1 36) r13.toNatClampNeg r10)) q ⟨fun _ _ => rfl, fun k hk => upA_no (by omega)⟩ rfl rfl (fun k hk => upA_no (by omega))
            rw [e1]
            have := row_lp (N := N) (S := S) (SC := SC2) (v1 := v1) (v2 := 0) (v3 := 5) (v4 := r13) (R := PAZ N m0 w0 K T nm Nk p n own sc m w) (fC := fun u17 r17 => hb_Pa_list_35 N SC1 () u17 1 (I (p : Nat)) r17) c (by omega) hS0 hS1 hP (fun M m5 w5 p5 k l v8 hI hk5 hlk hk8 => ?_) (fun m5 p5 φ cp k26 => ?_) (fun _ _ _ _ z => z) (fun M w5 p5 v8 k hw5 h05 k45 => flt M w5 p5 v8 k hw5 h05 (by omega) (by omega)) 7 1 N M m2 _ p2 [ν] r10 (by omega) (by omega) rfl hI
            · exact this
            · 
              have hI2 := hI
              obtain ⟨n2', sc2', X', W', z0, z1, z2, z3, z4, z5, z6, z7, z8, z9, z10, z11, z12, z13⟩ := hI2
              obtain ⟨d1, d2, d3⟩ := PRW_hd z11 z0
              obtain ⟨n2, sc2, X, W, b0, b1, b2, b3, b4, b5, b6, b7, b8, b9, b10, b11, b12⟩ := RWI_base c (by omega) rfl (WNQ_f qD) qD.2.2.1 hI
              have p5T := b1.2.2.2.2.1
              have c5 := RLP_c c b1
              have w5p := RLP_w c b1
              have h05 := b1.2.2.2.2.2.2
              have k46 := c5.1.1.k46 c5.2.2
              have hd0 : decide (I ((l.headD 0 : Nat) : Int) = 0) = false := by
                refine decide_eq_false (fun z => ?_)
                have := (PRW_hd b12 b0)
                have := (I_eq (x := ((l.headD 0 : Nat) : Int)) (y := 0) (by omega) (by omega) (by omega) (by omega)).mp z
                omega
              unfold hb_Pa_list_35
              rw [hd0, br_fq]
              by_cases q45 : K p5 = 45
              · exact pp_rf (RFS_T (look_x c5 q45)) (fun mm => flt M w5 p5 v8 _ w5p h05 (by omega) (by omega))
              · rw [look_e c5 q45, bTm_l]
                by_cases q29 : K p5 = 29
                · have hl5 : p5 < T := TWK_lt c p5T (by omega) (by omega)
                  rw [q29, show decide (I ((29 : Nat) : Int) = 29) = true from rfl, br_tq]
                  refine l_lt ?_
                  rw [c5.2.1, i_suc, show decide ((1 : Int32) = 0) = false from rfl, br_fq]
                  show PP _ (bTm (SC1.2.2.2.2.2.2.2.2.2.2.2.2.2.2.2.2.2.1 (advc m5 p5)) _) _
                  unfold fb_M_rowPattern_151 hb_Pa_list_78
                  rw [show decide ((0 : Int32) = 0) = true from rfl, br_tq, tkS_e (k := 29) (s := 9) w5p h05 (by decide) rfl, if_pos q29, bnd_s, show decide ((1 : Int32) = 0) = false from rfl, br_fq]
                  have rl5 : RLP m0 w0 T (p5 + 1) (advc m5 p5) (adv w5 p5) := ⟨⟨fun k hk => by unfold advc; rw [upI_ne (by omega)]; exact b1.1.1 k hk, b1.1.2⟩, ⟨fun k hk => by unfold adv; rw [upI_ne (fun z => by rw [z] at hk; revert hk; decide)]; exact b1.2.1.1 k hk, b1.2.1.2⟩, upI_at, upI_at, hl5, by unfold advc adv; rw [upI_ne (by decide), upI_ne (by decide)]; exact b1.2.2.2.2.2.1, by unfold adv; rw [upI_ne (by decide)]; exact h05⟩
                  have rn5 : RNs (adv w5 p5) sc2 := WFP_rn b6 (by unfold adv; exact upI_ne (by decide)) rfl
                  refine pp_bTn (hP1 (advc m5 p5) (adv w5 p5) (p5 + 1) n2 sc2 rl5 (by unfold advc; rw [upI_ne (by decide)]; exact b2.2.1) (by omega) rn5) (fun m12 ε w12 r12 q => ?_) (fun m12 kk w12 r12 q => ?_)
                  · obtain ⟨p3, n3, ν3, sc3, X3, W3, a1, a2, a3, a4, a5, a6, a7, a8, a9, a10, a11, a12, a13, a14⟩ := q
                    have p3T := a3.2.2.2.2.1
                    have gB : ∀ j, p5 ≤ j → j < p5 + 1 → K j ≠ 3 := fun j h1 h2 => by rw [show j = p5 by omega]; omega
                    have wA : ∀ j, p ≤ j → j < p5 → (fun j => if j < p5 then W j else W3 j) j = W j := fun j _ h2 => if_pos h2
                    have wA1 : ∀ j, p + 1 ≤ j → j < p5 → (fun j => if j < p5 then W j else W3 j) j = W j := fun j _ h2 => if_pos h2
                    have wB2 : ∀ j, p5 + 1 ≤ j → j < p3 → (fun j => if j < p5 then W j else W3 j) j = W3 j := fun j h1 _ => if_neg (by omega)
                    have ko5 : KPO n2 m5 m12 := fun j hj => a5 j hj
                    have kc5 : Kcc m5 m12 := Kc_tr (v := advc m5 p5) ⟨fun k hk => by unfold advc; exact upI_ne (by omega), fun _ _ => rfl⟩ (PCF_k a7)
                    have pc5 : PCF m5 m12 := PCF_tr (v := advc m5 p5) ⟨fun k hk => by unfold advc; exact upI_ne (fun z => hk (by rw [z]; decide)), fun _ _ => rfl⟩ a7
                    have wf5 : WFP w5 w12 := WFP_tr (v := adv w5 p5) ⟨fun k hk => by unfold adv; exact upI_ne (fun z => hk (by rw [z]; decide)), fun _ _ => rfl⟩ a13
                    have e66 : (adv w5 p5).1 66 = w5.1 66 := by unfold adv; exact upI_ne (by decide)
                    obtain ⟨f1, f2, f3⟩ := PRW_hd b12 b0
                    have z21 : m5.2.2.1 21 (l.getLastD 0) = 0 := z12
                    have fin : ∀ w6 : MS, (∀ k, w6.1 k = w12.1 k) → (∀ k, k ≠ 37 → w6.2.2.1 k = w12.2.2.1 k) → PP (PAZ N m0 w0 K T nm Nk p n own sc m w) (hb_Pa_list_80 N SC1 () m12 (I (p : Nat)) (I ((l.headD 0 : Nat) : Int)) ε) (fb_M_rowPattern_186 N S (gg_M_rowPattern N S M) w6 5 r13 (I (k : Nat))) := fun w6 i6 r6 => by
                      unfold fb_M_rowPattern_186 fb_M_rowPattern_194 hb_Pa_list_80
                      refine r_ck (fun _ => r_lt ?_)
                      generalize hw7 : upA w6 38 (upd (w6.2.2.1 38) r13.toNatClampNeg (vp_nar .boolean 1)) = w7
                      have i7 : ∀ k, w7.1 k = w12.1 k := fun k => by rw [← hw7]; exact i6 k
                      have r7 : ∀ k, k ≠ 37 → k ≠ 38 → w7.2.2.1 k = w12.2.2.1 k := fun k h1 h2 => by rw [← hw7, upA_no h2]; exact r6 k h1
                      have wf7 : WFP w12 w7 := ⟨fun k _ => i7 k, fun k hk => r7 k (by omega) (by omega)⟩
                      rw [a1]
                      refine row_end (k9 := 25) (kd := 7) (c9 := I (ν3 : Nat)) (φ := I ((l.headD 0 : Nat) : Int)) (q := p3) (n2 := n3) (sc2 := sc3) (X := max X X3) (W := fun j => if j < p5 then W j else W3 j) c hn2 h ⟨a3.1, Kt_tr a3.2.1 (WFP_k wf7), a3.2.2.1, by rw [i7]; exact a3.2.2.2.1, p3T, by rw [i7]; exact a3.2.2.2.2.2.1, by rw [i7]; exact a3.2.2.2.2.2.2⟩ (by omega) (by decide) rfl rfl ⟨by omega, a4.2.1, by omega⟩ (by omega) (KPO_tr b4 ko5 b3) (PCF_tr b5 pc5) (RNs_e a8 (i7 65) (fun k h1 h2 => r7 k (by omega) (by omega))) (SCO_tr b7 a9) ?_ ⟨by omega, by omega⟩ (by rw [i7, a12, e66, b10, lgS_tr b7.1]) (WFP_tr b11 (WFP_tr wf5 wf7)) (fun mf ko kc hx kq => ?_)
                      · refine HDs_tr (p2 := p5) (by omega) (by omega) (HDs_w wA b8) ?_
                        exact HDs_ext (q := p5 + 1) (q2 := p3) (by omega) (Nat.le_refl _) gB (fun j h1 h2 => absurd h2 (by omega)) (HDs_w wB2 a10)
                      · obtain ⟨r9, hx⟩ := hx
                        have pr := PRW_up (y := 0) (n3 := n3) (m3 := m12) (own := own) (by omega) kc5 (fun j hj => ⟨(ko5 j hj).1, fun _ => (ko5 j hj).2⟩) (by rw [(ko5 _ f3).2]; exact z21) (PRW_w wA1 b12) (q := p5) (sc3 := sc2) (Y := 0) (l2 := []) b0 rfl (fun z => absurd rfl z) ⟨rfl, rfl, rfl⟩
                        rw [List.append_nil, Nat.max_eq_left (Nat.zero_le X)] at pr
                        exact ptn_lst (l := l) (q := p + 1) (q2 := p5) (q3 := p3) (c0 := ν3) (X3 := X3) (a := I (p : Nat)) (c := r9) hx (by omega) (Nat.le_refl _) (by omega) ⟨by omega, by omega, by omega, by omega⟩ g1 (fun j h1 h2 => by rw [show j = p3 by omega]; omega) ⟨by omega, by omega⟩ (m1 := m12) (n1 := n3) pr ko kc (by omega) (Or.inr ⟨by omega, a2.2, p5 + 1, n2, b3, ⟨by omega, by omega⟩, gB, PTN_w wB2 a14⟩)
                    refine r_br (fun _ => ?_) (fun _ => r_ck (fun _ => r_lt ?_))
                    · exact fin w12 (fun _ => rfl) (fun _ _ => rfl)
                    · exact fin _ (fun _ => rfl) (fun k hk => upA_no hk)
                  · have q : FLW w12 := q
                    refine Kf_pk (u0 := w12) ?_
                    refine Kf_br ?_ (Kf_ck (Kf_ltm (Kf_A q) (fun u h => ?_)))
                    · exact yf_fb_M_rowPattern_186 q (hS0 w12) (hS1 w12) (gg_f hS0 hS1 M)
                    · exact yf_fb_M_rowPattern_186 h (hS0 w12) (hS1 w12) (gg_f hS0 hS1 M)
                · rw [I_dn (a := K p5) (b := 29) (s := 29) (by omega) (by decide) rfl, decide_eq_false q29, br_fq]
                  unfold hb_Pa_list_80 fb_M_rowPattern_151 fb_M_rowPattern_194
                  rw [show decide ((0 : Int32) = 0) = true from rfl, br_tq, tkS_e (k := 29) (s := 9) w5p h05 (by decide) rfl, if_neg q29, bnd_s, show decide ((0 : Int32) = 0) = true from rfl, br_tq]
                  refine row_end (k9 := 25) (kd := 7) (c9 := 0) (φ := I ((l.headD 0 : Nat) : Int)) c hn2 h b1 (by omega) (by decide) rfl rfl b2 b3 b4 b5 b6 b7 b8 b9 b10 b11 (fun mf ko kc hx kq => ?_)
                  obtain ⟨r7, hx⟩ := hx
                  have := ptn_lst (N := N) (K := K) (nm := nm) (W := W) (own := own) (sc := sc) (sc2 := sc2) (sc3 := sc2) (lo := n) (l := l) (q := p + 1) (q2 := p5) (q3 := p5) (p := p) (p2 := p5 + 1) (c0 := 0) (X := X) (X3 := 0) (a := I (p : Nat)) (c := r7) (m2 := mf) (n2 := n2 + 1) (ν := n2 + 1) hx (by omega) (Nat.le_refl _) (by omega) ⟨by omega, by omega, by omega, by omega⟩ g1 (fun j h1 h2 => by rw [show j = p5 by omega]; omega) ⟨by omega, by omega⟩ (m1 := m5) (n1 := n2) b12 ko kc (by omega) (Or.inl ⟨rfl, rfl, rfl, fun j h1 h2 => absurd h2 (by omega)⟩)
                  rw [Nat.max_eq_left (Nat.zero_le X)] at this
                  exact this
            · 
              show RFS (hb_Pa_list_35 N SC1 () m5 1 (I (p : Nat)) φ)
              unfold hb_Pa_list_35 hb_Pa_list_80
              cases hφ : decide (φ = 0)
              · rw [br_fq, look_e cp (by omega), bTm_l, k26, show decide (I ((26 : Nat) : Int) = 29) = false from rfl, br_fq]
                exact RFS_T (need_x (k := 25) (s := 25) cp (by omega) (by decide) rfl)
              · rw [br_tq]
                exact RFS_T (need_x (k := 25) (s := 25) cp (by omega) (by decide) rfl)
          · have q : FLW w2 := q
            refine Kf_pk (u0 := w2) ?_
            refine Kf_br (Kf_ck (Kf_ltm (Kf_A q) (fun u h => ?_))) (Kf_ck (Kf_ltm (Kf_A q) (fun u h => ?_)))
            · exact yf_fb_M_rowPattern_112 h (hS0 w2) (hS1 w2) (gg_f hS0 hS1 M)
            · exact yf_fb_M_rowPattern_112 h (hS0 w2) (hS1 w2) (gg_f hS0 hS1 M)
      have := first N
      exact this
end
