set_option maxRecDepth 100000
section
variable {m0 w0 m w v u mB wB m2 w2 m3 w3 : MS} {K nm Nk W : Nat → Nat} {T p n N q X n2 p0 n0 p2 ν : Nat} {sc sc1 sc2 sc3 t : SCT} {own : Bool} {l : List Nat} {r v1 v2 v3 v4 : Int32} {S : SG_M_rowPattern} {SC1 SC2 SC3 : SF_Pa_matched}
theorem RWI_base (c : CTZ m0 w0 K T nm Nk) (hk : K p ≠ 3) {C D : MS} (hC : C = advc m p) (hD : WFP w D) (hD6 : D.1 66 = w.1 66) (h : RWI N m0 w0 K T nm Nk own C D (p + 1) n sc m2 w2 q l) : ∃ (n2 : Nat) (sc2 : SCT) (X : Nat) (W : Nat → Nat), l ≠ [] ∧ RLP m0 w0 T q m2 w2 ∧ (p < q ∧ m2.1 306 = I (n2 : Nat) ∧ n2 + 2 * p + 1 ≤ n + 2 * q) ∧ n ≤ n2 ∧ KPO n m m2 ∧ PCF m m2 ∧ RNs w2 sc2 ∧ SCO own sc sc2 X ∧ HDs Nk K W p q sc sc2 ∧ (tot sc2 ≤ tot sc + (q - p) ∧ X ≤ 1400) ∧ w2.1 66 = lgS sc X (w.1 66) ∧ WFP w w2 ∧ PRW N K nm m2 n n2 own W l (p + 1) q sc sc2 X := by
  obtain ⟨n2, sc2, X, W, b0, b1, b2, b3, b4, b5, b6, b7, b8, b9, b10, b11, b12, b13⟩ := h
  obtain ⟨d1, d2, d3⟩ := PRW_hd b11 b0
  have g1 : ∀ j, p ≤ j → j < p + 1 → K j ≠ 3 := fun j h1 h2 => by rw [show j = p by omega]; exact hk
  subst hC
  refine ⟨n2, sc2, X, W, b0, b1, ⟨by omega, b2.2.1, by omega⟩, by omega, fun j hj => b3 j hj, ?_, b5, b6, HDs_ext (by omega) (Nat.le_refl _) g1 (fun j h1 h2 => absurd h2 (by omega)) b7, ⟨by omega, b8.2⟩, by rw [b9, hD6], WFP_tr hD b10, b11⟩
  refine PCF_tr ?_ b4
  exact ⟨fun k hk => by unfold advc; exact upI_ne (fun z => hk (by rw [z]; decide)), fun _ _ => rfl⟩
theorem tup_pp (c : CTZ m0 w0 K T nm Nk) (h : RLP m0 w0 T p m w) (hn : m.1 306 = I (n : Nat)) (hn2 : n ≤ 2 * p) (hR : RNs w sc) (hk : K p = 22) (hS0 : ∀ (u0 u : MS) a0, Kfc u0 u → KfE u0 (S.1 u a0)) (hS1 : ∀ (u0 u : MS) a0, Kfc u0 u → KfE u0 (S.2 u a0)) (h1 : ∀ u a b d, SC1.2.2.2.2.2.2.2.2.2.2.2.2.2.2.2.2.2.2.2 u a b d = hm_Pa_rowUpTo N SC2 u a b d) (h2 : (∀ u a b, SC2.2.2.2.2.2.2.2.2.2.2.2.2.2.2.2.2.2.2.1 u a b = hm_Pa_row N SC3 u a b) ∨ ∀ u a b, SC2.2.2.2.2.2.2.2.2.2.2.2.2.2.2.2.2.2.2.1 u a b = none) (hP : PTS N m0 w0 K T nm Nk own v1 (SC3.2.2.2.2.2.2.2.2.2.2.2.2.2.2.2.2.2.1) S.2) (h45 : ∀ (w : MS) (p : Nat), WP w K T p → w.1 67 = 0 → K p = 45 → PK (fun w2 _ => FLW w2) (S.2 w v1)) : PP (PAZ N m0 w0 K T nm Nk p n own sc m w) (hm_Pa_tuple N SC1 m 1) (fm_M_rowPattern N S w v1) := by
  have hc := RLP_c c h
  have hw := RLP_w c h
  have t4 := c.1.1.1
  have hl : p < T := TWK_lt c h.2.2.2.2.1 (by omega) (by omega)
  unfold hm_Pa_tuple hb_Pa_tuple_0 fm_M_rowPattern fb_M_rowPattern_0 fb_M_rowPattern_15
  rw [isS_e (k := 22) (s := 2) hw (by decide) rfl, if_pos hk, bnd_s, show decide ((1 : Int32) = 0) = false from rfl, br_fq, br_fq]
  refine l_lt ?_
  rw [hc.2.1, i_suc]
  show PP _ (bTm (SC1.2.2.2.2.2.2.2.2.2.2.2.2.2.2.2.2.2.2.2 (advc m p) 1 8 23) _) _
  rw [h1]
  unfold hm_Pa_rowUpTo hb_Pa_rowUpTo_0 hb_Pa_rowUpTo_18 fb_M_rowPattern_27
  refine r_bnd (fun u13 r13 x13 => r_lt ?_)
  have f13 := yr_fm_M_pattern (u0 := w) Kr_rf u13 r13 x13
  have q13 := WNQ_kr (WNQ_0 hw hR) f13
  have qD : WNQ K T (p + 1) sc (w.1 66) w (upI u13 69 (u13.1 69 + 1)) := WNQ_on q13 hl (by rw [q13.1.2.1, i_suc])
  generalize hD : upI u13 69 (u13.1 69 + 1) = D at qD
  have cC : CP (advc m p) K T (p + 1) := advc_p hc hl
  have D0 : D.1 67 = 0 := by rw [qD.2.2.2.1 67 (by decide)]; exact h.2.2.2.2.2.2
  have rl : RLP m0 w0 T (p + 1) (advc m p) D := ⟨⟨fun k hk => by unfold advc; rw [upI_ne (by omega)]; exact h.1.1 k hk, h.1.2⟩, Kt_tr h.2.1 (WFP_k (WNQ_f qD)), cC.2.1, qD.1.2.1, hl, by unfold advc; rw [upI_ne (by decide), qD.2.2.2.1 70 (by decide)]; exact h.2.2.2.2.2.1, D0⟩
  have pC : PCF m (advc m p) := ⟨fun k hk => by unfold advc; exact upI_ne (fun z => hk (by rw [z]; decide)), fun _ _ => rfl⟩
  have g1 : ∀ j, p ≤ j → j < p + 1 → K j ≠ 3 := fun j h1 h2 => by rw [show j = p by omega]; omega
  rw [decide_eq_true D0, br_tq, isS_e (k := 23) (s := 3) qD.1 (by decide) rfl, bnd_s]
  have fG : ∀ (u0 u : MS) a0 a1 a2 a3 a4 a5 a6, Kfc u0 u → KfE u0 ((gg_M_rowPattern N S N) u a0 a1 a2 a3 a4 a5 a6) := fun u0 => gg_f (u0 := u0) hS0 hS1 N
  by_cases k45 : K (p + 1) = 45
  · refine pp_rf (RFS_T (RFS_T (look_x cC k45))) (fun mm => ?_)
    rw [if_neg (by omega), show decide ((0 : Int32) = 0) = true from rfl, br_tq]
    have key : ∀ M, PK (fun w2 (_ : Int32) => FLW w2) (gg_M_rowPattern N S M D v1 1 3 r13 (-1) 0 1) := fun M => by
      cases M with
      | zero => exact pk_none
      | succ M =>
        show PK _ (fb_M_rowPattern_66 N S (gg_M_rowPattern N S M) D v1 1 3 r13 (-1) 0 1)
        unfold fb_M_rowPattern_66
        rw [show decide ((1 : Int32) = 0) = false from rfl, br_fq, decide_eq_true D0, br_tq]
        refine pk_bnd (pk_mo (h45 D (p + 1) qD.1 D0 k45) (fun u10 r10 z => ?_))
        refine Kf_pk (u0 := u10) ?_
        refine Kf_br (Kf_ck (Kf_ltm (Kf_A z) (fun u h => ?_))) (Kf_ck (Kf_ltm (Kf_A z) (fun u h => ?_)))
        · exact yf_fb_M_rowPattern_112 h (hS0 u10) (hS1 u10) (gg_f hS0 hS1 M)
        · exact yf_fb_M_rowPattern_112 h (hS0 u10) (hS1 u10) (gg_f hS0 hS1 M)
    exact key N
  · rw [look_e cC k45, bTm_l]
    by_cases k23 : K (p + 1) = 23
    · rw [k23, show decide (I ((23 : Nat) : Int) = 23) = true from rfl, br_tq, if_pos rfl, show decide ((1 : Int32) = 0) = false from rfl, br_fq, bTm_as]
      unfold fb_M_rowPattern_194
      refine row_end (k9 := 23) (kd := 6) (c9 := 0) (φ := 0) (X := 0) (W := fun _ => 32) (sc2 := sc) c hn2 h rl (by omega) (by decide) rfl rfl ⟨by omega, by unfold advc; rw [upI_ne (by decide)]; exact hn, by omega⟩ (Nat.le_refl _) (fun _ _ => ⟨rfl, rfl⟩) pC qD.2.1 (SCO_0 hR) (HDs_no (fun j h1 h2 h3 => absurd h3 (g1 j h1 h2))) ⟨by omega, by omega⟩ (by rw [lgS_0]; exact qD.2.2.1) (WNQ_f qD) (fun mf ko kc hx kq => ?_)
      obtain ⟨r7, hx⟩ := hx
      refine ptn_tup (l := []) (q := p + 1) (q2 := p + 1) (a := I (p : Nat)) (c := r7) (g := 0) hx (by omega) (Nat.le_refl _) (by omega) ⟨by omega, by omega, by omega⟩ g1 (fun j h1 h2 => by rw [show j = p + 1 by omega]; omega) (by omega) (m1 := advc m p) (n1 := n) ⟨rfl, rfl, rfl⟩ ko kc (by omega)
    · have k46 := cC.1.1.k46 cC.2.2
      rw [I_dn (a := K (p + 1)) (b := 23) (s := 23) (by omega) (by decide) rfl, decide_eq_false k23, br_fq, if_neg k23, show decide ((0 : Int32) = 0) = true from rfl, br_tq, bTm_as]
      rcases h2 with h2 | h2
      rotate_left
      · rw [h2]; exact pp_nl
      rw [h2]
      unfold hm_Pa_row hb_Pa_row_0 hb_Pa_row_16
      rw [show decide ((1 : Int32) = 0) = false from rfl, br_fq, bTm_as]
      have first : ∀ M, PP (PAZ N m0 w0 K T nm Nk p n own sc m w) (bTm (SC3.2.2.2.2.2.2.2.2.2.2.2.2.2.2.2.2.2.1 (advc m p)) (fun u r => bTm (hg_Pa_row N SC3 N u 1 8 r r 1) (fun u3 r3 => bTm (bTm (hm_Pa_need N u3 23) (fun u1 r1 => some (u1, .inl r3))) (fun u4 r4 => bnd (hm_Tr_length N u4 r4) (fun u7 r7 => bnd (hm_Tr_add N u7 6 (I (p : Nat)) r4 r7 0) (fun u9 r9 => some (u9, .inl r9))))))) (gg_M_rowPattern N S M D v1 1 3 r13 (-1) 0 1) := fun M => by
        cases M with
        | zero => exact pp_nr
        | succ M =>
          show PP _ _ (fb_M_rowPattern_66 N S (gg_M_rowPattern N S M) D v1 1 3 r13 (-1) 0 1)
          unfold fb_M_rowPattern_66
          rw [show decide ((1 : Int32) = 0) = false from rfl, br_fq, decide_eq_true D0, br_tq]
          refine pp_bTn (hP (advc m p) D (p + 1) n sc rl (by unfold advc; rw [upI_ne (by decide)]; exact hn) (by omega) qD.2.1) (fun m2 ε w2 r10 q => ?_) (fun m2 kk w2 r10 q => ?_)
          · rw [show decide ((-1 : Int32) = -1) = true from rfl, br_tq]
            refine r_ck (fun _ => r_lt ?_)
            obtain ⟨ν, p2, e1, hI⟩ := RWI_1 (w3 := upA w2 36 (upd (w2.2.2.1 36) r13.toNatClampNeg r10)) q ⟨fun _ _ => rfl, fun k hk => upA_no (by omega)⟩ rfl rfl (fun k hk => upA_no (by omega))
            rw [e1]
            have := row_lp (N := N) (S := S) (SC := SC3) (v1 := v1) (v2 := 1) (v3 := 3) (v4 := r13) (R := PAZ N m0 w0 K T nm Nk p n own sc m w) (fC := fun u3 r3 => bTm (bTm (hm_Pa_need N u3 23) (fun u1 r1 => some (u1, .inl r3))) (fun u4 r4 => bnd (hm_Tr_length N u4 r4) (fun u7 r7 => bnd (hm_Tr_add N u7 6 (I (p : Nat)) r4 r7 0) (fun u9 r9 => some (u9, .inl r9))))) c (by omega) hS0 hS1 hP (fun M m5 w5 p5 k l v8 hI hk5 hlk hk8 => ?_) (fun m5 p5 φ cp k26 => RFS_T (RFS_T (need_x (k := 23) (s := 23) cp (by omega) (by decide) rfl))) (fun _ _ _ _ z => z) (fun M w5 p5 v8 k hw5 h05 k45 => ?_) 7 1 N M m2 _ p2 [ν] r10 (by omega) (by omega) rfl hI
            · exact this
            · obtain ⟨n2, sc2, X, W, b0, b1, b2, b3, b4, b5, b6, b7, b8, b9, b10, b11, b12⟩ := RWI_base c (by omega) rfl (WNQ_f qD) qD.2.2.1 hI
              have p5T := b1.2.2.2.2.1
              unfold fb_M_rowPattern_151 fb_M_rowPattern_194
              rw [show decide ((1 : Int32) = 0) = false from rfl, br_fq]
              show PP _ (bTm (bTm (hm_Pa_need N m5 23) (fun u1 r1 => some (u1, .inl (I ((l.headD 0 : Nat) : Int))))) _) _
              rw [bTm_as]
              refine row_end (k9 := 23) (kd := 6) (c9 := 0) (φ := I ((l.headD 0 : Nat) : Int)) c hn2 h b1 (by omega) (by decide) rfl rfl b2 b3 b4 b5 b6 b7 b8 b9 b10 b11 (fun mf ko kc hx kq => ?_)
              obtain ⟨r7, hx⟩ := hx
              exact ptn_tup (l := l) (q := p + 1) (q2 := p5) (a := I (p : Nat)) (c := r7) (g := 0) hx (by omega) (Nat.le_refl _) (by omega) ⟨by omega, by omega, by omega⟩ g1 (fun j h1 h2 => by rw [show j = p5 by omega]; omega) (by omega) (m1 := m5) (n1 := n2) b12 ko kc (by omega)
            · unfold fb_M_rowPattern_151 fb_M_rowPattern_194
              rw [show decide ((1 : Int32) = 0) = false from rfl, br_fq]
              refine pk_ck (fun _ => pk_lt ?_)
              have hw6 : WP (upA w5 35 (upd (w5.2.2.1 35) r13.toNatClampNeg k)) K T p5 := WP_e hw5 hw5.2.1 hw5.2.2 (upA_no (by decide)) (upA_no (by decide))
              exact pk_bnd (pk_mo (ndS_0 (N := N) (k := 23) (s := 3) hw6 h05 (by decide) rfl (by omega)) (fun v r2 z => pk_some z))
          · have q : FLW w2 := q
            refine Kf_pk (u0 := w2) ?_
            refine Kf_br (Kf_ck (Kf_ltm (Kf_A q) (fun u h => ?_))) (Kf_ck (Kf_ltm (Kf_A q) (fun u h => ?_)))
            · exact yf_fb_M_rowPattern_112 h (hS0 w2) (hS1 w2) (gg_f hS0 hS1 M)
            · exact yf_fb_M_rowPattern_112 h (hS0 w2) (hS1 w2) (gg_f hS0 hS1 M)
      have := first N
      exact this
end
