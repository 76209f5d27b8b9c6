set_option maxRecDepth 100000
section
variable {m0 w0 m w v u : MS} {K nm Nk W : Nat → Nat} {T p n N : Nat} {sc t : SCT} {own : Bool} {v1 : Int32} {S : SG_M_rowPattern} {SC : SF_Pa_matched}
theorem pat_wr (c : CTZ m0 w0 K T nm Nk) (h : RLP m0 w0 T p m w) (hn : m.1 306 = I (n : Nat)) (hR : RNs w sc) {fc : Option (MS × (Int32 ⊕ Nat))} {fw : Option (MS × Int32)} (hS0 : ∀ (u0 u : MS) a0, Kfc u0 u → KfE u0 (S.1 u a0)) (hS1 : ∀ (u0 u : MS) a0, Kfc u0 u → KfE u0 (S.2 u a0)) (hP : PP (PAZ N m0 w0 K T nm Nk p n own sc (upI m 666 (m.1 666 + 1)) (upI w 70 (w.1 70 + 1))) fc fw) : PP (PAZ N m0 w0 K T nm Nk p n own sc m w) (bTm fc (fun u18 r18 => hb_Pa_pattern_162 N SC () u18 r18)) (bnd fw (fun u10 r10 => fb_M_patternAt_388 N S () u10 r10)) := by
  refine pp_bTn hP (fun m2 ε w2 r q => ?_) (fun m2 k w2 r q => ?_)
  · obtain ⟨p2, n2, ν, sc2, X, W, a1, a2, a3, a4, a5, a6, a7, a8, a9, a10, a11, a12, a13, a14⟩ := q
    unfold hb_Pa_pattern_162 fb_M_patternAt_388
    refine l_lt (r_lt (pp_end ?_))
    have pcf : PCF m (upI m2 666 (m2.1 666 - 1)) := by
      refine ⟨fun k hk => ?_, fun k hk => a7.2 k hk⟩
      by_cases z : k = 666
      · rw [z, upI_at, a7.1 666 (by decide), upI_at, i_ps]
      · rw [upI_ne z, a7.1 k hk, upI_ne z]
    have wfp : WFP w (upI w2 70 (w2.1 70 - 1)) := by
      refine ⟨fun k hk => ?_, fun k hk => a13.2 k hk⟩
      by_cases z : k = 70
      · rw [z, upI_at, a13.1 70 (by decide), upI_at, i_ps]
      · rw [upI_ne z, a13.1 k hk, upI_ne z]
    have e66 : (upI w 70 (w.1 70 + 1)).1 66 = w.1 66 := upI_ne (by decide)
    refine ⟨p2, n2, ν, sc2, X, W, a1, a2, ⟨Kc_tr h.1 (PCF_k pcf), Kt_tr h.2.1 (WFP_k wfp), by rw [upI_ne (by decide)]; exact a3.2.2.1, by rw [upI_ne (by decide)]; exact a3.2.2.2.1, a3.2.2.2.2.1, by rw [pcf.1 666 (by decide), wfp.1 70 (by decide)]; exact h.2.2.2.2.2.1, by rw [wfp.1 67 (by decide)]; exact h.2.2.2.2.2.2⟩, ⟨a4.1, by rw [upI_ne (by decide)]; exact a4.2.1, a4.2.2⟩, fun j hj => a5 j hj, a6, pcf, WFP_rn a8 (upI_ne (by decide)) rfl, a9, a10, a11, by rw [upI_ne (by decide), a12, e66], wfp, ?_⟩
    intro d m3 cm kx
    exact a14 d m3 cm ⟨fun j h0 hj => kx.1 j h0 hj, ⟨fun k hk => (kx.2.1 k hk).trans (upI_ne (by omega)), fun k hk => kx.2.2 k hk⟩⟩
  · have q : FLW w2 := q
    exact Kf_pk (yf_fb_M_patternAt_388 (u0 := w2) q (hS0 w2) (hS1 w2))
theorem rcS (N d : Nat) : (∀ (u0 u : MS) a0, Kfc u0 u → KfE u0 ((rc_M_rowPattern N d).1 u a0)) ∧ (∀ (u0 u : MS) a0, Kfc u0 u → KfE u0 ((rc_M_rowPattern N d).2 u a0)) := ⟨fun u0 => (yf_rc_M_rowPattern (u0 := u0) (N := N) d).1, fun u0 => (yf_rc_M_rowPattern (u0 := u0) (N := N) d).2⟩
theorem rc45 (N : Nat) : ∀ (d : Nat) (w : MS) (p : Nat), WP w K T p → w.1 67 = 0 → K p = 45 → PK (fun w2 _ => FLW w2) ((rc_M_rowPattern N d).2 w v1)
  | 0, _, _, _, _, _ => pk_none
  | d + 1, w, p, hw, h0, hk => by
    show PK _ (fm_M_patternAt N (rc_M_rowPattern N d) w v1)
    unfold fm_M_patternAt
    rw [pAt_e hw h0, hk, pAt_101, show decide (b2c (bPK 45) = 0) = true from rfl, br_tq]
    exact pk_bnd (fun v r z => pk_some (wrong_s (u0 := w) (by decide) v r z))
theorem pB_row (h : WP w K T p) (h67 : w.1 67 = 0) (h0 : w.1 70 < 25) (hk : K p = 22 ∨ K p = 24) : fm_M_patternAt N S w v1 = bnd (S.1 (upI w 70 (w.1 70 + 1)) v1) (fun u10 r10 => fb_M_patternAt_388 N S () u10 r10) := by
  have hb : bPK (K p) = true := by rcases hk with z | z <;> rw [z] <;> rfl
  unfold fm_M_patternAt
  rw [pAt_e h h67, hb, pAt_101, show decide (b2c true = 0) = false from rfl, br_fq, if_neg (by omega), opn_e h0, bnd_s]
  have hM1 : WP (upI w 70 (w.1 70 + 1)) K T p := WP_e h (by rw [upI_ne (by decide)]; exact h.2.1) h.2.2 rfl rfl
  have h672 : (upI w 70 (w.1 70 + 1)).1 67 = 0 := by rw [upI_ne (by decide)]; exact h67
  unfold pAtB
  obtain ⟨a, b, -⟩ := WP_i hM1
  rw [show ln 6 = 4002 from rfl, a, b, srt_dc hM1 srK_2, srt_dc hM1 srK_4, srt_dc hM1 srK_1, srt_dc hM1 srK_5, tkS_e (k := 20) (s := 0) hM1 h672 (by decide) rfl, if_neg (by omega), decide_eq_false (show ¬ K p = 3 by omega), decide_eq_false (show ¬ K p = 1 by omega), decide_eq_false (show ¬ K p = 2 by omega), decide_eq_false (show ¬ K p = 4 by omega)]
  rfl
theorem pts_all (c : CTZ m0 w0 K T nm Nk) (hv : decide (v1 = 0) = !own) : ∀ (d D : Nat), PTS N m0 w0 K T nm Nk own v1 ((hrc_Pa_matched N D).2.2.2.2.2.2.2.2.2.2.2.2.2.2.2.2.2.1) ((rc_M_rowPattern N d).2) := by
  intro d
  induction d using Nat.strongRecOn with
  | _ d ih =>
    intro D m w p n sc h hn hn2 hR
    cases d with
    | zero => exact pp_nr
    | succ d =>
      cases D with
      | zero => exact pp_nl
      | succ D =>
        show PP _ (hm_Pa_pattern N (hrc_Pa_matched N D) m) (fm_M_patternAt N (rc_M_rowPattern N d) w v1)
        have hc := RLP_c c h
        have hw := RLP_w c h
        have k46 := hc.1.1.k46 hc.2.2
        cases hb : bPK (K p) with
        | false => exact pat_no c h hb
        | true =>
          by_cases ho : m.1 666 < 25
          · have ho2 : w.1 70 < 25 := by rw [← h.2.2.2.2.2.1]; exact ho
            have kk : K p = 1 ∨ K p = 2 ∨ K p = 3 ∨ K p = 4 ∨ K p = 20 ∨ K p = 22 ∨ K p = 24 ∨ K p = 34 := by
              have : ∀ k, k < 46 → bPK k = true → k = 1 ∨ k = 2 ∨ k = 3 ∨ k = 4 ∨ k = 20 ∨ k = 22 ∨ k = 24 ∨ k = 34 := by decide
              exact this _ k46 hb
            by_cases k3 : K p = 3
            · exact pat_nm c h hn hn2 hR k3 ho hv
            by_cases k34 : K p = 34
            · exact pat_mn c h hn hn2 hR k34 ho (rcS N d).1 (rcS N d).2
            by_cases k20 : K p = 20
            · exact pat_gp c h hn hn2 hR k20 ho (rcS N d).1 (rcS N d).2 (ih d (by omega) D)
            by_cases k22 : K p = 22
            · rw [pB_row hw h.2.2.2.2.2.2 ho2 (Or.inl k22)]
              unfold hm_Pa_pattern
              rw [cPt_e hc (by omega), hb, show b2c true = 1 from rfl, opens_e ho, bTm_l, k22, show decide (I ((22 : Nat) : Int) = 20) = false from rfl, br_fq, show decide (I ((22 : Nat) : Int) = 22) = true from rfl, br_tq]
              refine pat_wr c h hn hR (rcS N d).1 (rcS N d).2 ?_
              have h' : RLP m0 w0 T p (upI m 666 (m.1 666 + 1)) (upI w 70 (w.1 70 + 1)) := ⟨⟨fun k hk => by rw [upI_ne (by omega)]; exact h.1.1 k hk, h.1.2⟩, ⟨fun k hk => by rw [upI_ne (fun z => by rw [z] at hk; revert hk; decide)]; exact h.2.1.1 k hk, h.2.1.2⟩, by rw [upI_ne (by decide)]; exact h.2.2.1, by rw [upI_ne (by decide)]; exact h.2.2.2.1, h.2.2.2.2.1, by rw [upI_at, upI_at, h.2.2.2.2.2.1], by rw [upI_ne (by decide)]; exact h.2.2.2.2.2.2⟩
              have hR' : RNs (upI w 70 (w.1 70 + 1)) sc := WFP_rn hR (upI_ne (by decide)) rfl
              have hn' : (upI m 666 (m.1 666 + 1)).1 306 = I (n : Nat) := by rw [upI_ne (by decide)]; exact hn
              cases D with
              | zero => exact pp_nl
              | succ D =>
                cases d with
                | zero => exact pp_nr
                | succ d =>
                  show PP _ (hm_Pa_tuple N (hrc_Pa_matched N D) (upI m 666 (m.1 666 + 1)) 1) (fm_M_rowPattern N (rc_M_rowPattern N d) (upI w 70 (w.1 70 + 1)) v1)
                  cases D with
                  | zero => exact pp_nl
                  | succ D =>
                    cases D with
                    | zero => exact tup_pp (SC2 := hrc_Pa_matched N 0) (SC3 := hrc_Pa_matched N 0) c h' hn' hn2 hR' k22 (rcS N d).1 (rcS N d).2 (fun _ _ _ _ => rfl) (Or.inr (fun _ _ _ => rfl)) (ih d (by omega) 0) (fun w p => rc45 N d w p)
                    | succ D => exact tup_pp (SC2 := hrc_Pa_matched N (D + 1)) (SC3 := hrc_Pa_matched N D) c h' hn' hn2 hR' k22 (rcS N d).1 (rcS N d).2 (fun _ _ _ _ => rfl) (Or.inl (fun _ _ _ => rfl)) (ih d (by omega) D) (fun w p => rc45 N d w p)
            by_cases k24 : K p = 24
            · rw [pB_row hw h.2.2.2.2.2.2 ho2 (Or.inr k24)]
              unfold hm_Pa_pattern
              rw [cPt_e hc (by omega), hb, show b2c true = 1 from rfl, opens_e ho, bTm_l, k24, show decide (I ((24 : Nat) : Int) = 20) = false from rfl, br_fq, show decide (I ((24 : Nat) : Int) = 22) = false from rfl, br_fq, show decide (I ((24 : Nat) : Int) = 24) = true from rfl, br_tq]
              refine pat_wr c h hn hR (rcS N d).1 (rcS N d).2 ?_
              have h' : RLP m0 w0 T p (upI m 666 (m.1 666 + 1)) (upI w 70 (w.1 70 + 1)) := ⟨⟨fun k hk => by rw [upI_ne (by omega)]; exact h.1.1 k hk, h.1.2⟩, ⟨fun k hk => by rw [upI_ne (fun z => by rw [z] at hk; revert hk; decide)]; exact h.2.1.1 k hk, h.2.1.2⟩, by rw [upI_ne (by decide)]; exact h.2.2.1, by rw [upI_ne (by decide)]; exact h.2.2.2.1, h.2.2.2.2.1, by rw [upI_at, upI_at, h.2.2.2.2.2.1], by rw [upI_ne (by decide)]; exact h.2.2.2.2.2.2⟩
              have hR' : RNs (upI w 70 (w.1 70 + 1)) sc := WFP_rn hR (upI_ne (by decide)) rfl
              have hn' : (upI m 666 (m.1 666 + 1)).1 306 = I (n : Nat) := by rw [upI_ne (by decide)]; exact hn
              cases D with
              | zero => exact pp_nl
              | succ D =>
                cases d with
                | zero => exact pp_nr
                | succ d =>
                  show PP _ (hm_Pa_list N (hrc_Pa_matched N D) (upI m 666 (m.1 666 + 1)) 1) (fm_M_rowPattern N (rc_M_rowPattern N d) (upI w 70 (w.1 70 + 1)) v1)
                  cases D with
                  | zero => exact lst_pp (SC2 := hrc_Pa_matched N 0) c h' hn' hn2 hR' k24 (rcS N d).1 (rcS N d).2 (Or.inr (fun _ _ _ => rfl)) (ih d (by omega) 0) (ih d (by omega) 0) (fun w p => rc45 N d w p)
                  | succ D => exact lst_pp (SC2 := hrc_Pa_matched N D) c h' hn' hn2 hR' k24 (rcS N d).1 (rcS N d).2 (Or.inl (fun _ _ _ => rfl)) (ih d (by omega) D) (ih d (by omega) (D + 1)) (fun w p => rc45 N d w p)
            exact pat_lf c h hn hn2 hR (by omega) ho
          · exact pat_deep c h hb ho (rcS N d).1 (rcS N d).2
end
