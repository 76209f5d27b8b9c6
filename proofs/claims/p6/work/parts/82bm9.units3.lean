set_option maxRecDepth 100000
section
variable {m0 w0 m w v u mB wB m2 w2 m3 w3 mi w' : MS} {K nm Nk W W2 : Nat → Nat} {T p n N q X Y n2 p0 n0 n3 p2 ν μ κ o s L d D k q1 q2 lo li ni t0 : Nat} {sc sc1 sc2 sc3 t : SCT} {gd Rf Zf Rg Zg : Bool} {l : List Nat} {r v1 v2 v3 v4 v5 x y : Int32} {CL CM : Int32 × Int32 × Int32 → Prop} {NC : Nat → Prop} {B1 B2 BC : MS → Prop}
theorem un_pp {R : MS → Int32 ⊕ Nat → MS → Int32 → Prop} (c : CTZ m0 w0 K T nm Nk) (c45 : ∀ p, p ≤ T → K p ≠ 45) (hP : HPr N m0 w0 K T nm Nk d) (hW : ∀ m k w r, FLW w → R m (.inr k) w r) : ∀ (D M : Nat) (m w : MS) (p n : Nat) (sc : SCT) (o : Nat) (fC : MS → Int32 → Option (MS × (Int32 ⊕ Nat))), RLP m0 w0 T p m w → m.1 306 = I (n : Nat) → n ≤ 2 * p → RNs w sc → ND w → w.1 70 = I ((o + 1 : Nat) : Int) → o + 1 ≤ 25 → decide (w.1 73 = 0) = !gd → (∀ M2 m2 ε w2 r k, EXZ N m0 w0 K T nm Nk p n gd sc o NC0 m w m2 (.inl ε) (bkW w w2) r → UNS w w2 k → PP R (fC m2 ε) (wkR N (rc_M_behind N d) M2 v1 w2 r)) → PP R (bTm ((hrc_Pa_matched N D).2.2.2.2.2.2.2.2.2.2.2.2.1 m) fC) ((gg_M_worked N (rc_M_behind N d) M).2 w v1) := by
  intro D
  induction D with
  | zero => intros; exact pp_nl
  | succ D ih =>
    intro M m w p n sc o fC h hn hn2 hR nd h70 ho hg hC
    cases M with
    | zero => exact pp_nr
    | succ M =>
      show PP R (bTm (hb_Pa_unit_0 N (hrc_Pa_matched N D) () m) fC) (fb_M_worked_20 N (rc_M_behind N d) (gg_M_worked N (rc_M_behind N d) M) w v1)
      have hc := RLP_c c h
      have hw := RLP_w c h
      have t4 := c.1.1.1
      have pT := h.2.2.2.2.1
      have h0 := h.2.2.2.2.2.2
      have k46 := hc.1.1.k46 hc.2.2
      unfold hb_Pa_unit_0 fb_M_worked_20
      rw [look_e hc (c45 p pT), bTm_l, decide_eq_true h0, br_tq, isS_e (k := 34) (s := 19) hw (by decide) rfl, bnd_s, isV_e (k := 14) (s := 9) hw (by decide) rfl, bnd_s, I_dn (a := K p) (b := 34) (s := 34) (by omega) (by decide) rfl, I_dn (a := K p) (b := 14) (s := 14) (by omega) (by decide) rfl]
      have pre : ∀ kd : Nat, ((kd = 17 ∧ K p = 34) ∨ (kd = 18 ∧ K p = 14)) → PP R (bTm (hb_Pa_unit_26 N (hrc_Pa_matched N D) () m (I (K p : Nat))) fC) (fb_M_worked_45 N (rc_M_behind N d) (gg_M_worked N (rc_M_behind N d) M) w v1) := fun kd hkd => by
        have hl : p < T := TWK_lt c pT (by omega) (by omega)
        have hc1 : CP (advc m p) K T (p + 1) := advc_p hc hl
        have k461 := hc1.1.1.k46 hc1.2.2
        unfold hb_Pa_unit_26 fb_M_worked_45
        refine r_ck (fun z83 => ?_)
        obtain ⟨t0, h83, ht⟩ := inb_N z83
        have l79 : ln 79 = 3000 := rfl
        rw [l79] at ht
        refine r_lt (r_ck (fun _ => r_lt (r_lt (r_lt ?_))))
        rw [h83, tnI (n := t0) rfl (by omega)]
        generalize hw18 : upA (upA w 79 (upd (w.2.2.1 79) t0 (vp_nar .byte 7))) 80 _ = w18
        have i18 : ∀ k, w18.1 k = w.1 k := fun k => by rw [← hw18]; rfl
        have r18 : ∀ k, k ≠ 79 → k ≠ 80 → w18.2.2.1 k = w.2.2.1 k := fun k h1 h2 => by rw [← hw18, upA_no h2, upA_no h1]
        have j18 : ∀ k j, j ≠ t0 → w18.2.2.1 k j = w.2.2.1 k j := fun k j hj => by
          rw [← hw18]
          by_cases e80 : k = 80
          · subst e80
            rw [upA_at]
            have e83 : ((upA w 79 (upd (w.2.2.1 79) t0 (vp_nar .byte 7))).1 83).toNatClampNeg = t0 := by
              show (w.1 83).toNatClampNeg = t0
              rw [h83]; exact tnI rfl (by omega)
            rw [e83, upd_no hj, upA_no (by decide)]
          · rw [upA_no e80]
            by_cases e79 : k = 79
            · subst e79; rw [upA_at, upd_no hj]
            · rw [upA_no e79]
        have s18 : w18.2.2.1 79 t0 = 7 := by rw [← hw18, upA_no (by decide), upA_at, upd_at]; decide
        clear hw18
        have e83 : w18.1 83 + 1 = I ((t0 + 1 : Nat) : Int) := by rw [i18 83, h83, i_suc]
        rw [e83]
        have e69 : (upI w18 83 (I ((t0 + 1 : Nat) : Int))).1 69 + 1 = I ((p + 1 : Nat) : Int) := by rw [upI_ne (by decide), i18 69, hw.2.1, i_suc]
        rw [e69]
        generalize hw20 : upI (upI w18 83 (I ((t0 + 1 : Nat) : Int))) 69 (I ((p + 1 : Nat) : Int)) = w20
        have i20 : ∀ k, k ≠ 69 → k ≠ 83 → w20.1 k = w.1 k := fun k h1 h2 => by rw [← hw20, upI_ne h1, upI_ne h2]; exact i18 k
        have r20 : w20.2.2.1 = w18.2.2.1 := by rw [← hw20]; rfl
        have w20p : WP w20 K T (p + 1) := WP_e hw (by rw [← hw20]; exact upI_at) hl (by rw [r20]; exact r18 6 (by decide) (by decide)) (by rw [r20]; exact r18 7 (by decide) (by decide))
        have w2083 : w20.1 83 = I ((t0 + 1 : Nat) : Int) := by rw [← hw20, upI_ne (by decide), upI_at]
        clear hw20
        rw [bTm_lt]
        refine l_lt ?_
        rw [hc.2.1, i_suc]
        show PP R (bTm (bTm (hm_Pa_look N (advc m p)) _) fC) _
        rw [look_e hc1 (c45 _ hl), bTm_l, bU_e k461, bnd_s, bU_m w20p, bnd_s]
        cases hb : bUK (K (p + 1)) with
        | false =>
          rw [show decide (b2c false = 0) = true from rfl, br_tq]
          refine pp_rf (RFS_T (RFS_T (opens_0 hc1))) (fun mm => ?_)
          exact pk_bnd (fun v r z => pk_mo (w45_f (wrong_s (u0 := v) (by decide) v r z)) (fun _ _ y => hW _ _ _ _ y))
        | true =>
          rw [show decide (b2c true = 0) = false from rfl, br_fq, show b2c true = 1 from rfl]
          unfold fb_M_worked_102
          by_cases hd : o + 1 < 25
          · have hm : (advc m p).1 666 < 25 := by
              unfold advc
              rw [upI_ne (by decide), h.2.2.2.2.2.1]
              exact I_25 h70 hd
            have hw25 : w20.1 70 < 25 := by rw [i20 70 (by decide) (by decide)]; exact I_25 h70 hd
            rw [opens_e hm, bTm_l, opn_e hw25, bnd_s]
            have em : (advc m p).1 666 = m.1 666 := by unfold advc; exact upI_ne (by decide)
            rw [em]
            generalize hw' : upI w20 70 (w20.1 70 + 1) = w'
            have iw' : ∀ k, k ≠ 69 → k ≠ 70 → k ≠ 83 → w'.1 k = w.1 k := fun k h1 h2 h3 => by rw [← hw', upI_ne h2]; exact i20 k h1 h3
            have w'70 : w'.1 70 = I ((o + 1 + 1 : Nat) : Int) := by rw [← hw', upI_at, i20 70 (by decide) (by decide), h70, i_suc]
            have w'83 : w'.1 83 = I ((t0 + 1 : Nat) : Int) := by rw [← hw', upI_ne (by decide)]; exact w2083
            have w'69 : w'.1 69 = I ((p + 1 : Nat) : Int) := by rw [← hw', upI_ne (by decide)]; exact w20p.2.1
            have rw' : w'.2.2.1 = w18.2.2.1 := by rw [← hw']; exact r20
            clear hw'
            have rl : RLP m0 w0 T (p + 1) (upI (advc m p) 666 (m.1 666 + 1)) w' := by
              refine ⟨⟨fun k hk => by rw [upI_ne (by omega)]; unfold advc; rw [upI_ne (by omega)]; exact h.1.1 k hk, h.1.2⟩, ⟨fun k hk => by rw [iw' k (by rintro rfl; revert hk; decide) (by rintro rfl; revert hk; decide) (by rintro rfl; revert hk; decide)]; exact h.2.1.1 k hk, fun k hk => by rw [rw', r18 k (by rintro rfl; revert hk; decide) (by rintro rfl; revert hk; decide)]; exact h.2.1.2 k hk⟩, by rw [upI_ne (by decide)]; unfold advc; exact upI_at, w'69, hl, ?_, by rw [iw' 67 (by decide) (by decide) (by decide)]; exact h0⟩
              rw [upI_at, h.2.2.2.2.2.1, h70, w'70, i_suc]
            have rn' : RNs w' sc := RNs_e hR (iw' 65 (by decide) (by decide) (by decide)) (fun k h1 h2 => by rw [rw', r18 k (by omega) (by omega)])
            have nd' : ND w' := by
              obtain ⟨a, x, y⟩ := nd
              exact ⟨a, by rw [iw' 32 (by decide) (by decide) (by decide)]; exact x, y⟩
            have inner : ∀ t1 : Int32, t1 = I (kd : Nat) → PP R (bTm (hb_Pa_unit_69 N (hrc_Pa_matched N D) () (upI (advc m p) 666 (m.1 666 + 1)) (I (p : Nat)) t1) fC) ((gg_M_worked N (rc_M_behind N d) M).2 w' v1) := fun t1 ht1 => by
              unfold hb_Pa_unit_69
              rw [bTm_as]
              refine ih M (upI (advc m p) 666 (m.1 666 + 1)) w' (p + 1) n sc (o + 1) _ rl (by rw [upI_ne (by decide)]; unfold advc; rw [upI_ne (by decide)]; exact hn) (by omega) rn' nd' w'70 (by omega) (by rw [iw' 73 (by decide) (by decide) (by decide)]; exact hg) (fun M2 m2 ε w2 r k hE hU => ?_)
              obtain ⟨n2, μ, e1, e2, e3, hE2⟩ := un_ex (w := w) (kd := kd) hkd t4 hl hn2 hd h iw' (fun k h1 h2 => by rw [rw']; exact r18 k h1 h2) (fun k j hj => by rw [rw']; exact j18 k j hj) h83 ht w'83 hE
              have hU : ∃ t1' : Nat, w'.1 83 = I (t1' : Nat) ∧ t1' + k ≤ 3000 ∧ w2.1 83 = I ((t1' + k : Nat) : Int) ∧ (∀ i, t1' ≤ i → i < t1' + k → w2.2.2.1 79 i = 7) ∧ ∃ δ : Nat, w'.1 70 = I (δ : Nat) ∧ δ + k ≤ 30 ∧ w2.1 70 = I ((δ + k : Nat) : Int) := by
                rcases hU with ⟨rfl, z1, z2⟩ | hU
                · exact ⟨t0 + 1, w'83, by omega, by rw [z1]; exact w'83, fun i i1 i2 => absurd i2 (by omega), o + 1 + 1, w'70, by omega, by rw [z2]; exact w'70⟩
                · exact hU
              obtain ⟨t1', u1, u2, u3, u4, δ, u5, u6, u7⟩ := hU
              have et : t1' = t0 + 1 := by
                have := u1.symm.trans w'83
                have := (I_eq (x := (t1' : Nat)) (y := ((t0 + 1 : Nat) : Int)) (by omega) (by omega) (by omega) (by omega)).mp this
                omega
              subst et
              have eδ : δ = o + 1 + 1 := by
                have := u5.symm.trans w'70
                have := (I_eq (x := (δ : Nat)) (y := ((o + 1 + 1 : Nat) : Int)) (by omega) (by omega) (by omega) (by omega)).mp this
                omega
              subst eδ
              rw [bnd_as, e1, ht1, add_e e2 e3, bnd_s, bTm_lt]
              refine l_lt ?_
              rw [bTm_l]
              refine hC M2 _ _ w2 r (k + 1) hE2 (Or.inr ⟨t0, h83, by omega, by rw [u3]; congr 2; omega, fun i i1 i2 => ?_, o + 1, h70, by omega, by rw [u7]; congr 2; omega⟩)
              by_cases z : i = t0
              · subst z
                obtain ⟨p2, n3, μ3, sc3, X, W, Rf, Zf, CL, a1, a2, a3, a4, -⟩ := hE
                have keep := a4.2.2.2.2.1.2.2.2.2.2.2.1.2.2.2.2 79 (by decide) (by decide) i (by rw [w'83, tnI (n := i + 1) rfl (by omega)]; omega)
                rw [bkW_r] at keep
                rw [keep, rw']; exact s18
              · exact u4 i (by omega) (by omega)
            rcases hkd with ⟨rfl, hK⟩ | ⟨rfl, hK⟩
            · rw [hK, show decide (I ((34 : Nat) : Int) = 34) = true from rfl, br_tq]
              exact inner 17 rfl
            · rw [hK, show decide (I ((14 : Nat) : Int) = 34) = false from rfl, br_fq]
              exact inner 18 rfl
          · have hm : ¬ (advc m p).1 666 < 25 := by
              unfold advc
              rw [upI_ne (by decide), h.2.2.2.2.2.1, h70, show (25 : Int32) = I ((25 : Nat) : Int) from rfl, I_lt (by omega) (by omega) (by omega) (by omega)]
              omega
            have hw25 : ¬ w20.1 70 < 25 := by
              rw [i20 70 (by decide) (by decide), h70, show (25 : Int32) = I ((25 : Nat) : Int) from rfl, I_lt (by omega) (by omega) (by omega) (by omega)]
              omega
            refine pp_rf (RFS_T (RFS_T (opens_x hc1 hm))) (fun mm => ?_)
            exact pk_bnd (pk_mo (opn_x hw25) (fun v _ z => pk_mo (wG2_f z) (fun _ _ y => hW _ _ _ _ y)))
      by_cases k34 : K p = 34
      · rw [decide_eq_true k34, br_tq, if_pos k34, show decide ((1 : Int32) = 0) = false from rfl, br_fq]
        exact pre 17 (Or.inl ⟨rfl, k34⟩)
      · rw [decide_eq_false k34, br_fq, if_neg k34, show decide ((0 : Int32) = 0) = true from rfl, br_tq]
        by_cases k14 : K p = 14
        · rw [decide_eq_true k14, br_tq, if_pos k14, show decide ((1 : Int32) = 0) = false from rfl, br_fq]
          exact pre 18 (Or.inr ⟨rfl, k14⟩)
        · rw [decide_eq_false k14, br_fq, if_neg k14, show decide ((0 : Int32) = 0) = true from rfl, br_tq]
          unfold fb_M_worked_109
          cases D with
          | zero => exact pp_nl
          | succ D =>
            show PP R (bTm (bTm (hm_Pa_primary N (hrc_Pa_matched N D) m) (fun u14 r14 => bTm (hm_Pa_applied N (hrc_Pa_matched N D) u14 r14) (fun u15 r15 => some (u15, .inl r15)))) fC) (bnd ((rc_M_behind N d).2.2.2.2.2.2.2.2.2.2.1 w) (fun u14 r14 => wkR N (rc_M_behind N d) M v1 u14 r14))
            have e : (fun (u14 : MS) (r14 : Int32) => bTm (hm_Pa_applied N (hrc_Pa_matched N D) u14 r14) (fun u15 r15 => some (u15, (.inl r15 : Int32 ⊕ Nat)))) = fun u r => hm_Pa_applied N (hrc_Pa_matched N D) u r := by
              funext u r
              exact bTm_id
            rw [e]
            refine pp_bTn (hP D m w p n sc gd o h hn hn2 hR nd h70 ho hg) (fun m2 ε w2 r2 q => ?_) (fun m2 kk w2 r2 q => pk_mo (wkR_f q) (fun _ _ y => hW _ _ _ _ y))
            obtain ⟨p2, n3, μ3, sc3, X, W, Rf, Zf, CL, a1, a2, a3, a4, a5⟩ := id q
            have wf := a4.2.2.2.2.1.2.2.2.2.2.2.1.1
            have e2 : bkW w w2 = w2 := by
              unfold bkW
              rw [upI_id (k := 83) (wf 83 (by decide)), upI_id (k := 70) (wf 70 (by decide))]
            exact hC M m2 ε w2 r2 0 (by rw [e2]; exact q) (Or.inl ⟨rfl, wf 83 (by decide), wf 70 (by decide)⟩)
end
