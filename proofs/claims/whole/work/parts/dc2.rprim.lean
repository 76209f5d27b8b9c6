/-! a PATTERN that is read as an E, here alone: primary(), worked() -/
set_option maxRecDepth 100000
section
variable {α β : Type} {m0 w0 m w m2 w2 m3 w3 v u w1 : MS} {K nm Nk W W2 : Nat → Nat} {N T D d o b c q r s lo mid hi i j f f2 n k kk p p2 σ tk x xa xb xc M M1 M2 y : Nat} {Q Q2 Q3 : Nat → Nat} {sc sc0 sc2 sc3 t t2 : SCT} {e e2 : List Nat × List Nat × Nat} {g lst own : Bool} {rt v1 v2 v3 v4 v5 t0 xx : Int32} {RR : MS → α → MS → β → Prop} {RX : MS → α → MS → Int32 → Prop} {A' : Option (MS × α)} {m1 lv : Nat} {L L1 L2 : List Nat} {S : SG_M_behind}
/-- worked() at a sign ahead of a unit -/
theorem w2_sgn2 {S : SG_M_behind} {v1 : Int32} (c : CTZ m0 w0 K T nm Nk) (hR : XRS w0 T w lo Q sc) (hp : Q 83 = p) (hk : K lo = 14 ∨ K lo = 34) (h : ∀ M u, p < 3000 → XRS w0 T u (lo + 1) (qst Q 83 (p + 1)) sc → QRR Q w u → u.2.2.1 62 = w.2.2.1 62 → u.2.2.1 79 p = 7 → u.2.2.1 80 p = I (lo : Nat) → PP RX A' ((kg_M_worked N S M).2 u v1)) : PP RX A' ((kg_M_worked N S M).2 w v1) := by
  have t4 := c.2.1.1.1
  have hl : lo < T := c.2.1.1.lt hR.1.2.1.2 (by omega) (by omega)
  have h83 : w.1 83 = I (p : Nat) ∧ p ≤ 24000 := by have := hR.2 83 (by decide); rw [hp] at this; exact this
  cases M with
  | zero => exact pp_nr
  | succ M =>
    have hw := XRS_wp c hR
    have e45 : PP RX A' (kb_M_worked_45 N S (kg_M_worked N S M) w v1) := by
      unfold kb_M_worked_45 kb_M_worked_102
      rw [h83.1, i_nt2 (p := p) (by omega)]
      refine r_ck (fun zp => r_lt ?_)
      have hp3 : p < 3000 := by
        have := (I_inb (n := ln 79) (x := ((p : Nat) : Int)) (by omega) (by omega)).mp zp
        have l79 : ln 79 = 3000 := rfl
        omega
      have e1 : ∀ gg, (upA w 79 gg).1 83 = I (p : Nat) := fun _ => h83.1
      have e2 : ∀ gg, (upA w 79 gg).1 69 = I (lo : Nat) := fun _ => hR.1.2.1.1
      rw [e1, e2, i_nt2 (p := p) (by omega), nsh (by omega)]
      refine r_ck (fun _ => r_lt (r_lt (r_lt ?_)))
      have e3 : (upA (upA w 79 (upd (w.2.2.1 79) p (vp_nar .byte 7))) 80 (upd ((upA w 79 (upd (w.2.2.1 79) p (vp_nar .byte 7))).2.2.1 80) p (I (lo : Nat)))).1 83 + 1 = I ((p + 1 : Nat) : Int) := by
        show w.1 83 + 1 = _
        rw [h83.1, i_suc]
      rw [e3]
      have hQ : QRR Q w (upI (upA (upA w 79 (upd (w.2.2.1 79) p (vp_nar .byte 7))) 80 (upd ((upA w 79 (upd (w.2.2.1 79) p (vp_nar .byte 7))).2.2.1 80) p (I (lo : Nat)))) 83 (I ((p + 1 : Nat) : Int))) := QRR_I (QRR_A (QRR_A QRR_rf (by decide) (by show Q 83 ≤ p; omega)) (by decide) (by show Q 83 ≤ p; omega))
      have r62 : (upI (upA (upA w 79 (upd (w.2.2.1 79) p (vp_nar .byte 7))) 80 (upd ((upA w 79 (upd (w.2.2.1 79) p (vp_nar .byte 7))).2.2.1 80) p (I (lo : Nat)))) 83 (I ((p + 1 : Nat) : Int))).2.2.1 62 = w.2.2.1 62 := by
        show (upA (upA w 79 _) 80 _).2.2.1 62 = _
        rw [upA_no (by decide), upA_no (by decide)]
      have r79 : (upI (upA (upA w 79 (upd (w.2.2.1 79) p (vp_nar .byte 7))) 80 (upd ((upA w 79 (upd (w.2.2.1 79) p (vp_nar .byte 7))).2.2.1 80) p (I (lo : Nat)))) 83 (I ((p + 1 : Nat) : Int))).2.2.1 79 p = 7 := by
        show (upA (upA w 79 _) 80 _).2.2.1 79 p = 7
        rw [upA_no (by decide), upA_at, upd_at]; rfl
      have r80 : (upI (upA (upA w 79 (upd (w.2.2.1 79) p (vp_nar .byte 7))) 80 (upd ((upA w 79 (upd (w.2.2.1 79) p (vp_nar .byte 7))).2.2.1 80) p (I (lo : Nat)))) 83 (I ((p + 1 : Nat) : Int))).2.2.1 80 p = I (lo : Nat) := by
        show (upA (upA w 79 _) 80 _).2.2.1 80 p = _
        rw [upA_at, upd_at]
      have hX : XRS w0 T (upI (upA (upA w 79 (upd (w.2.2.1 79) p (vp_nar .byte 7))) 80 (upd ((upA w 79 (upd (w.2.2.1 79) p (vp_nar .byte 7))).2.2.1 80) p (I (lo : Nat)))) 83 (I ((p + 1 : Nat) : Int))) lo (qst Q 83 (p + 1)) sc := by
        refine ⟨?_, QMK_st (w := upA (upA w 79 (upd (w.2.2.1 79) p (vp_nar .byte 7))) 80 (upd ((upA w 79 (upd (w.2.2.1 79) p (vp_nar .byte 7))).2.2.1 80) p (I (lo : Nat)))) hR.2 (by omega)⟩
        rw [qst_no (by decide)]
        exact PRS_x hR.1 (fun k hk => upI_ne (by rintro rfl; revert hk; decide)) (fun k hk => by
          show (upA (upA w 79 _) 80 _).2.2.1 k = _
          rw [upA_no (by omega), upA_no (by omega)]) (by rw [upI_ne (by decide)]; exact hR.1.2.1.1)
      generalize upI (upA (upA w 79 (upd (w.2.2.1 79) p (vp_nar .byte 7))) 80 (upd ((upA w 79 (upd (w.2.2.1 79) p (vp_nar .byte 7))).2.2.1 80) p (I (lo : Nat)))) 83 (I ((p + 1 : Nat) : Int)) = V at hQ r62 r79 r80 hX
      have e4 : V.1 69 + 1 = I ((lo + 1 : Nat) : Int) := by rw [hX.1.2.1.1, i_suc]
      rw [e4]
      have hA := XRS_ad hX hl
      rw [show upI V 69 (I ((lo + 1 : Nat) : Int)) = adv V lo from rfl, bU_m (XRS_wp c hA), bnd_s]
      cases bUK (K (lo + 1)) with
      | false =>
        rw [show decide (b2c false = 0) = true from rfl, br_t]
        exact pp_nr
      | true =>
        rw [show decide (b2c true = 0) = false from rfl, br_f]
        refine r_opens ?_
        exact h M _ hp3 (XRS_I (k := 70) hA (by decide) (by decide)) hQ r62 r79 r80
    show PP RX A' (kb_M_worked_20 N S (kg_M_worked N S M) w v1)
    unfold kb_M_worked_20
    rw [decide_eq_true hR.1.2.2.1, br_t, isS_e (k := 34) (s := 19) hw (by decide) rfl, bnd_s]
    rcases hk with hk | hk
    · rw [if_neg (by omega), show decide ((0 : Int32) = 0) = true from rfl, br_t, isV_e (k := 14) (s := 9) hw (by decide) rfl, if_pos hk, bnd_s, show decide ((1 : Int32) = 0) = false from rfl, br_f]
      exact e45
    · rw [if_pos hk, show decide ((1 : Int32) = 0) = false from rfl, br_f]
      exact e45
theorem ru_prim (c : CTZ m0 w0 K T nm Nk) (hR : XRS w0 T w lo Q sc) (hl : lo < T) (hnc : ¬ (K lo = 2 ∧ K (lo + 1) = 20)) (k20 : K hi ≠ 20) (hA : ∀ d, PK (fun v _ => RUX w0 T Q sc w hi v) (km_M_alone N (krc_M_behind N d) w (I (lo : Nat)))) : PK (fun v _ => RUX w0 T Q sc w hi v) (km_M_primary N (krc_M_behind N d) w) := by
  have t4 := c.2.1.1.1
  have hw := XRS_wp c hR
  have h69 := hR.1.2.1.1
  obtain ⟨-, b1, -⟩ := tkd_6 c hR
  have s1 : decide (w.2.2.1 6 lo = 1) = decide (K lo = 2) := srt_dc hw srK_1
  refine rv_pk (u := w0) ?_
  unfold km_M_primary kb_M_primary_0
  rw [decide_eq_true hR.1.2.2.1, br_tq, b1, s1, h69, i_suc, i_nt (p := lo + 1) (by omega)]
  have e122 : PP (fun (_ : MS) (_ : Unit) v (_ : Int32) => RUX w0 T Q sc w hi v) (some (w0, ())) (kb_M_primary_122 N (krc_M_behind N d) (kg_M_primary N (krc_M_behind N d) N) w (I (lo : Nat))) := by
    unfold kb_M_primary_122
    cases d with
    | zero => exact pp_nr
    | succ d =>
      refine r_bnd (pk_mo (hA d) (fun v rt hz => ?_))
      obtain ⟨Q2, sc2, hX⟩ := hz
      exact prim_end c hX.1 k20 (pp_end ⟨_, _, hX⟩)
  refine r_ck (fun _ => ?_)
  by_cases z : K lo = 2
  · rw [decide_eq_true z, br_tq]
    exact r_opn hw.1 (by omega) (fun y => absurd ⟨z, y⟩ hnc) (fun _ => e122)
  · rw [decide_eq_false z, br_fq]
    exact e122
/-- worked() at a PRIMARY -/
theorem ru_wk (c : CTZ m0 w0 K T nm Nk) (hR : XRS w0 T w lo Q sc) (k14 : K lo ≠ 14) (k34 : K lo ≠ 34) (hcl : rkK (K hi) = 0) (hP : ∀ d, PK (fun v _ => RUX w0 T Q sc w hi v) (km_M_primary N (krc_M_behind N d) w)) : PK (fun v _ => RUX w0 T Q sc w hi v) (km_M_worked N (krc_M_behind N d) w) := by
  refine rv_pk (u := w0) (wk_0 hR (fun M => w2_prim c hR k14 k34 (fun M => ?_)))
  unfold kb_M_worked_109
  cases d with
  | zero => exact pp_nr
  | succ d =>
  refine r_bnd (pk_mo (hP d) (fun v rt hz => ?_))
  obtain ⟨Q2, sc2, hX⟩ := hz
  show PP _ _ (br (decide (v.1 67 = 0)) (bnd (fm_M_level N v) (fun u15 r15 => kb_M_worked_129 N (krc_M_behind N (d + 1)) (kg_M_worked N (krc_M_behind N (d + 1)) M) u15 (I (Q 83 : Nat)) rt r15)) (kb_M_worked_129 N (krc_M_behind N (d + 1)) (kg_M_worked N (krc_M_behind N (d + 1)) M) v (I (Q 83 : Nat)) rt 0))
  refine wkg_e (XRS_wp c hX.1) hX.1.1.2.2.1 (fun M2 => ?_)
  have e83 : Q2 83 = Q 83 := hX.2.1.2.2.2.2
  have h83 := hX.1.2 83 (by decide)
  rw [e83] at h83
  rw [hcl]
  refine rdc_0 h83.1 h83.2 ?_
  unfold wkG
  rw [if_pos rfl]
  exact pp_end ⟨_, _, hX⟩
/-- worked() at - NUMBER -/
theorem ru_neg (c : CTZ m0 w0 K T nm Nk) (hR : XRS w0 T w lo Q sc) (h34 : K lo = 34) (k1 : K (lo + 1) = 1) (hcl : K (lo + 2) ≠ 20 ∧ rkK (K (lo + 2)) = 0) : PK (fun v _ => RUX w0 T Q sc w (lo + 2) v) (km_M_worked N (krc_M_behind N d) w) := by
  have t4 := c.2.1.1.1
  have hlo : lo ≤ T := hR.1.2.1.2
  refine rv_pk (u := w0) (wk_0 hR (fun M => w2_sgn2 c hR rfl (Or.inr h34) (fun M u hp3 hX hQ h62 h79 h80 => ?_)))
  refine w2_prim c hX (by omega) (by omega) (fun M => ?_)
  unfold kb_M_worked_109
  cases d with
  | zero => exact pp_nr
  | succ d =>
  have hl1 : lo + 1 < T := c.2.1.1.lt hX.1.2.1.2 (by omega) (by omega)
  refine r_bnd (pk_mo (ru_prim (d := d) (hi := lo + 2) c hX hl1 (by omega) hcl.1 (fun d => pk_mo (al_lfx c hX (by omega)) (fun v _ h => h.2))) (fun v rt hz => ?_))
  obtain ⟨Q2, sc2, hV⟩ := hz
  show PP _ _ (br (decide (v.1 67 = 0)) (bnd (fm_M_level N v) (fun u15 r15 => kb_M_worked_129 N (krc_M_behind N (d + 1)) (kg_M_worked N (krc_M_behind N (d + 1)) M) u15 (I (Q 83 : Nat)) rt r15)) (kb_M_worked_129 N (krc_M_behind N (d + 1)) (kg_M_worked N (krc_M_behind N (d + 1)) M) v (I (Q 83 : Nat)) rt 0))
  refine wkg_e (XRS_wp c hV.1) hV.1.1.2.2.1 (fun M2 => ?_)
  have q83 : qst Q 83 (Q 83 + 1) 83 = Q 83 + 1 := qst_at
  have e83 : Q2 83 = Q 83 + 1 := by have := hV.2.1.2.2.2.2; rw [q83] at this; exact this
  have h83 := hV.1.2 83 (by decide)
  rw [e83] at h83
  have kp := hV.2.1.1.2.1
  have e79 : v.2.2.1 79 (Q 83) = 7 := by rw [kp 79 (Q 83) (by decide) (by show Q 83 < qst Q 83 (Q 83 + 1) 83; omega)]; exact h79
  have e80 : v.2.2.1 80 (Q 83) = I (lo : Nat) := by rw [kp 80 (Q 83) (by decide) (by show Q 83 < qst Q 83 (Q 83 + 1) 83; omega)]; exact h80
  rw [hcl.2]
  refine redd_7 (tok := lo) (XRS_wp c hV.1).1 hlo hp3 h83.1 (Nat.le_refl _) e79 e80 (by decide) (Or.inr h34) (fun M' xx => ?_)
  rw [if_neg (by omega)]
  have hV1 : XRS w0 T (upI v 83 (I (Q 83 : Nat))) (lo + 2) (qst Q2 83 (Q 83)) sc2 := by
    refine ⟨?_, QMK_st hV.1.2 (by omega)⟩
    rw [qst_no (by decide)]
    exact PRS_x hV.1.1 (fun k hk => upI_ne (by rintro rfl; revert hk; decide)) (fun _ _ => rfl) (by rw [upI_ne (by decide)]; exact hV.1.1.2.1.1)
  have hV2 : RUQ w0 T Q sc w (lo + 2) (qst Q2 83 (Q 83)) sc2 (upI (upI v 83 (I (Q 83 : Nat))) 70 xx) := by
    refine ⟨XRS_I hV1 (by decide) (by decide), ⟨QRR_e (QRR_tr hQ hV.2.1.1 (QLE_st QLE_rf (by omega))) rfl rfl, fun k hk => ?_, ?_, ?_, qst_at⟩, hV.2.2.1, fun s j h1 h2 => (hV.2.2.2 s j h1 h2).trans (congrFun h62 _)⟩
    · by_cases z : k = 83
      · rw [z, qst_at]; exact Nat.le_refl _
      · rw [qst_no z]
        have := hV.2.1.2.1 k hk
        rw [qst_no z] at this
        exact this
    · rw [qst_no (by decide), hV.2.1.2.2.1, qst_no (by decide)]
    · rw [qst_no (by decide), hV.2.1.2.2.2.1, qst_no (by decide)]
  generalize upI (upI v 83 (I (Q 83 : Nat))) 70 xx = V at hV2
  obtain ⟨n1, n2⟩ := XRS_q hV2.1
  refine r_nod n1 n2 rfl (nsh (by omega)) (fun h16 => ?_)
  have hN := RUQ_nod (hi := lo + 2) hV2 (NOD_0 n1 (kd := 8) (tk := I (lo : Nat))) (by rw [nwD_i (by decide)]; exact hV2.1.1.2.1.1) hl1 h16
  have g83 : (nwD V (qst Q2 83 (Q 83) 32) 8 (I (lo : Nat))).1 83 = I (Q 83 : Nat) := by
    have := (hN.1.2 83 (by decide)).1
    exact this.trans (by rw [show qst (qst Q2 83 (Q 83)) 32 (qst Q2 83 (Q 83) 32 + 1) 83 = Q 83 from (qst_no (by decide)).trans qst_at])
  refine rdc_0 g83 (by omega) ?_
  unfold wkG
  rw [if_pos rfl]
  exact pp_end ⟨_, _, hN⟩
end
