section
variable {u0 u v v1 w x : MS} {N σ TN SN e q0 q1 q2 q3 : Nat} {bw : Nat → Nat} {p o n q c f h s wt g lv xb xb1 xb2 k t D d y z l p1 o1 o2 n1 n2 q1' c1 f1 h1 κ : Int} {r y1 y2 y3 : Int32} {R R1 R2 : Nat → Prop} {M M0 M1 : Nat → Nat} {m m0 J i b : Nat} {S : SG_M_behind}
theorem work292_F (hT : TN ≤ 4000) (hf : FSM u0 TN σ D v) (h83 : 0 ≤ F v 83 ∧ F v 83 < 3000) (hp : F v 69 ≤ TN) : OK (WRQ u0 TN SN bw σ D p o n q c f h s wt g u) (fb_M_worked_292 N S (gg_M_worked N S (i + 1)) v y1 y2 y3) := by
  unfold fb_M_worked_292 fb_M_worked_331
  refine ok_lt.mpr (ok_lt.mpr ?_)
  have hp0 := hf.2.2.1
  rw [I_F (w := v) (k := 83), lit1q, I_add, wi_e]
  rw [← lit1q, nx1_e]
  have s1 : FSM u0 TN σ D (nx1 (wi v 83 (F v 83 + 1))) := by
    unfold nx1
    exact FSM_69 (FSM_wi hf (by decide)) (by rw [wi_ne (by decide)]; omega) hT
  exact k_F (y := 0) rfl ⟨by decide, by decide⟩ (fun z => absurd z s1.2.1) (fun _ => head_F s1)
theorem work269_F {y4 : Int32} (hT : TN ≤ 4000) (hf : FSM u0 TN σ D v) (h83 : 0 ≤ F v 83 ∧ F v 83 < 3000) (hp : F v 69 ≤ TN) (h71 : 0 ≤ F v 71 ∧ F v 71 < 4002) : OK (WRQ u0 TN SN bw σ D p o n q c f h s wt g u) (fb_M_worked_269 N S (gg_M_worked N S (i + 1)) v y1 y2 y3 y4) := by
  unfold fb_M_worked_269
  have hp0 := hf.2.2.1
  refine ok_br.mpr ⟨fun _ => work292_F hT hf h83 hp, fun _ => ok_br.mpr ⟨fun _ => ?_, fun _ => work292_F hT hf h83 hp⟩⟩
  refine k_rule (s := 7) (t := F v 69) rfl ⟨by decide, by decide⟩ (by decide) I_F (by omega) h71 (fun v1 h1 h2 h3 => ?_)
  exact work292_F hT (FSM_rule hf h1 h3) (by rw [h1.F (by decide)]; exact h83) (by rw [h1.F (by decide)]; exact hp)
theorem work189_F {l : Int} (hT : TN ≤ 4000) (hσ : σ ≤ 26) (hD : D ≤ 3000) (hf : FSM u0 TN σ D v) (h83 : 0 ≤ F v 83 ∧ F v 83 < 3000) (hp : F v 69 ≤ TN) (h71 : 0 ≤ F v 71 ∧ F v 71 < 4002) (hl : RG l) : OK (WRQ u0 TN SN bw σ (D + 1) p o n q c f h s wt g u) (fb_M_worked_189 N S (gg_M_worked N S (i + 1)) v y1 y2 y3 (I l)) := by
  unfold fb_M_worked_189
  have hp0 := hf.2.2.1
  refine k_at (k := 79) (n := 3000) rfl (by decide) h83 (ok_lt.mpr ?_)
  rw [I_of (vp_nar .byte _), wa_e]
  generalize (vp_nar .byte ((I l).toInt8.toInt32)).toInt = b1
  have sA : FSM u0 TN σ D (wa v 79 (v.1 83).toNatClampNeg b1) := FSM_wa hf (by decide)
  have cA : F (wa v 79 (v.1 83).toNatClampNeg b1) 83 = F v 83 ∧ F (wa v 79 (v.1 83).toNatClampNeg b1) 69 = F v 69 ∧ F (wa v 79 (v.1 83).toNatClampNeg b1) 71 = F v 71 := ⟨F_wa, F_wa, F_wa⟩
  generalize wa v 79 (v.1 83).toNatClampNeg b1 = xA at *
  refine k_at (k := 80) (n := 3000) rfl (by decide) (by omega) (ok_lt.mpr ?_)
  rw [I_of (vp_nar .short _), wa_e]
  generalize (vp_nar .short ((xA.1 69).toInt16.toInt32)).toInt = b2
  have s1 : FSM u0 TN σ D (wa xA 80 (xA.1 83).toNatClampNeg b2) := FSM_wa sA (by decide)
  have b83 : F (wa xA 80 (xA.1 83).toNatClampNeg b2) 83 = F v 83 := F_wa.trans cA.1
  have b69 : F (wa xA 80 (xA.1 83).toNatClampNeg b2) 69 = F v 69 := F_wa.trans cA.2.1
  have b71 : F (wa xA 80 (xA.1 83).toNatClampNeg b2) 71 = F v 71 := F_wa.trans cA.2.2
  generalize wa xA 80 (xA.1 83).toNatClampNeg b2 = x at *
  have n0 := s1.2.2.2.2.1
  have e65 : F x 65 = σ := s1.2.2.2.1
  have up : ∀ z, OK (WRQ u0 TN SN bw σ D p o n q c f h s wt g u) z → OK (WRQ u0 TN SN bw σ (D + 1) p o n q c f h s wt g u) z := fun z hz => ok_mono hz (fun _ _ y => y.imp id (fun y => ⟨FSM_mo y.1 (by omega), y.2⟩))
  have t243 : ∀ (t3 : Int32) (k : Int), vp_nar .byte (t3.toInt8.toInt32) = I k → 0 ≤ k ∧ k ≤ 31 → OK (WRQ u0 TN SN bw σ (D + 1) p o n q c f h s wt g u) (fb_M_worked_243 N S (gg_M_worked N S (i + 1)) x y1 y2 y3 (I l) 81 (x.1 83) t3) := fun t3 k h1 h2 => by
    unfold fb_M_worked_243
    refine k_node h1 h2 I_F (by omega) (by omega) (fun v7 hv7 => ?_)
    rw [show isK 81 4 = true by decide, ck_t]
    refine k_at (k := 81) (n := 3000) rfl (by decide) (by omega) (ok_lt.mpr ?_)
    rw [wa_e]
    have s7 : FSM u0 TN σ (D + 1) (wa v7 81 (x.1 83).toNatClampNeg (F x 32)) := FSM_wa (FSM_nd s1 hv7.1) (by decide)
    have c83 : F (wa v7 81 (x.1 83).toNatClampNeg (F x 32)) 83 = F v 83 := F_wa.trans ((hv7.1.1.F (by decide)).trans b83)
    have c69 : F (wa v7 81 (x.1 83).toNatClampNeg (F x 32)) 69 = F v 69 := F_wa.trans ((hv7.1.1.F (by decide)).trans b69)
    have c71 : F (wa v7 81 (x.1 83).toNatClampNeg (F x 32)) 71 = F v 71 := F_wa.trans ((hv7.1.1.F (by decide)).trans b71)
    generalize wa v7 81 (x.1 83).toNatClampNeg (F x 32) = x8 at *
    refine k_65 rfl s7.2.2.2.1 hσ (k_at (k := 82) (n := 3000) rfl (by decide) (by omega) (ok_lt.mpr ?_))
    rw [I_A (w := x8) (k := 60), wa_e]
    exact work269_F hT (FSM_wa s7 (by decide)) (by rw [F_wa]; omega) (by rw [F_wa]; omega) (by rw [F_wa]; omega)
  rw [show (3 : Int32) = I 3 from rfl, lit1q]
  refine k_le ⟨by decide, by decide⟩ hl (fun _ => up _ (work269_F hT s1 (by omega) (by omega) (by omega))) (fun _ => ?_)
  exact k_eq hl ⟨by decide, by decide⟩ (fun _ => t243 10 10 rfl (by decide)) (fun _ => t243 9 9 rfl (by decide))
theorem push_B (hw0 : 0 ≤ wt ∧ 0 ≤ n) (hw : WKB u0 TN σ bw κ b p o n q c f h s wt g u v p1 o1 n1 q1' c1 f1 h1 J) (hp1 : p1 < TN) (sw : ST u0 σ (p1 + 1) o2 n2 q1' c1 f1 h1 s (wt + (J + 1 : Nat)) g w) (f67 : F w 67 = 0) (kw : KPR σ u w) (wn : WKN bw 0 0 p o n q c f h wt (p1 + 1) o2 n2 q1' c1 f1 h1 (J + 1)) (rows : ∀ r i, r ∈ [79, 80, 81, 82] → (i : Nat) < wt + J → A w r i = A v r i) (nod : ∀ (r j : Nat), r ∈ [23, 28, 29] → (j : Int) < F v 32 → A w r j = A v r j) (h32 : F v 32 ≤ F w 32) (h66 : F w 66 = F v 66) (top : WEN u0 TN σ n u w (wt + J).toNat) (hc : o2 = o1 + (if A w 79 (wt + J).toNat = 7 then 1 else 0)) (hl : A w 60 σ = A v 60 σ) : WKB u0 TN σ bw 0 0 p o n q c f h s wt g u w (p1 + 1) o2 n2 q1' c1 f1 h1 (J + 1) := by
  obtain ⟨s0, f0, k0, hp, wn0, en, hoo, l0⟩ := hw
  refine ⟨sw, f67, kw, by omega, wn, fun i hi => ?_, ?_, fun z => by rw [hl]; exact l0 (by rw [← h66]; exact z)⟩
  · by_cases z : i = J
    · rw [z]; exact top
    · exact WEN_tr (en i (by omega)) (fun r hr => rows r _ hr (by omega)) nod h32 (fun z => by rw [← h66]; exact z) hw0.2
  · show o2 = o + (c7 w wt J + (if A w 79 (wt + J).toNat = 7 then 1 else 0))
    rw [hc, c7_tr J (fun i hi => rows 79 i (by decide) hi) hw0.1, hoo]
    omega
theorem k_begins2 {fn : MS → Option (MS × Int32)} {Q : MS → Int32 → Prop} (hp : 0 ≤ F u 69 ∧ F u 69 ≤ 4001) (a : OK Q (fn u)) (b : ∀ v, FR [67, 68] [] [] [] u v → F v 67 ≠ 0 → OK Q (fn v)) : OK Q (bnd (fm_M_beginsUnit N u) (fun u1 r1 => br (decide (r1 = 0)) (bnd (fm_M_wrong N u1 2) (fun u2 _ => fn u2)) (fn u1))) :=
  k_begins hp a (k_wrong (s := 2) rfl ⟨by decide, by decide⟩ (by decide) hp b)
theorem TRN_fr {is : List Nat} (a : FR is [] [79, 80, 81, 82] [] v w) (h14 : 14 ∉ is) (rows : ∀ r i, r ∈ [79, 80, 81, 82] → (i : Nat) < wt + J → A w r i = A v r i) : TRN σ wt J v w M := by
  have m1 : ∀ r, r ∈ [23, 24, 25, 26, 27, 28, 29, 30, 31] → r ∉ [79, 80, 81, 82] := by decide
  have m2 : ∀ r, r ∈ [40, 41, 42, 43, 45] → r ∉ [79, 80, 81, 82] := by decide
  have m3 : ∀ r, r ∈ [33, 35, 36, 37, 38] → r ∉ [79, 80, 81, 82] := by decide
  have m4 : ∀ r, r ∈ [53, 54, 55] → r ∉ [79, 80, 81, 82] := by decide
  refine ⟨a.F h14, ⟨fun r i hr _ => a.A (m1 r hr), fun r i hr _ => a.A (m2 r hr), fun r i hr _ => a.A (m3 r hr), fun r i hr _ => a.A (m4 r hr), fun i _ => a.A (by decide)⟩, ⟨?_, ?_⟩, rows⟩
  · unfold hlo; rw [a.A (by decide)]; exact Nat.le_refl _
  · rw [a.A (by decide)]; exact Int.le_refl _
theorem work45_N (tk : TKW u0 TN SN bw) (hD : 0 ≤ D) (hm : NM TN bw 0 1 0 σ p o n q c f h s wt) (hu : UB σ n wt u) (hw : WKA u0 TN SN σ bw p o n q c f h s wt g u v p1 o1 n1 q1' c1 f1 h1 J) (hp1 : p1 < TN) (hG : ∀ w, WKA u0 TN SN σ bw p o n q c f h s wt g u w (p1 + 1) (o1 + 1) n1 q1' c1 f1 h1 (J + 1) → OK (WRQ u0 TN SN bw σ D p o n q c f h s wt g u) ((gg_M_worked N S (i + 1)).2 w (I wt))) (hF : ∀ w, FSM u0 TN σ D w → OK (WRQ u0 TN SN bw σ D p o n q c f h s wt g u) ((gg_M_worked N S (i + 1)).2 w (I wt))) : OK (WRQ u0 TN SN bw σ D p o n q c f h s wt g u) (fb_M_worked_45 N S (gg_M_worked N S (i + 1)) v (I wt)) := by
  have hT := tk.1.1
  obtain ⟨hwb, ty⟩ := hw
  have nm1 := WKB_nm tk hm hwb (by omega)
  have fs1 := NM_fs nm1 (by omega)
  obtain ⟨s0, f0, k0, hp, wn, en, hoo, l0⟩ := id hwb
  have e83 : F v 83 = wt + J := s0.2.1.2.2.2.2.2.2.2.2.2.1
  have e69 : F v 69 = p1 := s0.2.1.1
  have hw0 : 0 ≤ wt ∧ 0 ≤ n := by unfold NM at hm; omega
  have wb : wt + J ≤ 2100 ∧ 0 ≤ o1 ∧ o1 ≤ 25 := by unfold NM at nm1; omega
  have bws := bw_mono tk (i := p1.toNat) (m := (p1 + 1).toNat) (by omega) (by omega)
  obtain ⟨ix, hix⟩ : ∃ ix : Nat, wt + J = ix := ⟨(wt + J).toNat, by omega⟩
  unfold fb_M_worked_45 fb_M_worked_102
  refine k_at (k := 79) (n := 3000) rfl (by decide) (by omega) (ok_lt.mpr ?_)
  rw [tn_F, e83, show vp_nar .byte 7 = I 7 from rfl, wa_e, hix, Int.toNat_natCast]
  have e83b : F (wa v 79 ix 7) 83 = wt + J := e83
  have e69b : F (wa v 79 ix 7) 69 = p1 := e69
  refine k_at (k := 80) (n := 3000) rfl (by decide) (by omega) (ok_lt.mpr ?_)
  rw [tn_F, e83b, I_F' e69b, nar_short (by omega), wa_e, hix, Int.toNat_natCast]
  refine ok_lt.mpr (ok_lt.mpr ?_)
  have e83c : F (wa (wa v 79 ix 7) 80 ix p1) 83 = wt + J := e83
  rw [I_F' e83c, lit1q, I_add, wi_e, ← lit1q, nx1_e]
  have s1 := ST_nx (ST_83 (x := wt + J + 1) (ST_wa (r := 80) (i := ix) (x := p1) (ST_wa (r := 79) (i := ix) (x := 7) s0 (by decide)) (by decide)) ⟨by omega, by omega⟩) (show 0 ≤ p1 ∧ p1 ≤ 4001 by omega)
  have kx : KPR σ u (nx1 (wi (wa (wa v 79 ix 7) 80 ix p1) 83 (wt + J + 1))) := KPR_w0 (KPR_wi (KPR_ww (KPR_ww k0 (by decide) (by rw [hu.2.1]; omega)) (by decide) (by rw [hu.2.1]; omega)) (by decide) (by rw [hu.2.1]; omega) ⟨by omega, by omega⟩) (by decide)
  have fr : FR [69, 83] [] [79, 80, 81, 82] [] v (nx1 (wi (wa (wa v 79 ix 7) 80 ix p1) 83 (wt + J + 1))) := FR.wi (FR.wi (FR.wa (FR.wa FR.rf (by decide)) (by decide)) (by decide)) (by decide)
  have rows : ∀ r i, r ∈ [79, 80, 81, 82] → (i : Nat) < wt + J → A (nx1 (wi (wa (wa v 79 ix 7) 80 ix p1) 83 (wt + J + 1))) r i = A v r i := fun r i _ hi => by
    show A (wa (wa v 79 ix 7) 80 ix p1) r i = _
    rw [wa_ne (by omega), wa_ne (by omega)]
  have a79 : A (nx1 (wi (wa (wa v 79 ix 7) 80 ix p1) 83 (wt + J + 1))) 79 ix = 7 := by
    show A (wa (wa v 79 ix 7) 80 ix p1) 79 ix = _
    rw [wa_rne (by decide), wa_eq ⟨by decide, by decide⟩]
  have a80 : A (nx1 (wi (wa (wa v 79 ix 7) 80 ix p1) 83 (wt + J + 1))) 80 ix = p1 := wa_eq ⟨by omega, by omega⟩
  have mk : mks (nx1 (wi (wa (wa v 79 ix 7) 80 ix p1) 83 (wt + J + 1))) = mks v := fr_mks fr (by decide)
  have e69x : F (nx1 (wi (wa (wa v 79 ix 7) 80 ix p1) 83 (wt + J + 1))) 69 = p1 + 1 := s1.2.1.1
  generalize nx1 (wi (wa (wa v 79 ix 7) 80 ix p1) 83 (wt + J + 1)) = x at *
  have fx : F x 67 = 0 := (fr.F (by decide)).trans f0
  have e70x : F x 70 = o1 := s1.2.1.2.1
  have fin : ∀ w, OPN x w → OK (WRQ u0 TN SN bw σ D p o n q c f h s wt g u) ((gg_M_worked N S (i + 1)).2 w (I wt)) := fun w hw => by
    have sw := OPN_ST s1 (by omega) hw
    have aw : ∀ r i, A w r i = A x r i := fun r i => OPN_A hw
    have f66 := OPN_66 hw
    have kw : KPR σ x w := OPN_KP hw
    rcases OPN_67 fx hw with ⟨g0, g1, g2⟩ | ⟨g0, g1⟩
    · have mw : mks w = mks v := by rw [g2, op1_mks]; exact mk
      refine hG w ⟨push_B hw0 hwb hp1 (by rw [show wt + ((J + 1 : Nat) : Int) = wt + J + 1 by omega]; exact sw) g0 (KPR_tr kx kw) (by unfold WKN at wn ⊢; omega) (fun r i hr hi => by rw [aw]; exact rows r i hr hi) (fun r j hr _ => ?_) ?_ (f66.trans (fr.F (by decide))) (Or.inl ?_) ?_ ?_, fun z1 z2 z3 => ?_⟩
      · have : ∀ r, r ∈ [23, 28, 29] → r ∉ [79, 80, 81, 82] := by decide
        rw [aw, fr.A (this r hr)]
      · have : F w 32 = n1 := sw.2.1.2.2.1
        have : F v 32 = n1 := s0.2.1.2.2.1
        omega
      · rw [hix, Int.toNat_natCast, aw, aw, a79, a80]; exact ⟨rfl, by omega, by omega⟩
      · rw [hix, Int.toNat_natCast, aw, a79, if_pos rfl]
      · rw [aw, fr.A (by decide)]
      · have f72 : F w 72 = F v 72 := by
          rw [g2, show F (op1 x) 72 = F x 72 from wi_ne (by decide)]; exact fr.F (by decide)
        obtain ⟨ps, t1, t2⟩ := ty (by rw [← f72]; exact z1) (by rw [← fr.F (k := 66) (by decide), ← f66]; exact z2) z3
        have tr : TRN σ wt J v w (mks v) := TRN_tr (TRN_fr fr (by decide) rows) (by rw [g2]; exact TRN_wi (by decide))
        have nw : nmo σ w = nmo σ v := by unfold nmo; rw [aw, fr.A (by decide)]
        refine ⟨p1 + 1, ⟨mks v, nmo σ v, ps, STK_tr J _ _ ps t1 hw0.1 tr, fun i => by rw [mw]; exact Nat.le_refl _, Or.inl ⟨?_, mw, nw, by omega⟩⟩, Int.le_refl _⟩
        rw [hix, Int.toNat_natCast, aw, a79]
    · exact hF w (FSM_of sw (by omega) (by omega) fs1.1 g0)
  refine k_begins2 (fn := fun w => bnd (fm_M_opens N w) (fun u16 _ => (gg_M_worked N S (i + 1)).2 u16 (I wt))) (by omega) (k_opens2 (by omega) fin) (fun v1 g1 g2 => ?_)
  refine k_opens2 (by rw [g1.F (by decide)]; omega) (fun w hw => hF w ?_)
  have sw := OPN_ST (ST_67 s1 g1) (by omega) hw
  refine FSM_of sw (by omega) (by omega) fs1.1 ?_
  rcases hw with ⟨-, a⟩ | ⟨-, v2, a1, a2, a⟩
  · rw [a, show F (op1 v1) 67 = F v1 67 from wi_ne (by decide)]; exact g2
  · rw [a, show F (op1 v2) 67 = F v2 67 from wi_ne (by decide)]; exact a2
end
