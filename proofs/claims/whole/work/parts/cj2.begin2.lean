/-! begin, both sides -/
set_option maxRecDepth 100000
section
variable {T : TYc} {Fv Fv' : Int64 → Int64 → Prop} {P : Int64 → Prop} {AN : Nat} {TT : TY} {CC : CY} {pM pE : Nat → Nat} {ND CN PN SN UN FN N PR f : Nat} {m w m2 : MS} {x : Int}
theorem bgX_fr : FR [3, 87, 118, 119, 120, 121, 125, 128, 149, 150] [] [89, 90, 92, 94, 95, 96, 97, 98, 99, 100, 101, 106, 108, 109, 110, 112, 113, 114, 115, 117, 132, 170] [111] w (bgX w f) := by
  have f1 : FR [3, 87, 118, 119, 120, 121, 125, 128, 149, 150] [] [89, 90, 92, 94, 95, 96, 97, 98, 99, 100, 101, 106, 108, 109, 110, 112, 113, 114, 115, 117, 132, 170] [111] w (bgW w) := FR.mo bgW_fr (by decide) (by decide) (by decide) (by decide)
  have f2 : FR [3, 87, 118, 119, 120, 121, 125, 128, 149, 150] [] [89, 90, 92, 94, 95, 96, 97, 98, 99, 100, 101, 106, 108, 109, 110, 112, 113, 114, 115, 117, 132, 170] [111] (bgW w) (npS (bgW w) 0) := FR.mo np_fr (by decide) (by decide) (by decide) (by decide)
  exact FR.wa (FR.wa (FR.tr f1 f2) (by decide)) (by decide)
theorem bgX_1 {k : Nat} (h : k ≠ 118) : (bgX w f).1 k = (bgW w).1 k := (np_fr (u := bgW w) (z := 0)).1 k (by simpa using h)
theorem bgX_n (hf : f < 1000) : NWw 0 0 ((f : Nat) : Int) (bgX w f) ∧ A (bgX w f) 89 0 = 0 := by
  constructor
  · refine nw_w (u := bgW w) (L := 0) (by omega) ?_ (fun K h1 h2 h3 h4 h5 h6 => ?_) ?_ ?_
    · unfold bgX
      rw [wa_rne (by omega), wa_sm (by omega) (by omega)]
    · unfold bgX
      rw [wa_21 h4, wa_21 h3]
    · unfold bgX
      rw [wa_rne (by omega), wa_rne (by omega), np_row (by decide), if_pos rfl]
      rfl
    · unfold bgX
      rw [wa_rne (by omega), wa_rne (by omega), np_fr0 (by decide), if_pos rfl]
      rfl
  · unfold bgX
    rw [wa_rne (by omega), wa_rne (by omega), np_row (by decide), if_pos rfl]
/-- what goes together behind begin -/
theorem bg_fq {PR2 : Nat} (per : PER Fv' AN TT CC pM pE ND CN PN SN UN FN w) (hf : f < 1000) (W2 : WRD T Fv P PR2 m2) (bm : BGm m m2 f) (rest : REST Fv' AN TT ND UN FN 1 (bgX w f)) (pro : TXz P (PWs AN) m w) (h442 : ((f : Nat) : Int) < F m 442) : FQs WTr 1 Fv P Fv' (PWs AN) m2 (bgX w f) ∧ TBz m2 (bgX w f) := by
  obtain ⟨⟨e, ee, nm⟩, h4, i1, r1, ⟨v42, v43, v44, v45, v46⟩, v50, v53, v55, v56⟩ := bm
  have ePR : PR2 = 1 := by
    have := W2.1.1.1.1
    omega
  subst ePR
  have g := bgX_fr (w := w) (f := f)
  obtain ⟨nw, a89⟩ := bgX_n (w := w) hf
  obtain ⟨-, -, w119, w120, w121, w125, w128, -, -⟩ := bgW_v (w := w)
  have u119 := (bgX_1 (w := w) (f := f) (k := 119) (by omega)).trans w119
  have u120 := (bgX_1 (w := w) (f := f) (k := 120) (by omega)).trans w120
  have u121 := (bgX_1 (w := w) (f := f) (k := 121) (by omega)).trans w121
  have u125 := (bgX_1 (w := w) (f := f) (k := 125) (by omega)).trans w125
  have u128 := (bgX_1 (w := w) (f := f) (k := 128) (by omega)).trans w128
  have per2 : PER Fv' AN TT CC pM pE ND CN PN SN UN FN (bgX w f) := PER_fr per g (by decide) (by decide)
  generalize bgX w f = w2 at *
  obtain ⟨⟨t1, t2, t3⟩, cn, ⟨fa, na, at1⟩, e442⟩ := pro
  have tt : FTs m2 w2 ∧ FAr m2 w2 ∧ FUs m2 w2 := TB_tab ⟨t1, t2, t3⟩ ⟨i1 442 (by omega), i1 449 (by omega)⟩ (fun K h => r1 K (by omega)) (fun K h => g.2.2.1 K (by unfold PRr at h; simp; omega)) (g.2.2.2 34 (by simp))
  have f442 : F m2 442 = F m 442 := congrArg Int32.toInt (i1 442 (by omega))
  obtain ⟨-, e2, c2, q1, q2, q3⟩ := tt.1 f (by rw [f442]; exact h442)
  have ee2 : e2 = e := by
    have : A m2 29 f = A m 29 f := by
      show (m2.2.2.1 29 f).toInt = _
      rw [r1 29 (by omega)]
      rfl
    omega
  subst ee2
  obtain ⟨pl, sc, wtr⟩ := new_al (b := fun _ _ _ => False) (s := 0) (c := c2) (H := []) nm nw rfl ⟨h4, a89⟩ (by omega) ISb_no (fun i h => absurd h (Nat.not_lt_zero i)) (Or.inl ⟨by omega, by rw [Int.toNat_natCast]; exact q2⟩) List.nodup_nil q3
  obtain ⟨d, wd, h149, h150⟩ := rest
  have sf : SFs Fv P Fv' (PWs AN) 1 m2 w2 := ⟨⟨W2.1, W2.2.1⟩, ⟨DW_mo PW_q d, wd.1, wd.2.1⟩, PB_mo PW_q (PQ_b per2.2.2.2.2.1 (by omega))⟩
  have pg : PG0 m w m2 w2 := ⟨⟨r1 23 (by omega), i1 22 (by omega), ATc_eq (r1 2 (by omega)) (r1 3 (by omega))⟩, fun K h => g.2.2.1 K (by unfold PRr at h; simp; omega), g.2.2.2 34 (by simp), g.2.2.1 12 (by simp), g.2.2.1 13 (by simp), g.1 14 (by simp)⟩
  have f0 : ∀ {u : MS} {k : Nat}, u.1 k = I 0 → F u k = 0 := fun h => by
    show (_ : Int32).toInt = 0
    rw [h]
    rfl
  have n9 : F m2 (pq 0 9) = 0 := nm.1.2.2.2.2.2.2
  have n109 : A w2 109 0 = 5 := nw.1.2.2.2.2.2.2
  refine ⟨⟨0, ⟨sf, ⟨0, v55, h150, fun k h => absurd h (Nat.not_lt_zero k), fun k l h => absurd h (Nat.not_lt_zero k)⟩, fun r hr => ?_, fun q a b a2 b2 h h1 h2 _ => WTr_st h h1 h2⟩, ⟨v56, v55⟩, ⟨h149, h150⟩, CN_pg cn pg per2.2.2.1, ⟨[], ⟨f0 v50, by simp, fun i x h => by simp at h⟩, ⟨f0 u125, by simp, fun i x h => by simp at h⟩, fun y h => by simp at h⟩⟩, tt, ⟨by rw [v53, u128], fun l hl => ?_⟩, ⟨⟨by rw [v44, u120], ?_⟩, by rw [v45, u121], by rw [v46, u119]⟩, fa, na, ATf_k at1 (i1 22 (by omega)) (r1 2 (by omega)) (r1 3 (by omega)) (g.1 14 (by simp)) (g.2.2.1 12 (by simp)) (g.2.2.1 13 (by simp))⟩
  · have r0 : r = 0 := by omega
    subst r0
    exact Or.inl ⟨by omega, by omega, _, _, _, _, _, pl, sc, wtr⟩
  · rw [f0 v53] at hl
    omega
  · rw [f0 u120]
    exact Int.le_refl _
/-- begin -/
theorem bg_pp {v : Int32} (W : WRD T Fv P PR m) (kep : KEP w) (per : F w 86 ≠ 0 → PER Fv' AN TT CC pM pE ND CN PN SN UN FN w) (e10 : F m 10 = 0 ↔ F w 86 = 0) (pro : F w 86 ≠ 0 → TXz P (PWs AN) m w) (hN : 60000 ≤ N) (okc : PK (fun m2 _ => ∃ PR2, WRD T Fv P PR2 m2) (hm_H_begin N m v)) : PP (RHb Fv P Fv' AN m w) (hm_H_begin N m v) (fm_M_begin N w v) := by
  obtain ⟨x, rfl, hx⟩ : ∃ x : Int, v = I x ∧ (-2147483648 ≤ x ∧ x < 2147483648) := ⟨v.toInt, I_of v, ti_rng v⟩
  have r86 := F_r w 86
  have r10 := F_r m 10
  have r52 := F_r w 52
  have d10 : decide (m.1 10 = 0) = decide (F m 10 = 0) := by
    rw [I_F (k := 10), lit0, decE r10.1 r10.2 (by omega) (by omega)]
  have d86 : decide (w.1 86 = 0) = decide (F w 86 = 0) := by
    rw [I_F (k := 86), lit0, decE r86.1 r86.2 (by omega) (by omega)]
  have d0 : decide (I x < 0) = decide (x < 0) := by
    rw [lit0, decL hx.1 hx.2 (by omega) (by omega)]
  have d52 : decide (I x < w.1 52) = decide (x < F w 52) := by
    rw [I_F (k := 52), decL hx.1 hx.2 r52.1 r52.2]
  have b0 : RHb Fv P Fv' AN m w m (Sum.inr 0) (wi w 3 1) () := Or.inr ⟨0, rfl, by omega, rfl, rfl⟩
  have b1 : RHb Fv P Fv' AN m w m (Sum.inr 1) (wi w 3 2) () := Or.inr ⟨1, rfl, by omega, rfl, rfl⟩
  have b2 : RHb Fv P Fv' AN m w m (Sum.inr 2) (wi w 3 3) () := Or.inr ⟨2, rfl, by omega, rfl, rfl⟩
  have f1 : fb_M_begin_42 N () w (I x) 1 = some (wi w 3 1, ()) := badb (x := 1) (Or.inl rfl)
  have f2 : fb_M_begin_42 N () w (I x) 2 = some (wi w 3 2, ()) := badb (x := 2) (Or.inr (Or.inl rfl))
  have f3 : fb_M_begin_42 N () w (I x) 3 = some (wi w 3 3, ()) := badb (x := 3) (Or.inr (Or.inr rfl))
  by_cases c : F w 86 = 0
  · unfold hm_H_begin hb_H_begin_0 fm_M_begin fb_M_begin_0
    rw [d10, d86, decide_eq_true c, br_t, decide_eq_true (e10.mpr c), br_t, f1]
    exact pp_2s b0
  have c10 : F m 10 ≠ 0 := fun z => c (e10.mp z)
  have p := per c
  have pr := pro c
  have e442 := pr.2.2.2
  by_cases cf : 0 ≤ x ∧ x < F w 52
  rotate_left
  · unfold hm_H_begin hb_H_begin_0 fm_M_begin fb_M_begin_0 fb_M_begin_24
    rw [d10, d86, decide_eq_false c, br_f, decide_eq_false c10, br_f, isF_e hx, bnd_so, if_neg (fun z => cf (by rw [← e442]; exact z.2)), show decide ((0 : Int32) = 0) = true from rfl, br_t, d0, d52, f2]
    by_cases z : x < 0
    · rw [decide_eq_true z, br_t]
      exact pp_2s b1
    · rw [decide_eq_false z, br_f, decide_eq_false (by omega), br_f]
      exact pp_2s b1
  obtain ⟨f, rfl⟩ : ∃ f : Nat, x = ((f : Nat) : Int) := ⟨x.toNat, by omega⟩
  have h442 : ((f : Nat) : Int) < F m 442 := by omega
  have fFN : f < FN := by
    have := p.1.1.2.2.2.2.2.1
    omega
  have fn := p.1.1.2.2.2.2.1
  obtain ⟨aa, rr, y1, y2, -⟩ := p.1.2.2.2.2.1 f fFN
  have y3 : A m 25 f = A w 48 f := pr.1.2.1 f h442
  by_cases ca : aa = 0
  rotate_left
  · unfold hm_H_begin hb_H_begin_0 fm_M_begin fb_M_begin_0 fb_M_begin_24
    have r25 := A_r m 25 f
    rw [d10, d86, decide_eq_false c, br_f, decide_eq_false c10, br_f, isF_e hx, bnd_so, if_pos ⟨c10, by omega, h442⟩, show decide ((1 : Int32) = 0) = false from rfl, br_f, d0, decide_eq_false (show ¬ ((f : Nat) : Int) < 0 by omega), br_f, d52, decide_eq_true (show ((f : Nat) : Int) < F w 52 from cf.2), br_t, f3]
    refine l_ck (fun _ => r_ck (fun _ => ?_))
    rw [tnI (n := f) rfl (by omega), I_A (k := 25), lit0, decE r25.1 r25.2 (by omega) (by omega), decide_eq_false (show ¬ A m 25 f = 0 by omega), br_f, I_A' y1, decI (by omega) (by omega) (by omega) (by omega), decide_eq_false (show ¬ ((aa : Nat) : Int) ≤ 0 by omega), br_f]
    exact pp_2s b2
  subst ca
  have h48 : A w 48 f = 0 := y1
  have eW := bg_w (N := N) c cf.2 (by omega) h48
  rw [eW]
  have rest : REST Fv' AN TT ND UN FN 1 (bgX w f) := by
    have g7 : FR [87] [] [] [] w (wi w 87 0) := FR.wi FR.rf (by simp)
    have e7 := bg_w (N := N) (w := wi w 87 0) (f := f) (by rw [wi_ne (by omega)]; exact c) (by rw [wi_ne (by omega)]; exact cf.2) (by omega) h48
    have := pk_ok (begin_ok (N := N) (w := wi w 87 0) (KEP_fr kep g7 (by simp) (by simp)) (fun _ => PER_fr p g7 (by decide) (by decide)) hN) _ _ e7
    rw [wi_87] at this
    rcases this with h | ⟨-, -, h, -⟩
    · exfalso
      have k1 : F (bgX w f) 87 = F (wi w 87 0) 87 := FR.F h (by simp)
      rw [wi_sm (by omega) (by omega)] at k1
      have k2 : F (bgX w f) 87 = 1 := (congrArg Int32.toInt (bgX_1 (by omega))).trans (bgW_v (w := w)).2.1
      omega
    · exact h
  intro m3 z w3 r e1 e2
  cases e2
  obtain ⟨hz, bm⟩ := bg_m W c10 h442 (by rw [y3]; exact h48) m3 z e1
  obtain ⟨PR2, W2⟩ := okc m3 z e1
  obtain ⟨fq, tb⟩ := bg_fq p (by omega) W2 bm rest pr h442
  exact Or.inl ⟨f, hz, rfl, bm, fq, tb, (congrArg Int32.toInt (bgX_1 (by omega))).trans (bgW_v (w := w)).1⟩
end
