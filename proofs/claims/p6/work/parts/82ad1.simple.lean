def XMT (u0 : MS) (TN SN : Nat) (bw : Nat → Nat) (D o : Int) (fn : MS → Int32 → Option (MS × Int32)) : Prop := ∀ (u w : MS) (σ sN : Nat) (p n q c f h wt g p2 n2 q2 c2 f2 h2 : Int), ST u0 σ p o n q c f h (sN : Int) wt g u → NM TN bw 0 1 1 σ p o n q c f h (sN : Int) wt → LGS σ u → ST u0 σ p2 o n2 q2 c2 f2 h2 ((sN : Int) + 1) wt g w → F w 67 = 0 → KPR σ u w → SVD σ sN u w → IS w 11 → p < p2 ∧ p2 ≤ TN → OK (fun v r => EXQ u0 TN SN bw σ (o - 1) p o n q c f h ((sN : Int) + 1) wt g u v r ∨ FEQ u0 TN σ D v r) (fn w (I p))
section
variable {u0 u v v1 w x y : MS} {N σ TN SN e sN : Nat} {bw : Nat → Nat} {p o n q c f h s wt g k t D d z l p1 p2 o1 n1 n2 q1' q2 c1 c2 f1 f2 h1 h2 : Int} {r y1 y2 y3 : Int32} {S : SG_M_behind} {i : Nat} {lv : Int}
theorem SVD_eq (a : SVD σ sN u v) (e : ∀ r i, r ∈ [74, 76] → A w r i = A v r i) : SVD σ sN u w := by
  obtain ⟨⟨a0, a1, a2, a3, a4, a5, a6, a7⟩, b⟩ := a
  unfold SVD
  simp only [e 74 _ (by decide), e 76 _ (by decide)]
  exact ⟨⟨a0, a1, a2, a3, a4, a5, a6, a7⟩, b⟩
theorem matched_ok (tk : TKW u0 TN SN bw) (hN : 20000 ≤ N) (hD : 0 ≤ D ∧ D ≤ 2900) (ho : 1 ≤ o ∧ o ≤ 25) (hb : XSP u0 TN SN bw D 3 0 0 0 o S.1) : XMT u0 TN SN bw (D + 10) o (fm_M_matched N S) := by
  intro u w σ sN p n q c f h wt g p2 n2 q2 c2 f2 h2 hu hm hl hw fw kw sv his hp
  have hT := tk.1.1
  have fs := NM_fs hm (by omega)
  have hσ : σ ≤ 26 := by omega
  have hs26 : sN ≤ 26 := by unfold NM at hm; omega
  have e69w : F w 69 = p2 := hw.2.1.1
  have e65w : F w 65 = σ := hw.2.1.2.2.2.2.2.2.2.2.2.2.2
  have e75w : F w 75 = 8 * (sN : Int) + 8 := by rw [hw.2.1.2.2.2.2.2.2.2.1]; omega
  have e77w : F w 77 = 54 * (sN : Int) + 54 := by rw [hw.2.1.2.2.2.2.2.2.2.2.1]; omega
  have u66 : F u 66 = 0 ∨ F u 66 = 1 := hu.2.2.1.2.2
  have hp2 : p2 < TN := tok_lt tk (by omega) (by have := (ST_IS hw his).1; omega)
  unfold fm_M_matched fb_M_matched_0
  refine ok_bnd.mpr (ok_mono (tback_0 (by omega) hσ hs26 e65w e75w e77w sv u66) (fun x1 _ hx1 => ?_))
  have s1 := TBF_ST hu hw kw hx1
  have k1 := TBF_KP hx1 kw
  have f1 : F x1 67 = 0 := (hx1.1.F (by decide)).trans fw
  have sv1 : SVD σ sN u x1 := SVD_eq sv (fun r i hr => by
    have : ∀ r, r ∈ [74, 76] → r ∉ [60, 63] := by decide
    exact hx1.1.A (this r hr))
  refine ok_lt.mpr (ok_lt.mpr ?_)
  rw [wi_e, clo1_e]
  have s2 := ST_cl (ST_69 (x := p) s1 ⟨by omega, by omega⟩) (by omega)
  have k2 : KPR σ u (clo1 (wi x1 69 p)) := KPR_w0 (KPR_w0 k1 (by decide)) (by decide)
  have f2 : F (clo1 (wi x1 69 p)) 67 = 0 := by rw [show F (clo1 (wi x1 69 p)) 67 = F (wi x1 69 p) 67 from wi_ne (by decide), wi_ne (by decide)]; exact f1
  have sv2 : SVD σ sN u (clo1 (wi x1 69 p)) := SVD_eq sv1 (fun _ _ _ => rfl)
  generalize clo1 (wi x1 69 p) = x2 at *
  have qb : 0 ≤ q ∧ 2 * q ≤ p := by unfold NM at hm; omega
  refine ok_bnd.mpr (ok_mono (patternAt_ok (d := D) tk (by omega) hσ (show 0 ≤ o - 1 ∧ o - 1 ≤ 25 by omega) x2 0 _ _ _ _ _ _ _ _ _ s2 f2 (by omega) (by omega) (by omega) fs.1) (fun x3 r3 hx3 => ok_lt.mpr ?_))
  rw [op1_e, I_F' e69w]
  have upF : ∀ z, OK (FEQ u0 TN σ D) z → OK (fun v r => EXQ u0 TN SN bw σ (o - 1) p o n q c f h ((sN : Int) + 1) wt g u v r ∨ FEQ u0 TN σ (D + 10) v r) z := fun z hz => ok_mono hz (fun _ _ y => Or.inr (FEQ_mo y (by omega)))
  rcases hx3 with ⟨c0, -, p5, q5, c2', c3, c4', c5, -, -, -⟩ | ⟨hx3, -⟩
  · have s4 := ST_op c2' (by omega)
    rw [show o - 1 + 1 = o by omega] at s4
    have k4 : KPR σ u (op1 x3) := KPR_w0 (KPR_tr k2 c3) (by decide)
    have f4 : F (op1 x3) 67 = 0 := (wi_ne (by decide)).trans c0
    have sv4 : SVD σ sN u (op1 x3) := SVD_eq (SVD_kp sv2 c3 (by rw [s2.2.1.2.2.2.2.2.2.2.1]; omega) (by rw [s2.2.1.2.2.2.2.2.2.2.2.1]; omega) hσ) (fun _ _ _ => rfl)
    generalize op1 x3 = x4 at *
    have e69 : F x4 69 = p5 := s4.2.1.1
    have e65 : F x4 65 = σ := s4.2.1.2.2.2.2.2.2.2.2.2.2.2
    have p5b : 0 ≤ p5 := by have := (PEND_b c5).1; omega
    refine k_F (y := 0) rfl ⟨by decide, by decide⟩ (fun _ => ?_) (fun z => absurd f4 z)
    rw [I_F' e69]
    refine k_eq ⟨by omega, by omega⟩ ⟨by omega, by omega⟩ (fun he => ?_) (fun _ => ?_)
    · subst he
      obtain ⟨K1, hK1⟩ : ∃ K1, N = (σ + 1) + 1 + K1 := ⟨N - (σ + 2), by omega⟩
      obtain ⟨K2, hK2⟩ : ∃ K2, K1 = (σ + 1) + 1 + K2 := ⟨K1 - (σ + 2), by omega⟩
      have hG : ∀ fu, fu = (σ + 1) + 1 + K1 → OK (fun v r => EXQ u0 TN SN bw σ (o - 1) p o n q c f h ((sN : Int) + 1) wt g u v r ∨ FEQ u0 TN σ (D + 10) v r) ((gg_M_matched N S fu).1 x4 (I p) (I p5) (I ((0 : Nat) : Int))) := fun fu hfu => by
        rw [hfu]
        refine mloop1 (K := K1) hσ (fun x5 fr5 h78 => ?_) e65 (σ + 1) 0 x4 (by omega) FR.rf (fun t ht => absurd ht (Nat.not_lt_zero _))
        have s5 := ST_78 s4 fr5
        have k5 : KPR σ u x5 := KPR_tr k4 (KPR_fr (is := []) (js := [78]) (FR.mo fr5 (fun _ z => z) (fun _ z => z) (fun _ z => z) (fun _ z => by cases z)) (by decide) (by decide))
        have sv5 : SVD σ sN u x5 := SVD_eq sv4 (fun r i hr => by
          have : ∀ r, r ∈ [74, 76] → r ∉ [78] := by decide
          exact fr5.A (this r hr))
        refine ok_bnd.mpr (ok_mono (tback_0 (by omega) hσ hs26 s5.2.1.2.2.2.2.2.2.2.2.2.2.2 (by rw [s5.2.1.2.2.2.2.2.2.2.1]; omega) (by rw [s5.2.1.2.2.2.2.2.2.2.2.1]; omega) sv5 u66) (fun x6 _ hx6 => ?_))
        have s6 := TBF_ST hu s5 k5 hx6
        have k6 := TBF_KP hx6 k5
        rw [lit0q, hK2]
        refine mloop2 (K := K2) hσ (fun x7 fr7 h63 => ?_) s6.2.1.2.2.2.2.2.2.2.2.2.2.2 (σ + 1) 0 x6 (by omega) FR.rf (fun t ht => absurd ht (Nat.not_lt_zero _))
        have a63 : ∀ t, t ≤ σ → A x7 63 t = A x4 63 t := fun t ht => by rw [h63 t ht, hx6.1.A (by decide), h78 t ht]
        have a60 : ∀ t, t ≤ σ → A x7 60 t = A u 60 t := fun t ht => by rw [fr7.A (by decide)]; exact (hx6.2.2 t ht).1
        have k60 : ∀ t, t < σ → A x4 60 t = A u 60 t := fun t ht => k4.2.2.1.2.2.1 t ht
        have sc : SCP (F u0 17) σ x7 := fun t ht => by
          obtain ⟨⟨g1, g2, g3, g4⟩, g5, g6, g7⟩ := s6.2.2.2.1 t ht
          obtain ⟨⟨d1, d2, d3, d4⟩, d5, d6, d7⟩ := s4.2.2.2.1 t ht
          rw [fr7.A (k := 60) (by decide), fr7.A (k := 64) (by decide), a63 t ht]
          refine ⟨⟨g1, g2, d3, d4.1, g4.2⟩, fun i hi => ?_, d6, fun i hi ht0 => ?_⟩
          · rw [fr7.A (by decide)]
            exact ⟨(g5 i hi).1, (g5 i hi).2.1, fun j hj => by rw [fr7.A (by decide)]; exact (g5 i hi).2.2 j hj⟩
          · have := d7 i hi ht0
            rw [fr7.A (k := 62) (by decide), hx6.1.A (by decide), fr5.A (by decide), a63 (t - 1) (by omega), a60 (t - 1) (by omega)]
            rw [k60 (t - 1) (by omega)] at this
            exact this
        have k7 : KPR σ u x7 := KPR_tr k6 (KPR_sc (FR.mo fr7 (by decide) (by decide) (by decide) (by decide)) (fun s i _ _ => fr7.A (by decide)) (fun r s i hr _ _ => fr7.A (by
            have : ∀ r, r ∈ [61, 62] → r ∉ [63] := by decide
            exact this r hr)) (fun s _ => fr7.A (by decide)) (fun s hs => ?_) (fun z => by rw [← fr7.F (k := 66) (by intro z; cases z)]; exact z))
        · have s7 := ST_sc s6 (FR.mo fr7 (by decide) (by decide) (by decide) (by decide)) sc (Or.inl (fr7.F (by intro z; cases z)))
          have f7 : F x7 67 = 0 := by
            rw [fr7.F (by intro z; cases z), hx6.1.F (by decide), fr5.F (by intro z; cases z)]; exact f4
          have l7 : LGS σ x7 := fun z => by
            rw [a60 σ (Nat.le_refl σ)]
            exact hl (k7.2.2.2.2.2.2 z)
          have fin : ∀ x8, FR [71, 72] [] [] [] x7 x8 → ST u0 σ p5 o n q c f h ((sN : Int) + 1) wt g x8 → KPR σ u x8 → (g = 0 ∨ F x8 72 ≠ 0) → OK (fun v r => EXQ u0 TN SN bw σ (o - 1) p o n q c f h ((sN : Int) + 1) wt g u v r ∨ FEQ u0 TN σ (D + 10) v r) (fb_M_matched_154 N S (gg_M_matched N S K2) x8 (I p) (I p5)) := fun x8 fr8 s8 k8 hg => by
            refine ok_mono (match154 tk (by omega) hD ho hb hu hm s8 ((fr8.F (by decide)).trans f7) k8 ((fr8.A (by intro z; cases z)).trans (a60 σ (Nat.le_refl σ))) (fun z => ?_) hg ⟨hp.1, hp2⟩ c5) (fun _ _ y => y.imp id (fun z => FEQ_mo z (by omega)))
            rw [fr8.A (by intro z; cases z)]
            exact l7 (by rw [← z]; exact (fr8.F (by decide)).symm)
          refine k_F (k := 73) (y := 0) rfl ⟨by decide, by decide⟩ (fun hg => ?_) (fun hg => ?_)
          · rw [s7.2.1.2.2.2.2.2.2.2.2.2.2.1] at hg
            exact fin x7 FR.rf s7 k7 (Or.inl hg)
          · refine k_rule (s := 7) (t := p5) rfl ⟨by decide, by decide⟩ (by decide) rfl (by omega) s7.2.2.1.1 (fun v1 g1 g2 g3 => ?_)
            exact fin v1 g1 (ST_rule s7 g1 g3) (KPR_rule k7 g1 g2) (Or.inr g2)
        · have h9 := k4.2.2.1.2.2.2 s hs
          rw [fr7.A (k := 60) (by decide), fr7.A (k := 64) (by decide), a63 s hs]
          refine ⟨Int.le_refl _, ?_, Int.le_refl _⟩
          rw [(hx6.2.2 s hs).2]
          exact h9.2.1
      have := hG N hK1
      rw [show ((0 : Nat) : Int) = 0 from rfl, ← lit0q] at this
      exact this
    · refine upF _ (match55 hT (by omega) (fun w2 fr2 g1 g2 => ?_))
      refine ⟨FR.tr s4.1 (FRP fr2 (by decide) (by decide) (by decide)), g1, ⟨g2.1, g2.2, by rw [fr2.F (k := 71) (by decide)]; exact s4.2.2.1.1⟩, ?_, ?_, ?_, fun t ht => ?_, K44_fr s4.2.2.2.2.1 fr2 (by decide)⟩
      · rw [fr2.F (by decide)]; exact e65
      · rw [fr2.F (by decide), s4.2.1.2.2.1]; omega
      · rw [fr2.F (by decide), s4.2.1.2.2.2.2.2.2.1]; exact fs.1
      · rw [fr2.A (by intro z; cases z)]
        have := (s4.2.2.2.1 t ht).1
        omega
  · have s4 : FSM u0 TN σ D (op1 x3) := FSM_wi hx3 (by decide)
    refine k_F (y := 0) rfl ⟨by decide, by decide⟩ (fun z => absurd z s4.2.1) (fun _ => ?_)
    exact upF _ (match55 hT (by omega) (fun w2 fr2 g1 g2 => FSM_re s4 fr2 g1 g2))
theorem save_st (hN : 5000 ≤ N) (hσ : σ ≤ 26) (hs : sN ≤ 26) (hu : ST u0 σ p o n q c f h (sN : Int) wt g u) : OK (fun v _ => ST u0 σ p o n q c f h ((sN : Int) + 1) wt g v ∧ KPR σ u v ∧ SVD σ sN u v ∧ FR [75, 77] [] [74, 76] [] u v) (fm_M_save N u) := by
  refine ok_mono (save_ok hN hσ hs hu.2.1.2.2.2.2.2.2.2.2.2.2.2 hu.2.1.2.2.2.2.2.2.2.1 hu.2.1.2.2.2.2.2.2.2.2.1 hu.2.2.1.2.2) (fun v _ hv => ?_)
  obtain ⟨a, a75, a77, a74, a76, sv⟩ := hv
  obtain ⟨b1, ⟨e1, e2, e3, e4, e5, e6, e7, e8, e9, e10, e11, e12⟩, ⟨b3, b4, b5⟩, b6, b7, b8⟩ := hu
  refine ⟨⟨FR.tr b1 (FRP a (by decide) (by decide) (by decide)), ⟨?_, ?_, ?_, ?_, ?_, ?_, ?_, by omega, by omega, ?_, ?_, ?_⟩, ⟨?_, b4, ?_⟩, SCP_fr b6 a (by decide), K44_fr b7 a (by decide), NGD_fr b8 a (by decide) (by decide)⟩, ?_, sv, a⟩
  all_goals try (rw [a.F (by decide)]; assumption)
  have g2 : ∀ r i, r ∉ [74, 76] → A v r i = A u r i := fun r i hr => a.A hr
  have m1 : ∀ r, r ∈ [23, 24, 25, 26, 27, 28, 29, 30, 31] → r ∉ [74, 76] := by decide
  have m2 : ∀ r, r ∈ [33, 35, 36, 37, 38] → r ∉ [74, 76] := by decide
  have m3 : ∀ r, r ∈ [40, 41, 42, 43, 45] → r ∉ [74, 76] := by decide
  have m4 : ∀ r, r ∈ [53, 54, 55] → r ∉ [74, 76] := by decide
  have m5 : ∀ r, r ∈ [61, 62] → r ∉ [74, 76] := by decide
  have m6 : ∀ r, r ∈ [79, 80, 81, 82] → r ∉ [74, 76] := by decide
  refine ⟨FRP a (by decide) (by decide) (by decide), ⟨fun r i h1 _ => g2 r i (m1 r h1), fun r i h1 _ => g2 r i (m2 r h1), fun r i h1 _ => g2 r i (m3 r h1), fun r i h1 _ => g2 r i (m4 r h1), fun i _ => g2 57 i (by decide)⟩, ⟨fun s i _ _ => g2 59 _ (by decide), fun r s i h0 _ _ => g2 r _ (m5 r h0), fun s _ => g2 60 s (by decide), fun s _ => ?_⟩, ⟨fun i hi => a74 i (by omega), fun i hi => a76 i (by omega), fun r i h1 _ => g2 r i (m6 r h1)⟩, ⟨?_, ?_, ?_, ?_, ?_, by omega, by omega, ?_⟩, ?_, ?_⟩
  · rw [g2 60 s (by decide), g2 63 s (by decide), g2 64 s (by decide)]; exact ⟨Int.le_refl _, Int.le_refl _, Int.le_refl _⟩
  all_goals rw [a.F (by decide)]
  all_goals first | exact Int.le_refl _ | exact id
theorem simp97_N {s2 : Int} (hs2 : s2 = (sN : Int)) (hu : ST u0 σ p o n q c f h (sN : Int) wt g u) (hw : EXQ u0 TN SN bw σ lv p o n q c f h ((sN : Int) + 1) wt g u w r) : OK (fun v r => EXQ u0 TN SN bw σ lv p o n q c f h s2 wt g u v r ∨ FEQ u0 TN σ D v r) (fb_M_simple_97 N S () w r) := by
  subst hs2
  obtain ⟨b0, p2, n2, q2, c2, f2, h2, e, b1, b2, b3, b4, b5, b6, b7, b8⟩ := hw
  unfold fb_M_simple_97
  rw [forget_e (s := sN) (by rw [b2.2.1.2.2.2.2.2.2.2.1]; omega) (by rw [b2.2.1.2.2.2.2.2.2.2.2.1]; omega), bnd_so]
  have fr : FR [75, 77] [] [] [] w (wi (wi w 75 (8 * (sN : Int))) 77 (54 * (sN : Int))) := FR.wi (FR.wi FR.rf (by decide)) (by decide)
  have rs : RG (8 * (sN : Int)) ∧ RG (54 * (sN : Int)) := by
    have h1 := F_r u 75
    have h2 := F_r u 77
    rw [hu.2.1.2.2.2.2.2.2.2.1] at h1
    rw [hu.2.1.2.2.2.2.2.2.2.2.1] at h2
    exact ⟨h1, h2⟩
  have kw : KPR σ u (wi (wi w 75 (8 * (sN : Int))) 77 (54 * (sN : Int))) := KPR_wi (KPR_wi b3 (by decide) (by rw [hu.2.1.2.2.2.2.2.2.2.1]; exact Int.le_refl _) rs.1) (by decide) (by rw [hu.2.1.2.2.2.2.2.2.2.2.1]; exact Int.le_refl _) rs.2
  have sw : ST u0 σ p2 o n2 q2 c2 f2 h2 (sN : Int) wt g (wi (wi w 75 (8 * (sN : Int))) 77 (54 * (sN : Int))) := by
    obtain ⟨d1, ⟨e1, e2, e3, e4, e5, e6, e7, e8, e9, e10, e11, e12⟩, ⟨d3, d4, d5⟩, d6, d7, d8⟩ := b2
    refine ⟨FR.tr d1 (FRP fr (by decide) (by decide) (by decide)), ⟨?_, ?_, ?_, ?_, ?_, ?_, ?_, ?_, wi_eq rs.2, ?_, ?_, ?_⟩, ⟨?_, d4, ?_⟩, SCP_fr d6 fr (by decide), K44_fr d7 fr (by decide), NGD_fr d8 fr (by decide) (by decide)⟩
    all_goals try (rw [fr.F (by decide)]; assumption)
    rw [wi_ne (by decide), wi_eq rs.1]
  refine ok_some.mpr (Or.inl ⟨(fr.F (by decide)).trans b0, p2, n2, q2, c2, f2, h2, e, b1, sw, kw, b4, b5, ⟨b6.1, b6.2.1, RTD_A b6.2.2.1 (fun r j _ => fr.A (by intro z; cases z)), (fr.A (by intro z; cases z)).trans b6.2.2.2⟩, fun z => ?_, fun z1 z2 z3 => ?_⟩)
  · rw [fr.A (by intro z; cases z)]; exact b7 (by rw [← z]; exact (fr.F (by decide)).symm)
  · have t := TYM_of b8 (by rw [← z1]; exact (fr.F (by decide)).symm) (by rw [← z2]; exact (fr.F (by decide)).symm) z3
    refine TYM_tr (wt := 0) (J := 0) t ?_ (fr_mks fr (by decide)) (by unfold nmo; rw [fr.A (by intro z; cases z)])
    exact TRN_fr (FR.mo fr (fun _ z => z) (fun _ z => z) (fun _ z => by cases z) (fun _ z => z)) (by decide) (fun r i hr _ => fr.A (by intro z; cases z))
theorem simp97_F (hw : FEQ u0 TN σ D w r) : OK (FEQ u0 TN σ D) (fb_M_simple_97 N S () w r) := by
  obtain ⟨a1, z, a2, a3⟩ := hw
  unfold fb_M_simple_97
  refine ok_bnd.mpr (ok_mono (forget_F a1) (fun v _ hv => ok_some.mpr ⟨hv.1, z, a2, a3.imp id (fun y => ⟨y.1, by rw [hv.2.2]; exact y.2.1, ?_⟩)⟩))
  show (v.2.2.1 28 z.toNat).toInt = -1
  rw [hv.2.1]
  exact y.2.2
end
