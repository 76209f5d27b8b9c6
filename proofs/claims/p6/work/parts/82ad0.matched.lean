section
variable {Q : MS → Int32 → Prop} {u0 u v v1 w x y : MS} {N σ TN SN e sN : Nat} {bw : Nat → Nat} {p o n q c f h s wt g k t D d z l p1 p2 o1 n1 n2 q1' q2 c1 c2 f1 f2 h1 h2 : Int} {r y1 y2 y3 : Int32} {S : SG_M_behind} {i : Nat}
theorem mks_st {p3 o3 s3 w3 g3 : Int} (a : ST u0 σ p o n q c f h s wt g u) (b : ST u0 σ p3 o3 n q c f h s3 w3 g3 x) : mks x = mks u := by
  obtain ⟨-, ⟨-, -, a1, a2, a3, a4, a5, -⟩, -⟩ := a
  obtain ⟨-, ⟨-, -, b1, b2, b3, b4, b5, -⟩, -⟩ := b
  funext i
  unfold mks
  by_cases z : i = 0
  · rw [if_pos z, a1, b1]
  · rw [if_neg z]
    by_cases z1 : i = 1
    · rw [if_pos z1, a3, b3]
    · rw [if_neg z1]
      by_cases z2 : i = 2
      · rw [if_pos z2, a2, b2]
      · rw [if_neg z2]
        by_cases z3 : i = 3
        · rw [if_pos z3, a4, b4]
        · rw [if_neg z3, a5, b5]
theorem ST_78 (hs : ST u0 σ p o n q c f h s wt g u) (a : FR [] [] [78] [] u v) : ST u0 σ p o n q c f h s wt g v := by
  obtain ⟨b1, e, b2, b6, b7, b8⟩ := hs
  have ef : ∀ k, F v k = F u k := fun k => a.F (by intro z; cases z)
  refine ⟨FR.tr b1 (FRP a (by decide) (by decide) (by decide)), ?_, ?_, SCP_fr b6 a (by decide), K44_fr b7 a (by decide), NGD_fr b8 a (by decide) (by decide)⟩
  · simp only [ef]; exact e
  · simp only [ef]; exact b2
theorem FSM_re (hs : FSM u0 TN σ D v) (a : FR [67, 68, 69] [] [] [] v w) (h67 : F w 67 ≠ 0) (h69 : 0 ≤ F w 69 ∧ F w 69 ≤ TN + 1) : FSM u0 TN σ D w := by
  obtain ⟨g1, g2, g3, g4, g5, g6, g7, g8⟩ := hs
  refine ⟨FR.tr g1 (FRP a (by decide) (by decide) (by decide)), h67, ⟨h69.1, h69.2, by rw [a.F (k := 71) (by decide)]; exact g3.2.2⟩, ?_, ?_, ?_, fun s hs => ?_, K44_fr g8 a (by decide)⟩
  · rw [a.F (by decide)]; exact g4
  · rw [a.F (by decide)]; exact g5
  · rw [a.F (by decide)]; exact g6
  · rw [a.A (by decide)]; exact g7 s hs
theorem match55 {G : (MS → Int32 → Int32 → Int32 → Option (MS × Int32)) × (MS → Int32 → Int32 → Int32 → Option (MS × Int32))} (hT : TN ≤ 4000) (hp : 0 ≤ p2 ∧ p2 ≤ TN) (hs : ∀ w, FR [67, 68, 69] [] [] [] v w → F w 67 ≠ 0 → 0 ≤ F w 69 ∧ F w 69 ≤ TN + 1 → FSM u0 TN σ D w) : OK (FEQ u0 TN σ D) (fb_M_matched_55 N S G v (I p2)) := by
  unfold fb_M_matched_55
  refine ok_lt.mpr (ok_lt.mpr ?_)
  rw [lit0q, wi_e, wi_e]
  have e69 : F (wi (wi v 67 0) 69 p2) 69 = p2 := wi_eq ⟨by omega, by omega⟩
  have fr : FR [67, 68, 69] [] [] [] v (wi (wi v 67 0) 69 p2) := FR.wi (FR.wi FR.rf (by decide)) (by decide)
  refine k_wrong (s := 2) rfl ⟨by decide, by decide⟩ (by decide) (by omega) (fun v1 g1 g2 => ok_some.mpr (FEQ_none (hs v1 (FR.tr fr (FR.mo g1 (by decide) (by decide) (by decide) (by decide))) g2 ?_)))
  rw [g1.F (by decide), e69]; omega
theorem mloop1 {K : Nat} (hσ : σ ≤ 26) (hK : ∀ v', FR [] [] [78] [] v v' → (∀ t, t ≤ σ → A v' 78 t = A v 63 t) → OK Q (bnd (fm_M_takeBack N v') (fun u12 _ => (gg_M_matched N S K).2 u12 y1 y2 0))) (h65 : F v 65 = σ) : ∀ (j i : Nat) (v' : MS), i + j = σ + 1 → FR [] [] [78] [] v v' → (∀ t, t < i → A v' 78 t = A v 63 t) → OK Q ((gg_M_matched N S (j + 1 + K)).1 v' y1 y2 (I (i : Int))) := by
  intro j
  induction j with
  | zero =>
    intro i v' hi fr ht
    rw [show 0 + 1 + K = K + 1 by omega]
    show OK Q (fb_M_matched_75 N S (gg_M_matched N S K) v' y1 y2 (I (i : Int)))
    unfold fb_M_matched_75
    rw [I_F' ((fr.F (k := 65) (by intro z; cases z)).trans h65)]
    exact k_lt ⟨by omega, by omega⟩ ⟨by omega, by omega⟩ (fun _ => hK v' fr (fun t ht2 => ht t (by omega))) (fun z => by omega)
  | succ j ih =>
    intro i v' hi fr ht
    rw [show j + 1 + 1 + K = (j + 1 + K) + 1 by omega]
    show OK Q (fb_M_matched_75 N S (gg_M_matched N S (j + 1 + K)) v' y1 y2 (I (i : Int)))
    unfold fb_M_matched_75
    rw [I_F' ((fr.F (k := 65) (by intro z; cases z)).trans h65)]
    refine k_lt ⟨by omega, by omega⟩ ⟨by omega, by omega⟩ (fun z => by omega) (fun _ => ?_)
    have ti : (I (i : Int)).toNatClampNeg = i := by rw [I_tn (by omega) (by omega)]; omega
    refine k_in (k := 63) (n := 27) rfl (by decide) (by omega) (k_in (k := 78) (n := 27) rfl (by decide) (by omega) (ok_lt.mpr ?_))
    rw [ti, I_A' (fr.A (k := 63) (i := i) (by decide)), wa_e, lit1q, I_add, show (i : Int) + 1 = ((i + 1 : Nat) : Int) from by omega]
    refine ih (i + 1) _ (by omega) (FR.wa fr (by decide)) (fun t h1 => ?_)
    by_cases z : t = i
    · rw [z, wa_eq (ARG1 v 63 i)]
    · rw [wa_ne z]; exact ht t (by omega)
theorem mloop2 {K : Nat} (hσ : σ ≤ 26) (hK : ∀ v', FR [] [] [63] [] v v' → (∀ t, t ≤ σ → A v' 63 t = A v 78 t) → OK Q (br (decide ((v'.1 73) = 0)) (fb_M_matched_154 N S (gg_M_matched N S K) v' y1 y2) (bnd (fm_M_rule N v' 7 y2) (fun u10 _ => fb_M_matched_154 N S (gg_M_matched N S K) u10 y1 y2)))) (h65 : F v 65 = σ) : ∀ (j i : Nat) (v' : MS), i + j = σ + 1 → FR [] [] [63] [] v v' → (∀ t, t < i → A v' 63 t = A v 78 t) → OK Q ((gg_M_matched N S (j + 1 + K)).2 v' y1 y2 (I (i : Int))) := by
  intro j
  induction j with
  | zero =>
    intro i v' hi fr ht
    rw [show 0 + 1 + K = K + 1 by omega]
    show OK Q (fb_M_matched_111 N S (gg_M_matched N S K) v' y1 y2 (I (i : Int)))
    unfold fb_M_matched_111
    rw [I_F' ((fr.F (k := 65) (by intro z; cases z)).trans h65)]
    exact k_lt ⟨by omega, by omega⟩ ⟨by omega, by omega⟩ (fun _ => hK v' fr (fun t ht2 => ht t (by omega))) (fun z => by omega)
  | succ j ih =>
    intro i v' hi fr ht
    rw [show j + 1 + 1 + K = (j + 1 + K) + 1 by omega]
    show OK Q (fb_M_matched_111 N S (gg_M_matched N S (j + 1 + K)) v' y1 y2 (I (i : Int)))
    unfold fb_M_matched_111
    rw [I_F' ((fr.F (k := 65) (by intro z; cases z)).trans h65)]
    refine k_lt ⟨by omega, by omega⟩ ⟨by omega, by omega⟩ (fun z => by omega) (fun _ => ?_)
    have ti : (I (i : Int)).toNatClampNeg = i := by rw [I_tn (by omega) (by omega)]; omega
    refine k_in (k := 78) (n := 27) rfl (by decide) (by omega) (k_in (k := 63) (n := 27) rfl (by decide) (by omega) (ok_lt.mpr ?_))
    rw [ti, I_A' (fr.A (k := 78) (i := i) (by decide)), wa_e, lit1q, I_add, show (i : Int) + 1 = ((i + 1 : Nat) : Int) from by omega]
    refine ih (i + 1) _ (by omega) (FR.wa fr (by decide)) (fun t h1 => ?_)
    by_cases z : t = i
    · rw [z, wa_eq (ARG1 v 78 i)]
    · rw [wa_ne z]; exact ht t (by omega)
theorem PTT_PAT {a b m m2 L : Nat} (hh : PTT w SN a b m m2 L) : PAT w id id b SN L m m2 ((a : Nat) : Int) := by
  obtain ⟨pM, pE, g1, g2, g3, g4, g5, g6⟩ := hh
  exact ⟨a, pM, pE, rfl, by omega, by omega, g3, by rw [g1]; exact g4, fun k k1 k2 => g5 k k1 (by omega), fun k k1 k2 => g6 k k1 (by omega)⟩
theorem match154 {G : (MS → Int32 → Int32 → Int32 → Option (MS × Int32)) × (MS → Int32 → Int32 → Int32 → Option (MS × Int32))} (tk : TKW u0 TN SN bw) (hN : 5000 ≤ N) (hD : 0 ≤ D ∧ D ≤ 2900) (ho : 1 ≤ o ∧ o ≤ 25) (hb : XSP u0 TN SN bw D 3 0 0 0 o S.1) (hu : ST u0 σ p o n q c f h s wt g u) (hm : NM TN bw 0 1 1 σ p o n q c f h s wt) (sx : ST u0 σ p1 o n q c f h (s + 1) wt g x) (fx : F x 67 = 0) (kx : KPR σ u x) (a60 : A x 60 σ = A u 60 σ) (lx : LGS σ x) (hg : g = 0 ∨ F x 72 ≠ 0) (hp : p < p2 ∧ p2 < TN) (pe : PEND u0 p.toNat p2.toNat) : OK (fun v r => EXQ u0 TN SN bw σ (o - 1) p o n q c f h (s + 1) wt g u v r ∨ FEQ u0 TN σ (D + 5) v r) (fb_M_matched_154 N S G x (I p) (I p2)) := by
  have hT := tk.1.1
  have fs := NM_fs hm (by omega)
  have hσ : σ ≤ 26 := by omega
  unfold fb_M_matched_154
  refine ok_lt.mpr ?_
  rw [lit1q, I_add, wi_e, ← lit1q]
  have s9 := ST_69 (x := p2 + 1) sx ⟨by omega, by omega⟩
  have k9 : KPR σ u (wi x 69 (p2 + 1)) := KPR_w0 kx (by decide)
  have f9 : F (wi x 69 (p2 + 1)) 67 = 0 := (wi_ne (by decide)).trans fx
  have m9 : mks (wi x 69 (p2 + 1)) = mks u := mks_st hu s9
  have n9 : nmo σ (wi x 69 (p2 + 1)) = nmo σ u := by unfold nmo; rw [A_wi, a60]
  have l9 : LGS σ (wi x 69 (p2 + 1)) := fun z => lx (by rw [← z]; exact (wi_ne (by decide)).symm)
  have f72 : F (wi x 69 (p2 + 1)) 72 = F x 72 := wi_ne (by decide)
  have bw1 := bw_mono tk (i := p.toNat) (m := (p2 + 1).toNat) (by omega) (by omega)
  have bw2 := bw_top tk (i := (p2 + 1).toNat) (by omega)
  have nm9 : NM TN bw 3 0 0 σ (p2 + 1) o n q c f h (s + 1) wt := by unfold NM at hm ⊢; omega
  generalize wi x 69 (p2 + 1) = x9 at *
  refine ok_bnd.mpr (ok_mono (hb x9 σ _ _ _ _ _ _ _ _ _ s9 f9 nm9 l9) (fun y r hy => ?_))
  rw [show o - 0 = o by omega] at hy
  rcases hy with ⟨b0, p4, n4, q4, c4, f4, h4, e, b1, b2, b3, b4, b5, b6, b7, b8⟩ | hy
  · refine k_F (y := 0) rfl ⟨by decide, by decide⟩ (fun _ => ?_) (fun z => absurd b0 z)
    have nm4 := NM_dlt tk nm9 b5 (by omega) (by omega) b4
    have fs4 := NM_fs nm4 (by omega)
    have dlt := b5
    refine ok_lt.mpr (ok_lt.mpr ?_)
    rw [wi_e, clo1_e]
    have sA := ST_cl (ST_69 (x := p) b2 ⟨by omega, by omega⟩) (by omega)
    have kA : KPR σ y (clo1 (wi y 69 p)) := KPR_w0 (KPR_w0 KPR_rf (by decide)) (by decide)
    have fA : F (clo1 (wi y 69 p)) 67 = 0 := by rw [show F (clo1 (wi y 69 p)) 67 = F (wi y 69 p) 67 from wi_ne (by decide), wi_ne (by decide)]; exact b0
    have aA : ∀ r i, A (clo1 (wi y 69 p)) r i = A y r i := fun _ _ => rfl
    have f66A : F (clo1 (wi y 69 p)) 66 = F y 66 := by rw [show F (clo1 (wi y 69 p)) 66 = F (wi y 69 p) 66 from wi_ne (by decide), wi_ne (by decide)]
    have e69y : F y 69 = p4 := b2.2.1.1
    generalize clo1 (wi y 69 p) = yA at *
    have q4b : 0 ≤ q4 ∧ 2 * q4 ≤ p4 := by unfold NM at nm4; omega
    refine ok_bnd.mpr (ok_mono (patternAt_ok (d := D) tk hN hσ (show 0 ≤ o - 1 ∧ o - 1 ≤ 25 by omega) yA 0 _ _ _ _ _ _ _ _ _ sA fA (by omega) (by omega) (by omega) fs4.1) (fun y5 r5 hy5 => ok_lt.mpr (ok_lt.mpr ?_)))
    rw [op1_e, I_F' e69y, wi_e]
    rcases hy5 with ⟨c0, c1, p5, q5, c2, c3, c4', c5, c6, c7, c8⟩ | ⟨hy5, x5, hx5, -⟩
    · have hp5 := PEND_eq c5 pe
      have s7 := ST_69 (x := p4) (ST_op c2 (by omega)) ⟨by omega, by omega⟩
      rw [show o - 1 + 1 = o by omega] at s7
      have k7 : KPR σ y (wi (op1 y5) 69 p4) := KPR_w0 (KPR_w0 (KPR_tr kA c3) (by decide)) (by decide)
      have f7 : F (wi (op1 y5) 69 p4) 67 = 0 := by rw [wi_ne (by decide), show F (op1 y5) 67 = F y5 67 from wi_ne (by decide)]; exact c0
      have a7 : ∀ r i, A (wi (op1 y5) 69 p4) r i = A y5 r i := fun _ _ => rfl
      have f66 : F (wi (op1 y5) 69 p4) 66 = F y5 66 := by rw [wi_ne (by decide), show F (op1 y5) 66 = F y5 66 from wi_ne (by decide)]
      generalize wi (op1 y5) 69 p4 = y7 at *
      have e32 : F y7 32 = n4 := s7.2.1.2.2.1
      have e32y : F y 32 = n4 := b2.2.1.2.2.1
      refine k_node (k := 16) rfl (by decide) rfl (by omega) (by omega) (fun y8 hy8 => ?_)
      refine k_in (k := 25) (n := 16000) rfl (by decide) (by omega) (ok_lt.mpr (ok_some.mpr (Or.inl ?_)))
      rw [I_tn (by omega) (by omega), c1, wa_e, e32]
      have nd : NDW y7 (wa y8 25 n4.toNat q4) 16 p2 := by rw [← e32]; exact NDW_wa hy8.1 (by decide)
      have nw : NEWN (wa y8 25 n4.toNat q4) n4.toNat 16 := by
        have := NEWN_of hy8 (show 0 ≤ p2 ∧ p2 < 4002 by omega)
        rw [e32] at this
        exact NEWN_wa this (by decide)
      have a25 : A (wa y8 25 n4.toNat q4) 25 n4.toNat = q4 := wa_eq ⟨by omega, by omega⟩
      generalize wa y8 25 n4.toNat q4 = y9 at *
      have s9' := ST_nd s7 nd (by omega) (by omega) (fun z => by omega)
      have k9' : KPR σ y y9 := KPR_nd k7 nd (by omega)
      have b60 : A y9 60 σ = A y5 60 σ := (nd.1.A (by decide)).trans (a7 60 σ)
      have b63 : A y9 63 σ = A y5 63 σ := (nd.1.A (by decide)).trans (a7 63 σ)
      have b66 : F y9 66 = F y5 66 := (nd.1.F (by decide)).trans f66
      have l9' : LGS σ y9 := fun z => by
        rw [b60]
        have z2 : F y5 66 = 0 := by rw [← b66]; exact z
        rcases c8 z2 with z3 | z3
        · exact z3
        · rw [z3, aA]; exact b7 (k9'.2.2.2.2.2.2 z)
      refine ⟨(nd.1.F (by decide)).trans f7, p4, n4 + 1, q5, c4, f4, h4, n4.toNat, by congr 1; omega, s9', KPR_tr k9 (KPR_tr b3 k9'), b4, ?_, ⟨by unfold DLT at dlt; omega, by omega, RTD_mo 0 _ _ ⟨by unfold DLT at dlt; omega, nw.2.2.2.1⟩ (by omega), nw.2.2.2.2.1⟩, l9', ?_⟩
      · unfold DLT at dlt ⊢
        omega
      · rcases hg with hg | hg
        · have t1 : TYG TN SN σ g (o - 1) (p4 - p + 1) u y 0 1 (fun i => i = e) := TYG_mo (TYG_u b8 m9 n9) (by omega) (by omega)
          have on : ONE (mks y) (mks y9) n4.toNat := by
            have fy : ∀ k, k ∈ [46, 56, 58] → F y9 k = F y k := fun k hk => by
              have g1 := s9'.2.1
              have g2 := b2.2.1
              have : ∀ k, k ∈ [46, 56, 58] → k = 46 ∨ k = 56 ∨ k = 58 := by decide
              rcases this k hk with z | z | z
              · rw [z, g1.2.2.2.2.1, g2.2.2.2.2.1]
              · rw [z, g1.2.2.2.2.2.1, g2.2.2.2.2.2.1]
              · rw [z, g1.2.2.2.2.2.2.1, g2.2.2.2.2.2.2.1]
            have f39 := k9'.2.2.2.2.1.2.1
            refine ⟨by show (F y 32).toNat = _; omega, by show (F y9 32).toNat = _; rw [s9'.2.1.2.2.1]; omega, by show (F y9 46).toNat = (F y 46).toNat; rw [fy 46 (by decide)], by show (F y9 56).toNat = (F y 56).toNat; rw [fy 56 (by decide)], fun i => ?_⟩
            unfold mks
            by_cases z : i = 0
            · rw [if_pos z, s9'.2.1.2.2.1]; omega
            · rw [if_neg z]
              by_cases z1 : i = 1
              · rw [if_pos z1, fy 46 (by decide)]; exact Nat.le_refl _
              · rw [if_neg z1]
                by_cases z2 : i = 2
                · rw [if_pos z2]; omega
                · rw [if_neg z2]
                  by_cases z3 : i = 3
                  · rw [if_pos z3, fy 56 (by decide)]; exact Nat.le_refl _
                  · rw [if_neg z3, fy 58 (by decide)]; exact Nat.le_refl _
          have ptt : PTT y9 SN q4.toNat q5.toNat (nmo σ y) (nmo σ y9) (hlo σ y9) := by
            unfold nmo hlo
            rw [b60, b63, ← aA 60 σ]
            refine PTT_ag c6 (fun r i hr _ _ => ?_) (fun i _ _ => ?_) (Nat.le_refl _)
            · have : ∀ r, r ∈ [33, 35, 36, 38] → r ∉ [23, 24, 25, 26, 27, 28, 29, 30, 31] := by decide
              rw [nd.1.A (this r hr), a7]
            · rw [nd.1.A (by decide), a7]
          have hmn := PTT_lt ptt
          have t2 : TYG TN SN σ g (o - 1) (p4 - p + 1) y y9 1 1 (fun i => i = n4.toNat) := by
            have sc := (s9'.2.2.2.1 σ (Nat.le_refl σ)).1
            have kk := k9'.2.2.1.2.2.2 σ (Nat.le_refl σ)
            have sy := (b2.2.2.2.1 σ (Nat.le_refl σ)).1
            refine TYG_mk (nm := 0) (xx := 1) l9' (fun z => b7 (k9'.2.2.2.2.2.2 z)) (by omega) (fun mm X Y g1 g2 g3 => ?_) (by unfold DLT at dlt; omega) (by omega)
            rw [show gq g = 0 by unfold gq; rw [if_pos hg]]
            refine s16 on nw ⟨Nat.le_refl _, g1, g3, hmn.2, g2⟩ ?_
            rw [a25, show mks y9 2 = q5.toNat by show (F y9 39).toNat = _; rw [s9'.2.1.2.2.2.1], show q4 = ((q4.toNat : Nat) : Int) by omega]
            exact PTT_PAT ptt
          refine TYG_ro (TYG_app (e := 0) t1 k9' t2 rfl (Int.le_refl _) (by omega)) (fun i hi => Or.inr hi) (fun i hi => ?_)
          rcases hi with hi | hi
          · refine Or.inr ?_
            rw [hi, k9'.2.1.1 29 e (by decide) (by rw [b2.2.1.2.2.1]; exact b6.2.1)]
            exact b6.2.2.2
          · exact Or.inl hi
        · intro z1
          exact absurd ((KPR_tr b3 k9').2.2.2.2.2.1 z1) (by rw [f72]; exact hg)
    · have s7 : FSM u0 TN σ D (wi (op1 y5) 69 p4) := FSM_69 (FSM_wi hy5 (by decide)) (by omega) hT
      generalize wi (op1 y5) 69 p4 = y7 at *
      have n7 := s7.2.2.2.2.1
      refine k_node (k := 16) rfl (by decide) rfl (by omega) (by omega) (fun y8 hy8 => ?_)
      refine k_in (k := 25) (n := 16000) rfl (by decide) (by omega) (ok_lt.mpr (ok_some.mpr (Or.inr ?_)))
      rw [I_tn (by omega) (by omega), hx5, wa_e]
      refine ⟨FSM_mo (FSM_wa (FSM_nd s7 hy8.1) (by decide)) (by omega), F y7 32, rfl, Or.inr ⟨by omega, ?_, ?_⟩⟩
      · rw [F_wa, hy8.1.2.1]; omega
      · rw [wa_rne (by decide)]; exact hy8.2.2.2.2.1
  · refine k_F (y := 0) rfl ⟨by decide, by decide⟩ (fun z => absurd z hy.1.2.1) (fun _ => ok_some.mpr (Or.inr (FEQ_none (FSM_mo hy.1 (by omega)))))
end
