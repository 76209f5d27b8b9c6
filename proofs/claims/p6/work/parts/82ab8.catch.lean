section
variable {α : Type} {Q : MS → α → Prop} {u0 u v v1 w x : MS} {N σ TN SN q0 q1 q2 q3 e : Nat} {bw : Nat → Nat} {p o n q c f h s wt g lv xb xb1 xb2 k t m D d : Int} {R R1 R2 : Nat → Prop} {r : Int32} {S : SG_M_behind} {a b : Nat → Nat}
theorem SEQ_wn {g q q2 m m2 lo mm X Y sh i r : Nat} {y : Int} (s : SEQ v SN g a b q q2 m m2 lo mm X Y sh R) (hr : r ∈ [23, 24, 25, 26, 27, 28, 29, 30, 31]) (hi : i < a 0 ∨ b 0 ≤ i) : SEQ (wa v r i y) SN g a b q q2 m m2 lo mm X Y sh R := by
  have m1 : ∀ r, r ∈ [23, 24, 25, 26, 27, 28, 29, 30, 31] → r ∉ [40, 41, 42, 43, 45] ∧ r ∉ [33, 35, 36, 37, 38] ∧ r ∉ [53, 54, 55] ∧ 57 ≠ r := by decide
  obtain ⟨b1, b2, b3, b4⟩ := m1 r hr
  refine SEQ_st s ⟨rfl, fun r2 j h1 h2 h3 => wa_ne (by omega), fun r2 j h1 h2 h3 => wa_rne (fun z => b1 (by rw [← z]; exact h1)), fun r2 j h1 h2 => wa_rne (fun z => b2 (by rw [← z]; exact h1)), fun r2 j h1 h2 h3 => wa_rne (fun z => b3 (by rw [← z]; exact h1)), fun j _ => wa_rne b4⟩ (fun r2 j h1 h2 h3 _ => wa_ne (by omega))
theorem KND_of (a : NDV v w k t) (ht : 0 ≤ t ∧ t < 4002) : KND w (F v 32).toNat k := ⟨a.1.2.2.1, by rw [a.1.2.2.2.1]; exact ht.1, by rw [a.1.2.2.2.1]; exact ht.2, a.2.2.2.2.1, a.2.2.2.2.2.1⟩
theorem KND_eq {i : Nat} (a : KND v i k) (e : ∀ r, r ∈ [23, 24, 28, 29] → A w r i = A v r i) : KND w i k := by
  unfold KND at a ⊢
  rw [e 23 (by decide), e 24 (by decide), e 28 (by decide), e 29 (by decide)]
  exact a
theorem k_65 {y : Option (MS × α)} {k : Nat} (hk : ln k = 27) (h65 : F u 65 = σ) (hσ : σ ≤ 26) (q : OK Q y) : OK Q (ck (inb (u.1 65) (ln k)) y) := k_at hk (by decide) (by omega) q
theorem tn_65 (h65 : F u 65 = σ) : (u.1 65).toNatClampNeg = σ := by rw [tn_F, h65]; exact Int.toNat_natCast σ
theorem catch_F (hT : TN ≤ 4000) (hσ : σ ≤ 26) (hD : 0 ≤ D ∧ D ≤ 3000) (hx : XNO S.2.2.2.2.2.2.2.2.2.2.2.2.2.1) (hs : FSM u0 TN σ D w) (hp : F w 69 ≤ TN) : OK (FEQ u0 TN σ (D + 10)) (fb_M_expression_60 N S () w) := by
  unfold fb_M_expression_60
  have hp0 := hs.2.2.1
  have hn0 := hs.2.2.2.2.1
  refine k_node (k := 19) (t := F w 69) rfl (by decide) I_F (by omega) (by omega) (fun v1 hv1 => ok_lt.mpr ?_)
  have s1 := FSM_nd hs hv1.1
  rw [nx1_e]
  have e69 : F v1 69 = F w 69 := hv1.1.1.F (by decide)
  have s2 : FSM u0 TN σ (D + 1) (nx1 v1) := by
    unfold nx1; rw [e69]; exact FSM_69 s1 (by omega) hT
  have e65 : F (nx1 v1) 65 = σ := s2.2.2.2.1
  refine k_65 rfl e65 hσ (ok_lt.mpr ?_)
  refine k_in (k := 26) (n := 16000) rfl (by decide) (by omega) (ok_lt.mpr ?_)
  rw [tn_65 e65, I_tn (by omega) (by omega), I_A (w := nx1 v1) (k := 60), wa_e]
  have s3 : FSM u0 TN σ (D + 1) (wa (nx1 v1) 26 (F w 32).toNat (A (nx1 v1) 60 σ)) := FSM_wa s2 (by decide)
  generalize wa (nx1 v1) 26 (F w 32).toNat (A (nx1 v1) 60 σ) = w5 at *
  rw [hx w5 s3.2.1, bnd_so]
  have n5 := s3.2.2.2.2.1
  have p5 := s3.2.2.1
  have fin : ∀ w7, FSM u0 TN σ (D + 2) w7 → OK (FEQ u0 TN σ (D + 10)) (bnd (fm_M_node N w7 20 (w7.1 69)) (fun u8 r8 => ck (inb (I (F w 32)) (ln 25)) (lt (upA u8 25 (upd (u8.2.2.1 25) (F w 32).toNat (u8.1 32))) (fun w9 => fb_M_expression_137 N S () w9 (r8))))) := fun w7 s7 => by
    have n7 := s7.2.2.2.2.1
    have p7 := s7.2.2.1
    refine k_node (k := 20) (t := F w7 69) rfl (by decide) I_F (by omega) (by omega) (fun v8 hv8 => ?_)
    have s8 := FSM_nd s7 hv8.1
    refine k_in (k := 25) (n := 16000) rfl (by decide) (by omega) (ok_lt.mpr ?_)
    rw [I_F (w := v8) (k := 32), wa_e]
    unfold fb_M_expression_137
    rw [clo1_e]
    refine ok_lt.mpr (ok_some.mpr ?_)
    refine FEQ_wi ⟨FSM_mo (FSM_wa s8 (by decide)) (by omega), F w7 32, rfl, Or.inr ⟨by omega, ?_, ?_⟩⟩ (by decide)
    · show F w7 32 < F v8 32; rw [hv8.1.2.1]; omega
    · rw [wa_rne (by decide)]; exact hv8.2.2.2.2.1
  refine k_unbind (m := A (nx1 v1) 60 σ) rfl (ARG1 _ _ _) s3.2.2.2.1 hσ (by omega) (by omega) (fun _ => fin w5 (FSM_mo s3 (by omega))) (fun _ w7 hw7 => fin w7 (FSM_mo (FSM_unb s3 hw7) (by omega)))
theorem catch_N (tk : TKW u0 TN SN bw) (hD : 0 ≤ D ∧ D ≤ 3000) (ho : 0 ≤ o ∧ o ≤ 24) (hx : XSP u0 TN SN bw D 3 0 0 0 (o + 1) S.2.2.2.2.2.2.2.2.2.2.2.2.2.1) (hs : ST u0 σ p (o + 1) n q c f h s wt g w) (hf : F w 67 = 0) (hm : NM TN bw 3 0 0 σ p o n q c f h s wt) (hw : IW w 4) (hl : LGS σ w) (hg : g = 0 ∨ F w 72 ≠ 0) (ku : KPR σ u w) (mu : mks w = mks u) (nu : nmo σ w = nmo σ u) (hu32 : F u 32 = n) : OK (fun v r => EXQ u0 TN SN bw σ o p o n q c f h s wt g u v r ∨ FEQ u0 TN σ (D + 10) v r) (fb_M_expression_60 N S () w) := by
  have fs := NM_fs hm (by omega)
  have tw := ST_IW hs hw
  have ltp := tok_lt tk (by omega) (show ¬ (A u0 6 (p).toNat = 0 ∨ A u0 6 (p).toNat = 7) by omega)
  have hT := tk.1.1
  have e32 : F w 32 = n := hs.2.1.2.2.1
  have e69 : F w 69 = p := hs.2.1.1
  have bws := bw_mono tk (i := p.toNat) (m := (p + 1).toNat) (by omega) (by omega)
  have bwt := bw_top tk (i := (p + 1).toNat) (by omega)
  unfold fb_M_expression_60
  refine k_node (k := 19) (t := F w 69) rfl (by decide) I_F (by omega) (by omega) (fun v1 hv1 => ok_lt.mpr ?_)
  rw [nx1_e]
  have s1 := ST_nd hs (v := v1) (k := 19) (t := F w 69) hv1.1 (by omega) (by omega) (fun z => by omega)
  have s2 := ST_nx s1 (by omega)
  have e65 : F (nx1 v1) 65 = σ := s2.2.1.2.2.2.2.2.2.2.2.2.2.2
  have k2 : KPR σ w (nx1 v1) := KPR_w0 (KPR_nd KPR_rf hv1.1 (by omega)) (by decide)
  have a60 : A (nx1 v1) 60 σ = A w 60 σ := hv1.1.1.A (by decide)
  refine k_65 rfl e65 (by omega) (ok_lt.mpr ?_)
  refine k_in (k := 26) (n := 16000) rfl (by decide) (by omega) (ok_lt.mpr ?_)
  rw [tn_65 e65, I_tn (by omega) (by omega), I_A (w := nx1 v1) (k := 60), wa_e, e32]
  have ry : RG (A (nx1 v1) 60 σ) := ARG1 _ _ _
  generalize A (nx1 v1) 60 σ = y4 at *
  have s3 : ST u0 σ (p + 1) (o + 1) (n + 1) q c f h s wt g (wa (nx1 v1) 26 n.toNat y4) := ST_wa s2 (by decide)
  have k3 : KPR σ w (wa (nx1 v1) 26 n.toNat y4) := KPR_wn k2 (by decide) (by omega)
  have kn3 : KND (wa (nx1 v1) 26 n.toNat y4) n.toNat 19 := by
    have := KND_of hv1 (by omega)
    rw [e32] at this
    exact KND_eq this (fun r hr => by
      have : ∀ r, r ∈ [23, 24, 28, 29] → r ≠ 26 := by decide
      rw [wa_rne (this r hr)]; rfl)
  have f3 : F (wa (nx1 v1) 26 n.toNat y4) 67 = 0 := by
    show F (nx1 v1) 67 = 0
    rw [show F (nx1 v1) 67 = F v1 67 from wi_ne (by decide), hv1.1.1.F (by decide)]; exact hf
  have b60 : A (wa (nx1 v1) 26 n.toNat y4) 60 σ = A w 60 σ := by rw [wa_rne (by decide)]; exact hv1.1.1.A (by decide)
  have l3 : LGS σ (wa (nx1 v1) 26 n.toNat y4) := fun z => by rw [b60]; exact hl (k3.2.2.2.2.2.2 z)
  have o3 : ONE (mks w) (mks (wa (nx1 v1) 26 n.toNat y4)) (F w 32).toNat := by
    have := ONE_nd hv1.1 (by omega)
    rw [show mks (wa (nx1 v1) 26 n.toNat y4) = mks (nx1 v1) from rfl, show mks (nx1 v1) = mks v1 from wi_mks (by decide)]
    exact this
  generalize wa (nx1 v1) 26 n.toNat y4 = w5 at *
  have h60 : 0 ≤ A w5 60 σ := (s3.2.2.2.1 σ (Nat.le_refl σ)).1.1
  have e5 : F w5 32 = n + 1 := s3.2.1.2.2.1
  have nm5 : NM TN bw 3 0 0 σ (p + 1) (o + 1) (n + 1) q c f h s wt := by unfold NM at hm ⊢; omega
  refine ok_bnd.mpr (ok_mono (hx w5 σ _ _ _ _ _ _ _ _ _ s3 f3 nm5 l3) (fun v6 r6 hv6 => ?_))
  rcases hv6 with ⟨z0, p6, n6, q6, c6, f6, h6, e6, z1, z2, z3, z4, z5, z6, z7, z8⟩ | hv6
  · have n6b : n + 1 ≤ n6 ∧ n6 ≤ 12000 := by unfold DLT at z5; unfold NM at hm; omega
    have p6b : p + 2 ≤ p6 := by unfold DLT at z5; omega
    have z5' := z5
    refine unbind_N (u := w5) (R := fun i => i = e6) z2 z0 z3 (by omega) (by omega) (by omega) (by rw [a60, b60]) h60 l3 z8 (by omega) (fun w7 n7 hn7 s7 f7 k7 ub7 l7 t7 => ?_)
    have e7 : F w7 32 = n7 := s7.2.1.2.2.1
    have p7 : F w7 69 = p6 := s7.2.1.1
    refine k_node (k := 20) (t := F w7 69) rfl (by decide) I_F (by omega) (by omega) (fun v8 hv8 => ?_)
    refine k_in (k := 25) (n := 16000) rfl (by decide) (by omega) (ok_lt.mpr ?_)
    rw [I_F (w := v8) (k := 32), wa_e]
    unfold fb_M_expression_137
    rw [clo1_e]
    refine ok_lt.mpr (ok_some.mpr (Or.inl ?_))
    have s8 := ST_nd s7 (v := v8) (k := 20) (t := F w7 69) hv8.1 (by omega) (by omega) (fun z => by omega)
    have e8 : F v8 32 = n7 + 1 := s8.2.1.2.2.1
    have n23 : KND (wa v8 25 n.toNat (F v8 32)) n.toNat 19 := by
      refine KND_eq kn3 (fun r hr => ?_)
      have m1 : ∀ r, r ∈ [23, 24, 28, 29] → r ≠ 25 ∧ r ∈ [23, 24, 25, 26, 27, 28, 29, 30, 31] := by decide
      rw [wa_rne (m1 r hr).1, hv8.1.2.2.2.2 r n.toNat (by omega), ub7.1.2.1 r n.toNat (m1 r hr).2 (by rw [z2.2.1.2.2.1]; omega)]
      exact z3.2.1.1 r n.toNat (m1 r hr).2 (by omega)
    have n28 : KND (wa v8 25 n.toNat (F v8 32)) n7.toNat 20 := by
      have := KND_of hv8 (by omega)
      rw [e7] at this
      refine KND_eq this (fun r hr => ?_)
      have m1 : ∀ r, r ∈ [23, 24, 28, 29] → r ≠ 25 := by decide
      exact wa_rne (m1 r hr)
    have s9 : ST u0 σ p6 (o + 1) (n7 + 1) q6 c6 f6 h6 s wt g (wa v8 25 n.toNat (F v8 32)) := ST_wa25 s8 (by have := n23.1; rw [wa_rne (by decide)] at this; omega)
    have k9 : KPR σ w (wa v8 25 n.toNat (F v8 32)) := KPR_wn (KPR_nd (KPR_tr k3 k7) hv8.1 (by omega)) (by decide) (by omega)
    have f9 : F (wa v8 25 n.toNat (F v8 32)) 67 = 0 := by
      show F v8 67 = 0
      rw [hv8.1.1.F (by decide)]; exact f7
    have a9 : A (wa v8 25 n.toNat (F v8 32)) 60 σ = A w 60 σ := by
      rw [wa_rne (by decide), hv8.1.1.A (by decide), ub7.1.2.2]; exact b60
    have ty9 : TYG TN SN σ g o (p6 - p + 1) w (wa v8 25 n.toNat (F v8 32)) 0 1 (fun i => i = n7.toNat) := by
      intro y1 y2 y3
      have g0 : gq g = 0 := by
        rcases hg with hg | hg
        · unfold gq; rw [if_pos hg]
        · exact absurd (k9.2.2.2.2.2.1 y1) hg
      have y1' : F w7 72 = 0 := by rw [← y1]; exact (hv8.1.1.F (by decide)).symm
      have y2' : F w7 66 = 0 := by rw [← y2]; exact (hv8.1.1.F (by decide)).symm
      obtain ⟨mm, X, Y, q1, q2, q3, q4, q5⟩ := t7 y1' y2' y3
      have k8 : KPR σ w7 v8 := KPR_nd KPR_rf hv8.1 (by omega)
      have q1b := SEQ_wn (r := 25) (i := n.toNat) (y := F v8 32) (SEQ_kp q1 (fun i => Nat.le_refl _) k8) (by decide) (Or.inl (by show n.toNat < (F w5 32).toNat; omega))
      have n7e : nmo σ w7 = nmo σ w5 := by unfold nmo; rw [ub7.1.2.2]
      have n5e : nmo σ w5 = nmo σ w := by unfold nmo; rw [b60]
      have n9e : nmo σ (wa v8 25 n.toNat (F v8 32)) = nmo σ w := by unfold nmo; rw [a9]
      have h9e : hlo σ (wa v8 25 n.toNat (F v8 32)) = hlo σ w7 := by unfold hlo; rw [wa_rne (by decide), hv8.1.1.A (by decide)]
      have o8 := ONE_nd hv8.1 (show 0 ≤ F w7 32 by omega)
      rw [g0, n7e, n5e] at q1b
      have r6 : A (wa v8 25 n.toNat (F v8 32)) 29 e6 = -1 := by
        rw [wa_rne (by decide), hv8.1.2.2.2.2 29 e6 (by omega), ub7.1.2.1 29 e6 (by decide) (by rw [z2.2.1.2.2.1]; omega)]
        exact z6.2.2.2
      refine ⟨mm, X, Y + 1, ?_, q2, ?_, by omega, by omega⟩
      · rw [g0, n9e, h9e]
        refine SEQ_catch (a1 := mks w5) (b1 := mks w7) (n := n.toNat) (by show (F w 32).toNat = _; omega) ⟨by show (F w5 32).toNat = _; omega, o3.2.2.1, o3.2.2.2.1, o3.2.2.2.2⟩ ⟨by show (F w7 32).toNat = _; omega, by show (F v8 32).toNat = _; omega, o8.2.2.1, o8.2.2.2.1, o8.2.2.2.2⟩ n23 ?_ n28 (SEQ_ro q1b (fun i hi => hi.elim) (fun i hi => Or.inr (by rw [hi]; exact r6))) (Nat.le_refl _)
        rw [wa_eq (FRG1 v8 32)]; omega
      · rw [wa_rne (by decide), hv8.1.1.A (by decide)]; exact q3
    refine ⟨(wi_ne (by decide)).trans f9, p6, n7 + 1, q6, c6, f6, h6, n7.toNat, by rw [e7]; congr 1; omega, ?_, KPR_w0 (KPR_tr ku k9) (by decide), z4, ?_, ⟨by omega, by omega, ?_, ?_⟩, fun z => ?_, ?_⟩
    · have := ST_cl s9 (by omega)
      rwa [show o + 1 - 1 = o from by omega] at this
    · unfold DLT at z5' ⊢
      omega
    · exact RTD_mo 0 _ _ ⟨by omega, n28.2.2.2.1⟩ (by omega)
    · exact n28.2.2.2.2
    · show A (wa v8 25 n.toNat (F v8 32)) 60 σ ≤ 40
      rw [a9]
      exact hl (k9.2.2.2.2.2.2 (by rw [← z]; exact (wi_ne (by decide)).symm))
    · exact TYG_v (TYG_u ty9 mu nu) (KPR_w0 KPR_rf (by decide)) (wi_mks (by decide)) rfl
  · 
    obtain ⟨s6, -⟩ := hv6
    have n6 := s6.2.2.2.2.1
    have p6 := s6.2.2.1
    have fin : ∀ w7, FSM u0 TN σ (D + 1) w7 → OK (fun v r => EXQ u0 TN SN bw σ o p o n q c f h s wt g u v r ∨ FEQ u0 TN σ (D + 10) v r) (bnd (fm_M_node N w7 20 (w7.1 69)) (fun u8 r8 => ck (inb (I n) (ln 25)) (lt (upA u8 25 (upd (u8.2.2.1 25) n.toNat (u8.1 32))) (fun w9 => fb_M_expression_137 N S () w9 (r8))))) := fun w7 s7 => by
      have n7 := s7.2.2.2.2.1
      have p7 := s7.2.2.1
      refine k_node (k := 20) (t := F w7 69) rfl (by decide) I_F (by omega) (by omega) (fun v8 hv8 => ?_)
      have s8 := FSM_nd s7 hv8.1
      refine k_in (k := 25) (n := 16000) rfl (by decide) (by omega) (ok_lt.mpr ?_)
      rw [I_F (w := v8) (k := 32), wa_e]
      unfold fb_M_expression_137
      rw [clo1_e]
      refine ok_lt.mpr (ok_some.mpr (Or.inr ?_))
      refine FEQ_wi ⟨FSM_mo (FSM_wa s8 (by decide)) (by omega), F w7 32, rfl, Or.inr ⟨by omega, ?_, ?_⟩⟩ (by decide)
      · show F w7 32 < F v8 32; rw [hv8.1.2.1]; omega
      · rw [wa_rne (by decide)]; exact hv8.2.2.2.2.1
    exact k_unbind (m := y4) rfl ry s6.2.2.2.1 (by omega) (by omega) (by omega) (fun _ => fin v6 (FSM_mo s6 (by omega))) (fun _ w7 hw7 => fin w7 (FSM_mo (FSM_unb s6 hw7) (by omega)))
end
