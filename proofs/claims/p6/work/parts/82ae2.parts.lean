section
variable {Q : MS → Int32 → Prop} {u0 u v vp vg w x : MS} {N σ TN SN e R0 many : Nat} {bw : Nat → Nat} {p o n q c f h s wt g D d B : Int} {r v1 v3 v4 : Int32} {S : SG_M_behind} {G : MS → Int32 → Int32 → Int32 → Int32 → Int32 → Option (MS × Int32)}
theorem wa_self {k i : Nat} {y : Int} (h : A u k i = y) : wa u k i y = u := by
  obtain ⟨u1, u2, u3, u4⟩ := u
  show (u1, u2, (fun k' => if k' = k then upd (u3 k) i (I y) else u3 k'), u4) = (u1, u2, u3, u4)
  have : (fun k' => if k' = k then upd (u3 k) i (I y) else u3 k') = u3 := by
    funext k'
    by_cases z : k' = k
    · rw [if_pos z, z]
      funext j
      show (if j = i then I y else u3 k j) = u3 k j
      by_cases zj : j = i
      · rw [if_pos zj, zj, ← h]; exact (I_of _).symm
      · rw [if_neg zj]
    · rw [if_neg z]
  rw [this]
set_option maxRecDepth 100000 in
theorem part_ok (tk : TKW u0 TN SN bw) (hN : 20000 ≤ N) (hD : 0 ≤ D ∧ D ≤ 2900) (ho : 0 ≤ o ∧ o ≤ 25) (hg : XGD u0 TN SN bw D o S.2.2.2.2.2.2.2.2.2.2.2.2.2.2.2.1) (hgn : XGN S.2.2.2.2.2.2.2.2.2.2.2.2.2.2.2.1) (hgc : XGC u0 TN SN bw D o S.2.2.2.2.2.2.2.2.2.2.2.2.2.2.1) (hb : XSB u0 TN SN bw D o S.2.2.2.2.1) (hbn : XNO S.2.2.2.2.1) (hs : ST u0 σ p o n q c f h s wt 0 v) (hf : F v 67 = 0) (hm : NM TN bw 0 0 0 σ p o n q c f h s wt) (hq : 2 * q + 1 ≤ p) (hB : A v 60 σ = B) (lv : LGS σ v) (hR : (R0 : Int) < n) (hv1 : (v1 = 0 ∧ many = 1) ∨ (v1 = 1 ∧ many = 0))
    (a1 : ∀ x, PRT u0 TN SN bw σ R0 many B p o n q c f h s wt v x → OK Q (pK N S G v1 (I R0) v3 v4 (I c) x)) (a2 : ∀ x, FSM u0 TN σ (D + 2) x → OK Q (pK N S G v1 (I R0) v3 v4 (I c) x)) : OK Q (fb_M_parts0_19 N S G v v1 (I R0) v3 v4 1) := by
  have hT := tk.1.1
  have hm3 : NM TN bw 3 0 0 σ p o n q (c + 1) f h s wt := by unfold NM at hm ⊢; omega
  have fs := NM_fs hm (by omega)
  have hc : 0 ≤ c ∧ c < 1399 := by unfold NM at hm; omega
  have hq0 : 0 ≤ q ∧ 2 * q ≤ p := hm.2.2.2.1
  have e46 : F v 46 = c := hs.2.1.2.2.2.2.1
  have e69 : F v 69 = p := hs.2.1.1
  have e65 : F v 65 = σ := hs.2.1.2.2.2.2.2.2.2.2.2.2.2
  have ev : F v 32 = n ∧ F v 39 = q ∧ F v 46 = c ∧ F v 56 = f ∧ F v 58 = h := ⟨hs.2.1.2.2.1, hs.2.1.2.2.2.1, e46, hs.2.1.2.2.2.2.2.1, hs.2.1.2.2.2.2.2.2.1⟩
  have hB0 : 0 ≤ B := by have := (hs.2.2.2.1 σ (Nat.le_refl σ)).1; omega
  unfold fb_M_parts0_19
  rw [br10]
  have e46' : v.1 46 + 1 = I (c + 1) := by rw [I_F' e46, lit1q, I_add]
  rw [e46', I_F' e46, wi_e]
  have z1 : ∀ (w : MS) (k i : Nat), upA w k (upd (w.2.2.1 k) i (-1)) = wa w k i (-1) := fun _ _ _ => rfl
  have z6 : (wi v 46 (c + 1)).1 69 = I p := by rw [I_F, wi_ne (by decide), e69]
  refine ok_lt.mpr (k_in (k := 44) (n := 1400) rfl (by decide) (by omega) (ok_lt.mpr (k_in (k := 45) (n := 1400) rfl (by decide) (by omega) (ok_lt.mpr ?_))))
  rw [z6, I_tn (x := c) (by omega) (by omega), wa_e, z1]
  have c74 : ∀ t2 : Int32, t2 = I many → OK Q (fb_M_parts0_74 N S G (wa (wa (wi v 46 (c + 1)) 44 c.toNat p) 45 c.toNat (-1)) v1 (I R0) v3 v4 (I c) 41 (I c) t2) := fun t2 ht2 => by
    rw [ht2]
    unfold fb_M_parts0_74
    refine ok_ck.mpr ⟨rfl, k_in (k := 41) (n := 1400) rfl (by decide) (by omega) (ok_lt.mpr ?_)⟩
    rw [I_tn (x := c) (by omega) (by omega), wa_e]
    have hmany : many ≤ 1 := by rcases hv1 with z | z <;> omega
    have s1 : ST u0 σ p o n q (c + 1) f h s wt 0 (wa (wa (wa (wi v 46 (c + 1)) 44 c.toNat p) 45 c.toNat (-1)) 41 c.toNat many) := ST_wa (ST_wa (ST_wa44 (ST_46 hs ⟨by omega, by omega⟩) (by omega)) (by decide)) (by decide)
    have k1 : KPR σ v (wa (wa (wa (wi v 46 (c + 1)) 44 c.toNat p) 45 c.toNat (-1)) 41 c.toNat many) := by
      refine KPR_wc (KPR_wc (KPR_wa (KPR_wi KPR_rf (by decide) (by omega) ⟨by omega, by omega⟩) (by decide) ?_) (by decide) (by omega)) (by decide) (by omega)
      exact ⟨fun z => by simp at z, fun z => by simp at z, fun _ => by omega, fun z => by simp at z, fun z => by omega, fun z => by omega, fun z => by omega, fun z => by simp at z⟩
    have a41 : A (wa (wa (wa (wi v 46 (c + 1)) 44 c.toNat p) 45 c.toNat (-1)) 41 c.toNat many) 41 c.toNat = many := wa_eq ⟨by omega, by omega⟩
    have a45 : A (wa (wa (wa (wi v 46 (c + 1)) 44 c.toNat p) 45 c.toNat (-1)) 41 c.toNat many) 45 c.toNat = -1 := by rw [wa_rne (by decide)]; exact wa_eq ⟨by decide, by decide⟩
    have a60 : A (wa (wa (wa (wi v 46 (c + 1)) 44 c.toNat p) 45 c.toNat (-1)) 41 c.toNat many) 60 σ = B := by rw [wa_rne (by decide), wa_rne (by decide), wa_rne (by decide)]; exact hB
    have f67 : F (wa (wa (wa (wi v 46 (c + 1)) 44 c.toNat p) 45 c.toNat (-1)) 41 c.toNat many) 67 = 0 := by rw [F_wa, F_wa, F_wa, wi_ne (by decide)]; exact hf
    have f66 : F (wa (wa (wa (wi v 46 (c + 1)) 44 c.toNat p) 45 c.toNat (-1)) 41 c.toNat many) 66 = F v 66 := by rw [F_wa, F_wa, F_wa, wi_ne (by decide)]
    generalize wa (wa (wa (wi v 46 (c + 1)) 44 c.toNat p) 45 c.toNat (-1)) 41 c.toNat many = W at *
    have w65 : F W 65 = σ := s1.2.1.2.2.2.2.2.2.2.2.2.2.2
    have w46 : F W 46 = c + 1 := s1.2.1.2.2.2.2.1
    have w39 : F W 39 = q := s1.2.1.2.2.2.1
    refine k_at (k := 60) (n := 27) rfl (by decide) (by omega) (ok_lt.mpr ?_)
    have y16 : W.2.2.1 60 (W.1 65).toNatClampNeg = I B := by
      rw [I_F' w65, I_tn (by omega) (by omega)]
      exact I_A' a60
    rw [y16]
    rcases hv1 with ⟨v10, m1⟩ | ⟨v10, m1⟩
    · subst v10
      rw [br00]
      refine ok_bnd.mpr (ok_mono (patternAt_ok (d := D) tk (by omega) (by omega) ho W 0 _ _ _ _ _ _ _ _ _ s1 f67 (by omega) (by omega) (by omega) fs.1) (fun v2 r hv => ?_))
      rcases hv with hv | ⟨hv, y, hy, hy2⟩
      · have hr : r = I q := hv.2.1
        have k2 := hv.2.2
        obtain ⟨pk, qk, k3, k2, -⟩ := k2
        have b41 : A v2 41 c.toNat = 1 := by rw [k2.2.1.2.2.1 41 _ (by decide) (by omega), a41, m1]; rfl
        have b45 : A v2 45 c.toNat = -1 := by rw [k2.2.1.2.2.1 45 _ (by decide) (by omega)]; exact a45
        have pat := hv.2.2
        obtain ⟨p2, q2, b3, -, b5, b6, b7, b8, b9⟩ := pat
        have bl := PTT_lt b7
        have pe : p + 1 ≤ p2 := by omega
        have w40 : A (wa v2 40 c.toNat q) 40 c.toNat = q := wa_eq ⟨by omega, by omega⟩
        have pt : PATS (wa v2 40 c.toNat q) id id q2.toNat SN (hlo σ (wa v2 40 c.toNat q)) B.toNat (nmo σ (wa v2 40 c.toNat q)) many (A (wa v2 40 c.toNat q) 40 c.toNat) := by
          have c40 : ∀ r i, r ∈ [33, 35, 36, 37, 38] → A (wa v2 40 c.toNat q) r i = A v2 r i := fun r i hr => by
            have : ∀ r, r ∈ [33, 35, 36, 37, 38] → r ≠ 40 := by decide
            exact wa_rne (this r hr)
          have : PCL SN σ v (wa v2 40 c.toNat q) c q 1 q2 q := by
            refine ⟨fun i => if i = 0 then q.toNat else q2.toNat, fun i => if i = 0 then nmo σ v else nmo σ v2, ⟨rfl, rfl, rfl, by unfold nmo; rw [wa_rne (by decide)]; rfl⟩, fun i hi => ?_, ⟨fun i hi => by omega, fun _ => ?_⟩, Or.inr ⟨by omega, ?_⟩, ?_, fun _ => w40, fun z => by omega⟩
            · obtain rfl : i = 0 := by omega
              show PTT _ SN q.toNat q2.toNat (nmo σ v) (nmo σ v2) _
              have e1 : nmo σ v = (A W 60 σ).toNat := by unfold nmo; rw [a60, hB]
              have e2 : hlo σ (wa v2 40 c.toNat q) = (A v2 63 σ).toNat := by unfold hlo; rw [wa_rne (by decide)]
              rw [e1, e2]
              exact PTT_ag b7 (fun r i hr _ _ => c40 r i (by
                have : ∀ r, r ∈ [33, 35, 36, 38] → r ∈ [33, 35, 36, 37, 38] := by decide
                exact this r hr)) (fun i _ _ => c40 37 i (by decide)) (Nat.le_refl _)
            · show A (wa v2 40 c.toNat q) 37 q.toNat = -1
              rw [c40 37 _ (by decide)]; exact b8
            · show q = ((q.toNat : Nat) : Int)
              omega
            · rw [wa_rne (by decide)]; exact b41
          have := PCL_PATS this hq0.1
          rw [show nmo σ v = B.toNat from by unfold nmo; rw [hB]] at this
          rw [m1]
          exact this
        have s2 : ST u0 σ p2 o n q2 (c + 1) f h s wt 0 (wa v2 40 c.toNat q) := ST_wa b3 (by decide)
        have kv2 : KPR σ v (wa v2 40 c.toNat q) := KPR_wc (KPR_tr k1 k2) (by decide) (by omega)
        have nmv : NM TN bw 3 0 0 σ p2 o n q2 (c + 1) f h s wt := by
          have bwl := bw_mono tk (i := p.toNat) (m := p2.toNat) (by omega) (by omega)
          have bwm := bw_mono tk (i := p2.toNat) (m := TN) (by omega) (by omega)
          have bwt := tk.2.2.2.2
          unfold NM at hm3 ⊢
          omega
        have l2 : LGS σ (wa v2 40 c.toNat q) := fun z => by
          have z' : F v2 66 = 0 := z
          rw [wa_rne (by decide)]
          rcases b9 z' with y | y
          · exact y
          · rw [y, a60]
            have := lv (by rw [← f66]; exact k2.2.2.2.2.2.2 z')
            omega
        have f2 : F (wa v2 40 c.toNat q) 67 = 0 := hv.1
        have a41' : A (wa v2 40 c.toNat q) 41 c.toNat = many := by rw [wa_rne (by decide), b41, m1]; rfl
        have a45' : A (wa v2 40 c.toNat q) 45 c.toNat = -1 := by rw [wa_rne (by decide)]; exact b45
        unfold fb_M_parts0_105
        rw [hr]
        refine ok_ck.mpr ⟨rfl, k_in (k := 40) (n := 1400) rfl (by decide) (by omega) (ok_lt.mpr ?_)⟩
        rw [I_tn (x := c) (by omega) (by omega), wa_e, br00]
        generalize wa v2 40 c.toNat q = VP at *
        refine ok_bnd.mpr (ok_mono (hg VP σ _ _ _ _ _ _ _ _ _ s2 f2 nmv l2) (fun vg r hv => ?_))
        rcases hv with ⟨g0, pg, ng, qg, cg, fg, hh, g1, g2, g3, g4, g5, g6, g7⟩ | hv
        · obtain ⟨y, hy, ry, g8⟩ : ∃ y : Int, r = I y ∧ RG y ∧ ((y = -1 ∧ vg = VP) ∨ (y = n ∧ GTY TN SN σ o (pg - p2 + 1) VP vg)) := by
            rcases g7 with ⟨b1, b2⟩ | ⟨b1, b2⟩
            · exact ⟨-1, b1.trans rfl, ⟨by decide, by decide⟩, Or.inl ⟨rfl, b2⟩⟩
            · exact ⟨n, b1, ⟨by omega, by omega⟩, Or.inr ⟨rfl, b2⟩⟩
          rw [hy]
          exact p127_ok (yg := 0) (many := many) tk hD ho hb hbn ev hR hm3 hc.1 s2 kv2 (by omega) pt a41' (by omega) ⟨hB, hB0⟩ a45' g0 g1 g2 g5 g6 (by omega) g4 g3 g8 ry a1 a2
        · exact p127_F hT (by omega) (by omega) (by omega) (by omega) hbn hv a2
      · rw [hy]
        unfold fb_M_parts0_105
        refine ok_ck.mpr ⟨rfl, k_in (k := 40) (n := 1400) rfl (by decide) (by omega) (ok_lt.mpr ?_)⟩
        rw [wa_e, br00]
        have s2 : FSM u0 TN σ D (wa v2 40 (I c).toNatClampNeg y) := FSM_wa hv (by decide)
        rw [hgn _ s2.2.1 (FSM_p s2 hT), bnd_so]
        exact p127_F hT (by omega) (by omega) (by omega) (by omega) hbn s2 a2
    · subst v10
      rw [br10]
      unfold fb_M_parts0_105
      refine ok_ck.mpr ⟨rfl, k_in (k := 40) (n := 1400) rfl (by decide) (by omega) (ok_lt.mpr ?_)⟩
      rw [I_tn (x := c) (by omega) (by omega), z1, br10]
      have s2 : ST u0 σ p o n q (c + 1) f h s wt 0 (wa W 40 c.toNat (-1)) := ST_wa s1 (by decide)
      have kv2 : KPR σ v (wa W 40 c.toNat (-1)) := KPR_wc k1 (by decide) (by omega)
      have a60' : A (wa W 40 c.toNat (-1)) 60 σ = B := by rw [wa_rne (by decide)]; exact a60
      have l2 : LGS σ (wa W 40 c.toNat (-1)) := fun z => by
        rw [a60']
        have := lv (by rw [← f66]; exact z)
        omega
      have f2 : F (wa W 40 c.toNat (-1)) 67 = 0 := f67
      have a41' : A (wa W 40 c.toNat (-1)) 41 c.toNat = many := by rw [wa_rne (by decide)]; exact a41
      have a45' : A (wa W 40 c.toNat (-1)) 45 c.toNat = -1 := by rw [wa_rne (by decide)]; exact a45
      generalize wa W 40 c.toNat (-1) = VP at *
      have pt : PATS VP id id q.toNat SN (hlo σ VP) B.toNat (nmo σ VP) many (A VP 40 c.toNat) := Or.inl ⟨m1, by unfold nmo; rw [a60']⟩
      refine ok_bnd.mpr (ok_mono (hgc VP σ _ _ _ _ _ _ _ _ _ s2 f2 hm3 l2) (fun vg r hv => ?_))
      rcases hv with ⟨g0, hy, pg, ng, qg, cg, fg, hh, g1, g2, g3, g4, g5, g6, g7⟩ | hv
      · rw [hy]
        exact p127_ok (yg := 1) (many := many) tk hD ho hb hbn ev hR hm3 hc.1 s2 kv2 (by omega) pt a41' (by omega) ⟨hB, hB0⟩ a45' g0 g1 g2 g5 g6 (by omega) g4 g3 (Or.inr ⟨rfl, g7⟩) ⟨by omega, by omega⟩ a1 a2
      · exact p127_F hT (by omega) (by omega) (by omega) (by omega) hbn hv a2
  rcases hv1 with ⟨v10, m1⟩ | ⟨v10, m1⟩
  · rw [v10] at c74 ⊢
    rw [br00]
    exact c74 1 (by rw [m1]; rfl)
  · rw [v10] at c74 ⊢
    rw [br10]
    exact c74 0 (by rw [m1]; rfl)
end
