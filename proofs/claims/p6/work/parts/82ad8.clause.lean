section
variable {u0 u v v2 w x : MS} {N σ TN SN e j i : Nat} {bw : Nat → Nat} {p o n q c f h s wt g D d l t p1 q1 : Int} {r y1 y2 y3 : Int32} {S : SG_M_behind} {G : MS → Int32 → Int32 → Int32 → Option (MS × Int32)}
theorem c183_ok (tk : TKW u0 TN SN bw) (hN : 20000 ≤ N) (hD : 0 ≤ D ∧ D ≤ 2900) (ho : 0 ≤ o ∧ o ≤ 25) (hg : XGD u0 TN SN bw D o S.2.2.2.2.2.2.2.2.2.2.2.2.2.2.2.1) (hgn : XGN S.2.2.2.2.2.2.2.2.2.2.2.2.2.2.2.1) (hb : XSB u0 TN SN bw D o S.2.2.2.2.1) (hbn : XNO S.2.2.2.2.1) (hu : A u 60 σ = 0) (eu : F u 32 = n ∧ F u 39 = q ∧ F u 46 = c ∧ F u 56 = f ∧ F u 58 = h) (hc : 0 ≤ c) (hm : NM TN bw 3 0 0 σ p o n q (c + 1) f h s wt) (hcl : CLH u0 TN SN σ p o n q c f h s wt u v j p1 q1 l) : OK (fun x t => t = I c ∧ (CLQ u0 TN SN bw σ p o n q c f h s wt u x ∨ FSM u0 TN σ (D + 10) x)) (fb_M_clause_183 N S G v (I c)) := by
  have hT := tk.1.1
  obtain ⟨e32, e39, e46, e56, e58⟩ := eu
  have fs := NM_fs hm (by omega)
  obtain ⟨c0, c1, c2, cb, c4, c5, c6⟩ := id hcl
  have hq : 0 ≤ q := hm.2.2.2.1.1
  have hcc : c + 1 ≤ 1359 := by unfold NM at hm; omega
  have hfh : 0 ≤ f ∧ 0 ≤ h := by unfold NM at hm; omega
  have e69 : F v 69 = p1 := c1.2.1.1
  have d1 : DLT bw 3 1 1 p n q (c + 1) f h p1 n q1 (c + 1) f h := by
    have := bw_mono tk (i := p.toNat) (m := p1.toNat) (by omega) (by omega)
    unfold DLT
    omega
  have nm1 := NM_dlt tk hm d1 (by omega) (by omega) cb.2.1
  have bad : ∀ w, FSM u0 TN σ (D + 1) w → FSM u0 TN σ (D + 10) w := fun w hw => FSM_mo hw (by omega)
  unfold fb_M_clause_183
  refine k_needSign (s := 1) rfl ⟨by decide, by decide⟩ (by omega) (fun _ z => ?_) (fun v3 h3 h4 => ?_)
  · have z2 := ST_IS c1 z
    have ltp := tok_lt tk (by omega) (show ¬ (A u0 6 (p1).toNat = 0 ∨ A u0 6 (p1).toNat = 7) by omega)
    have dn := DLT_1 (n := n) (q := q1) (c := c + 1) (f := f) (h := h) (m := 0) tk ⟨by omega, ltp⟩ (by omega)
    rw [show n + 0 = n by omega] at dn
    have s1 := ST_nx c1 (by omega)
    have nm2 := NM_dlt tk nm1 dn (by omega) (by omega) (by omega)
    have k1 : KPR σ v (nx1 v) := KPR_w0 KPR_rf (by decide)
    refine ok_bnd.mpr (ok_mono (hg (nx1 v) σ _ _ _ _ _ _ _ _ _ s1 ((wi_ne (by decide)).trans c0) nm2 (fun z => c5 (k1.2.2.2.2.2.2 z))) (fun vg r hv => ?_))
    rcases hv with ⟨a0, pg, ng, qg, cg, fg, hh, a1, a2, a3, a4, a5, a6, a7⟩ | hv
    · obtain ⟨y, hy, ry, a8⟩ : ∃ y : Int, r = I y ∧ RG y ∧ ((y = -1 ∧ vg = nx1 v) ∨ (y = n ∧ GTY TN SN σ o (pg - (p1 + 1) + 1) (nx1 v) vg)) := by
        rcases a7 with ⟨b1, b2⟩ | ⟨b1, b2⟩
        · exact ⟨-1, b1.trans rfl, ⟨by decide, by decide⟩, Or.inl ⟨rfl, b2⟩⟩
        · exact ⟨n, b1, ⟨by omega, by omega⟩, Or.inr ⟨rfl, b2⟩⟩
      have nm3 := NM_dlt tk nm2 a4 (by omega) (by omega) a3
      have fs3 := NM_fs nm3 (by omega)
      refine k_in (k := 42) (n := 1400) rfl (by decide) (by omega) (ok_lt.mpr ?_)
      rw [I_tn (x := c) (by omega) (by omega), hy, wa_e]
      have s2 : ST u0 σ pg o ng qg cg fg hh s wt 0 (wa vg 42 c.toNat y) := ST_wa a1 (by decide)
      have e69g : F (wa vg 42 c.toNat y) 69 = pg := s2.2.1.1
      have kug : KPR σ u (wa vg 42 c.toNat y) := KPR_wa (KPR_tr c2 (KPR_tr k1 a2)) (by decide) ⟨fun z => by simp at z, fun z => by simp at z, fun _ => by omega, fun z => by simp at z, fun z => by omega, fun z => by omega, fun z => by omega, fun z => by simp at z⟩
      refine k_needSign (s := 10) rfl ⟨by decide, by decide⟩ (by omega) (fun _ z => ?_) (fun v3 h3 h4 => ?_)
      · have z3 := ST_IS s2 z
        have ltp2 := tok_lt tk (by omega) (show ¬ (A u0 6 (pg).toNat = 0 ∨ A u0 6 (pg).toNat = 7) by omega)
        have da := DLT_arr (n := ng) (q := qg) (c := cg) (f := fg) (h := hh) tk ⟨by omega, ltp2⟩ z3.1 z3.2
        have s3 := ST_nx s2 (by omega)
        refine k_in (k := 43) (n := 1400) rfl (by decide) (by omega) (ok_lt.mpr ?_)
        have e32g : F (nx1 (wa vg 42 c.toNat y)) 32 = F vg 32 := by unfold nx1; rw [wi_ne (by decide), F_wa]
        rw [I_F' e32g, wa_e]
        have s4 : ST u0 σ (pg + 1) o ng qg cg fg hh s wt 0 (wa (nx1 (wa vg 42 c.toNat y)) 43 c.toNat (F vg 32)) := ST_wa s3 (by decide)
        have ku4 : KPR σ u (wa (nx1 (wa vg 42 c.toNat y)) 43 c.toNat (F vg 32)) := KPR_wa (KPR_tr kug (KPR_w0 KPR_rf (by decide))) (by decide) ⟨fun z => by simp at z, fun z => by simp at z, fun _ => by omega, fun z => by simp at z, fun z => by omega, fun z => by omega, fun z => by omega, fun z => by simp at z⟩
        have l4 : LGS σ (wa (nx1 (wa vg 42 c.toNat y)) 43 c.toNat (F vg 32)) := fun z => a6 z
        have nm4 := NM_dlt tk nm3 da (by omega) (by omega) (by omega)
        refine ok_mono (tail_ok (y2 := I c) tk hN hD ho hb s4 a0 nm4 l4) (fun x t hx => ⟨hx.1, ?_⟩)
        rcases hx.2 with ⟨b0, p2, n2, q2, c2', f2, h2, b1, b2, b3, b4, b5, b6⟩ | hx
        · refine Or.inl ⟨b0, p2, n2, q2, c2', f2, h2, b1, KPR_tr ku4 b2, b3, ⟨?_, ?_, ?_⟩, b5, ?_⟩
          · unfold DLT at d1 dn a4 da b4 ⊢; omega
          · unfold DLT at d1 dn a4 da b4; omega
          · unfold DLT at d1 dn a4 da b4; omega
          · have p21 : pg + 1 ≤ p2 ∧ p1 + 1 ≤ pg := by unfold DLT at b4 a4; omega
            exact CTY_of e46 e39 hc hq hu hcl (by omega) hfh e32 e56 e58 a2 (by rw [a5]; rfl) a8 b2 b6 p21 ry
        · exact Or.inr (bad _ hx)
      · have s3 := ST_67 s2 h3
        have f3 : FSM u0 TN σ D v3 := FSM_of s3 (by omega) (by omega) fs3.1 h4
        refine k_in (k := 43) (n := 1400) rfl (by decide) (by omega) (ok_lt.mpr ?_)
        rw [I_F (k := 32), wa_e]
        have f4 : FSM u0 TN σ D (wa v3 43 c.toNat (F v3 32)) := FSM_wa f3 (by decide)
        rw [hbn _ f4.2.1, bnd_so]
        exact ok_mono (tail_F hN hT (by omega) (FEQ_none f4)) (fun x t hx => ⟨hx.1, Or.inr (bad _ hx.2)⟩)
    · exact ok_mono (c42_F hN hT (by omega) (by omega) hbn hv) (fun x t hx => ⟨hx.1, Or.inr (bad _ hx.2)⟩)
  · have s3 := ST_67 c1 h3
    have f3 : FSM u0 TN σ D v3 := FSM_of s3 (by omega) (by omega) fs.1 h4
    rw [hgn v3 h4 (FSM_p f3 hT), bnd_so]
    exact ok_mono (c42_F hN hT (by omega) (by omega) hbn f3) (fun x t hx => ⟨hx.1, Or.inr (bad _ hx.2)⟩)
theorem c172_F (hN : 20000 ≤ N) (hT : TN ≤ 4000) (hD : D ≤ 3000) (hc : 0 ≤ c ∧ c < 1400) (hgn : XGN S.2.2.2.2.2.2.2.2.2.2.2.2.2.2.2.1) (hbn : XNO S.2.2.2.2.1) (hs : FSM u0 TN σ D v) : OK (fun x t => t = I c ∧ FSM u0 TN σ (D + 1) x) (fb_M_clause_172 N S (gg_M_clause N S (i + 1)) v (I c) y3) := by
  unfold fb_M_clause_172
  refine k_takeSign (s := 6) rfl ⟨by decide, by decide⟩ (FSM_p hs hT) (fun z => absurd z hs.2.1) (fun _ => ?_)
  show OK _ (fb_M_clause_75 N S (gg_M_clause N S i) v (I c) y3 0)
  unfold fb_M_clause_75
  rw [br00]
  exact c183_F hN hT hD hc hgn hbn hs
theorem c134_F (hN : 20000 ≤ N) (hT : TN ≤ 4000) (hD : D ≤ 3000) (hc : 0 ≤ c ∧ c < 1400) (hgn : XGN S.2.2.2.2.2.2.2.2.2.2.2.2.2.2.2.1) (hbn : XNO S.2.2.2.2.1) (hs : FSM u0 TN σ D v) : OK (fun x t => t = I c ∧ FSM u0 TN σ (D + 1) x) (fb_M_clause_134 N S (gg_M_clause N S (i + 1)) v (I c) y3) := by
  unfold fb_M_clause_134
  refine k_in (k := 41) (n := 1400) rfl (by decide) hc (k_in (k := 41) (n := 1400) rfl (by decide) hc (ok_lt.mpr (k_in (k := 41) (n := 1400) rfl (by decide) hc ?_)))
  rw [I_of (v.2.2.1 41 (I c).toNatClampNeg + 1), wa_e]
  have s1 : ∀ y, FSM u0 TN σ D (wa v 41 (I c).toNatClampNeg y) := fun y => FSM_wa hs (by decide)
  generalize (v.2.2.1 41 (I c).toNatClampNeg + 1).toInt = y
  have s2 := s1 y
  refine ok_br.mpr ⟨fun _ => k_isSign (s := 6) rfl ⟨by decide, by decide⟩ (FSM_p s2 hT) (fun _ => ?_) (fun _ => c172_F hN hT hD hc hgn hbn s2), fun _ => c172_F hN hT hD hc hgn hbn s2⟩
  exact k_wrong (s := 2) rfl ⟨by decide, by decide⟩ (by decide) (FSM_p s2 hT) (fun v3 h1 h2 => c172_F hN hT hD hc hgn hbn (FSM_67 s2 h1 h2))
theorem clause_loop (tk : TKW u0 TN SN bw) (hN : 20000 ≤ N) (hD : 0 ≤ D ∧ D ≤ 2900) (ho : 0 ≤ o ∧ o ≤ 25) (hg : XGD u0 TN SN bw D o S.2.2.2.2.2.2.2.2.2.2.2.2.2.2.2.1) (hgn : XGN S.2.2.2.2.2.2.2.2.2.2.2.2.2.2.2.1) (hb : XSB u0 TN SN bw D o S.2.2.2.2.1) (hbn : XNO S.2.2.2.2.1) (hu : A u 60 σ = 0) (eu : F u 32 = n ∧ F u 39 = q ∧ F u 46 = c ∧ F u 56 = f ∧ F u 58 = h) (hc : 0 ≤ c) (hm : NM TN bw 3 0 0 σ p o n q (c + 1) f h s wt) : ∀ (i : Nat) (v : MS) (j : Nat) (p1 q1 l : Int), CLH u0 TN SN σ p o n q c f h s wt u v j p1 q1 l → j ≤ 5 → 2 * (q1 - q) + 1 ≤ p1 - p → 4003 - p1 < i → OK (fun x t => t = I c ∧ (CLQ u0 TN SN bw σ p o n q c f h s wt u x ∨ FSM u0 TN σ (D + 10) x)) (gg_M_clause N S i v (I c) (I l) 1) := by
  have hT := tk.1.1
  have fs := NM_fs hm (by omega)
  have hq : 0 ≤ q ∧ 2 * q ≤ p := hm.2.2.2.1
  have hcc : c + 1 ≤ 1359 := by unfold NM at hm; omega
  intro i
  induction i with
  | zero => intro v j p1 q1 l hcl _ _ hi; obtain ⟨-, -, -, hb, -⟩ := hcl; omega
  | succ i ih =>
    intro v j p1 q1 l hcl hj hst hi
    obtain ⟨c0, c1, c2, cb, c4, c5, c6⟩ := id hcl
    obtain ⟨i', rfl⟩ : ∃ i', i = i' + 1 := ⟨i - 1, by omega⟩
    have bad : ∀ w, FSM u0 TN σ (D + 1) w → FSM u0 TN σ (D + 10) w := fun w hw => FSM_mo hw (by omega)
    have lb := PCL_l c4 ⟨hq.1, cb.2.2.1⟩
    have a41 : A v 41 c.toNat = j := by obtain ⟨_, _, -, -, -, -, k1, -⟩ := c4; exact k1
    have e39 : F v 39 = q1 := c1.2.1.2.2.2.1
    have e46 : F v 46 = c + 1 := c1.2.1.2.2.2.2.1
    show OK _ (fb_M_clause_75 N S (gg_M_clause N S (i' + 1)) v (I c) (I l) 1)
    unfold fb_M_clause_75
    rw [br10]
    refine k_F (y := 0) rfl ⟨by decide, by decide⟩ (fun _ => ?_) (fun z => absurd c0 z)
    refine k_in (k := 41) (n := 1400) rfl (by decide) (by omega) ?_
    refine k_A (y := 6) rfl ⟨by decide, by decide⟩ (fun z => ?_) (fun _ => ?_)
    · rw [I_tn (x := c) (by omega) (by omega)] at z; omega
    unfold fb_M_clause_103
    refine ok_bnd.mpr (ok_mono (patternAt_ok (d := D) tk (by omega) (by omega) ho v 1 _ _ _ _ _ _ _ _ _ c1 c0 (by omega) (by omega) (by omega) fs.1) (fun v2 r hv => ?_))
    rcases hv with hv | ⟨hv, y, hy, hy2⟩
    · have hr : r = I q1 := hv.2.1
      have kv := hv
      obtain ⟨k0, -, pk, qk, k1, k2, -⟩ := kv
      have b41 : A v2 41 c.toNat = j := by rw [k2.2.1.2.2.1 41 _ (by decide) (by rw [e46]; omega)]; exact a41
      have b45 : A v2 45 c.toNat = -1 := by rw [k2.2.1.2.2.1 45 _ (by decide) (by rw [e46]; omega)]; exact c6
      have go : ∀ W, ((j = 0 ∧ W = wa v2 40 c.toNat q1) ∨ (0 < j ∧ W = wa v2 37 l.toNat q1)) → A W 41 c.toNat = j → A W 45 c.toNat = -1 → KPR σ u W → OK (fun x t => t = I c ∧ (CLQ u0 TN SN bw σ p o n q c f h s wt u x ∨ FSM u0 TN σ (D + 10) x)) (fb_M_clause_134 N S (gg_M_clause N S (i' + 1)) W (I c) (I q1)) := fun W hW w41 w45 kW => by
        unfold fb_M_clause_134
        refine k_in (k := 41) (n := 1400) rfl (by decide) (by omega) (k_in (k := 41) (n := 1400) rfl (by decide) (by omega) (ok_lt.mpr (k_in (k := 41) (n := 1400) rfl (by decide) (by omega) ?_)))
        rw [I_tn (x := c) (by omega) (by omega), I_A' w41, lit1q, I_add, wa_e]
        obtain ⟨p2, q2, ad⟩ := PCL_add (w := wa W 41 c.toNat ((j : Int) + 1)) c4 hv ⟨hq.1, cb.2.2.1⟩ cb.2.2.2.2.2 e39 ⟨hc, by omega⟩ e46 ⟨by omega, by omega⟩ (by omega) (by
          rcases hW with ⟨z1, z2⟩ | ⟨z1, z2⟩
          · exact Or.inl ⟨z1, by rw [z2]⟩
          · exact Or.inr ⟨z1, by rw [z2]⟩)
        rcases ad with ⟨d1, ⟨d2, d3, d4, d5⟩, d6, d7, d8, d9, d10, d11⟩ | ad
        · have kw : KPR σ u (wa W 41 c.toNat ((j : Int) + 1)) := KPR_wa kW (by decide) ⟨fun z => by simp at z, fun z => by simp at z, fun _ => by omega, fun z => by simp at z, fun z => by omega, fun z => by omega, fun z => by omega, fun z => by simp at z⟩
          have x41 : A (wa W 41 c.toNat ((j : Int) + 1)) 41 c.toNat = j + 1 := wa_eq ⟨by omega, by omega⟩
          have x45 : A (wa W 41 c.toNat ((j : Int) + 1)) 45 c.toNat = -1 := by rw [wa_rne (by decide)]; exact w45
          generalize wa W 41 c.toNat ((j : Int) + 1) = X at *
          have lx : LGS σ X := fun z => by
            rw [d10]
            rw [d11] at z
            rcases d9 z with y | y
            · exact y
            · rw [y]; exact c5 (d8.2.2.2.2.2.2 z)
          have hX : CLH u0 TN SN σ p o n q c f h s wt u X (j + 1) p2 q2 q1 := ⟨d7, d1, kw, ⟨by omega, d2, by omega, by omega, by omega, fun z => by omega⟩, d6, lx, x45⟩
          have e69 : F X 69 = p2 := d1.2.1.1
          have stop : OK (fun x t => t = I c ∧ (CLQ u0 TN SN bw σ p o n q c f h s wt u x ∨ FSM u0 TN σ (D + 10) x)) (gg_M_clause N S (i' + 1) X (I c) (I q1) 0) := by
            show OK _ (fb_M_clause_75 N S (gg_M_clause N S i') X (I c) (I q1) 0)
            unfold fb_M_clause_75
            rw [br00]
            exact c183_ok tk hN hD ho hg hgn hb hbn hu eu hc hm hX
          refine k_A (y := 6) rfl ⟨by decide, by decide⟩ (fun z => ?_) (fun z => ?_)
          · refine k_isSign (s := 6) rfl ⟨by decide, by decide⟩ (by omega) (fun _ => ?_) (fun hn => ?_)
            · refine k_wrong (s := 2) rfl ⟨by decide, by decide⟩ (by decide) (by omega) (fun v3 h1 h2 => ?_)
              exact ok_mono (c172_F hN hT (by omega) (by omega) hgn hbn (FSM_of (d := D) (ST_67 d1 h1) (by omega) (by omega) fs.1 h2)) (fun x t hx => ⟨hx.1, Or.inr (bad _ hx.2)⟩)
            · unfold fb_M_clause_172
              refine k_takeSign (s := 6) rfl ⟨by decide, by decide⟩ (by omega) (fun _ y => absurd y hn) (fun _ => stop)
          · rw [x41] at z
            unfold fb_M_clause_172
            refine k_takeSign (s := 6) rfl ⟨by decide, by decide⟩ (by omega) (fun _ y => ?_) (fun _ => stop)
            have z2 := ST_IS d1 y
            have ltp := tok_lt tk (by omega) (show ¬ (A u0 6 (p2).toNat = 0 ∨ A u0 6 (p2).toNat = 7) by omega)
            have kc : KPR σ X (nx1 X) := KPR_w0 KPR_rf (by decide)
            have hl2 : PCL SN σ u (nx1 X) c q (j + 1) q2 q1 := d6
            refine ih (nx1 X) (j + 1) (p2 + 1) q2 q1 ⟨(wi_ne (by decide)).trans d7, ST_nx d1 (by omega), KPR_tr kw kc, ⟨by omega, by omega, by omega, by omega, by omega, fun z => by omega⟩, hl2, fun z => lx (kc.2.2.2.2.2.2 z), x45⟩ (by omega) (by omega) (by omega)
        · omega
      rw [hr]
      refine k_eq (x := l) (y := -1) ⟨by omega, by omega⟩ ⟨by decide, by decide⟩ (fun z => ?_) (fun z => ?_)
      · refine k_in (k := 40) (n := 1400) rfl (by decide) (by omega) (ok_lt.mpr ?_)
        rw [I_tn (x := c) (by omega) (by omega), wa_e]
        refine go _ (Or.inl ⟨by omega, rfl⟩) (by rw [wa_rne (by decide)]; exact b41) (by rw [wa_rne (by decide)]; exact b45) (KPR_wa (KPR_tr c2 k2) (by decide) ⟨fun z => by simp at z, fun z => by simp at z, fun _ => by omega, fun z => by simp at z, fun z => by omega, fun z => by omega, fun z => by omega, fun z => by simp at z⟩)
      · refine k_in (k := 37) (n := 5000) rfl (by decide) (by omega) (ok_lt.mpr ?_)
        rw [I_tn (x := l) (by omega) (by omega), wa_e]
        refine go _ (Or.inr ⟨by omega, rfl⟩) (by rw [wa_rne (by decide)]; exact b41) (by rw [wa_rne (by decide)]; exact b45) (KPR_wa (KPR_tr c2 k2) (by decide) ⟨fun z => by simp at z, fun z => by omega, fun z => by simp at z, fun z => by simp at z, fun z => by omega, fun z => by omega, fun z => by omega, fun z => by simp at z⟩)
    · rw [hy]
      refine k_eq (x := l) (y := -1) ⟨by omega, by omega⟩ ⟨by decide, by decide⟩ (fun z => ?_) (fun z => ?_)
      · refine k_in (k := 40) (n := 1400) rfl (by decide) (by omega) (ok_lt.mpr ?_)
        rw [wa_e]
        exact ok_mono (c134_F hN hT (by omega) (by omega) hgn hbn (FSM_wa hv (by decide))) (fun x t hx => ⟨hx.1, Or.inr (bad _ hx.2)⟩)
      · refine k_in (k := 37) (n := 5000) rfl (by decide) (by omega) (ok_lt.mpr ?_)
        rw [wa_e]
        exact ok_mono (c134_F hN hT (by omega) (by omega) hgn hbn (FSM_wa hv (by decide))) (fun x t hx => ⟨hx.1, Or.inr (bad _ hx.2)⟩)
def XCL (u0 : MS) (TN SN : Nat) (bw : Nat → Nat) (D o : Int) (fn : MS → Int32 → Option (MS × Int32)) : Prop := ∀ (u : MS) (σ : Nat) (p n q c f fz h s wt t : Int), ST u0 σ p o n q c f h s wt 0 u → F u 67 = 0 → (A u 60 σ = 0 ∧ fz ≤ f ∧ f ≤ fz + 1 ∧ 0 ≤ t ∧ t < 4002) → NM TN bw 0 0 0 σ p o n q c fz h s wt → OK (fun x r => r = I c ∧ (CLQ u0 TN SN bw σ p o n q c f h s wt u x ∨ FSM u0 TN σ D x)) (fn u (I t))
theorem clause_ok (tk : TKW u0 TN SN bw) (hN : 20000 ≤ N) (hD : 0 ≤ D ∧ D ≤ 2900) (ho : 0 ≤ o ∧ o ≤ 25) (hg : XGD u0 TN SN bw D o S.2.2.2.2.2.2.2.2.2.2.2.2.2.2.2.1) (hgn : XGN S.2.2.2.2.2.2.2.2.2.2.2.2.2.2.2.1) (hb : XSB u0 TN SN bw D o S.2.2.2.2.1) (hbn : XNO S.2.2.2.2.1) : XCL u0 TN SN bw (D + 10) o (fm_M_clause N S) := by
  intro u σ p n q c f fz h s wt t hs hf ⟨hu, hf1, hf2, ht⟩ hm0
  have hT := tk.1.1
  have hc : 0 ≤ c ∧ c < 1399 := by unfold NM at hm0; omega
  have hm : NM TN bw 3 0 0 σ p o n q (c + 1) f h s wt := by unfold NM at hm0 ⊢; omega
  have fs := NM_fs hm (by omega)
  have e46 : F u 46 = c := hs.2.1.2.2.2.2.1
  have eu : F u 32 = n ∧ F u 39 = q ∧ F u 46 = c ∧ F u 56 = f ∧ F u 58 = h := ⟨hs.2.1.2.2.1, hs.2.1.2.2.2.1, e46, hs.2.1.2.2.2.2.2.1, hs.2.1.2.2.2.2.2.2.1⟩
  have bad : ∀ w, FSM u0 TN σ (D + 1) w → FSM u0 TN σ (D + 10) w := fun w hw => FSM_mo hw (by omega)
  unfold fm_M_clause fb_M_clause_0
  have e46' : u.1 46 + 1 = I (c + 1) := by rw [I_F' e46, lit1q, I_add]
  rw [e46', I_F' e46, wi_e]
  refine ok_lt.mpr (k_in (k := 44) (n := 1400) rfl (by decide) (by omega) (ok_lt.mpr (k_in (k := 45) (n := 1400) rfl (by decide) (by omega) (ok_lt.mpr (k_in (k := 42) (n := 1400) rfl (by decide) (by omega) (ok_lt.mpr (k_in (k := 41) (n := 1400) rfl (by decide) (by omega) (ok_lt.mpr (k_in (k := 40) (n := 1400) rfl (by decide) (by omega) (ok_lt.mpr ?_))))))))))
  have z0 : ∀ (w : MS) (i : Nat), upA w 41 (upd (w.2.2.1 41) i 0) = wa w 41 i 0 := fun _ _ => rfl
  have z1 : ∀ (w : MS) (k i : Nat), upA w k (upd (w.2.2.1 k) i (-1)) = wa w k i (-1) := fun _ _ _ => rfl
  rw [I_tn (x := c) (by omega) (by omega), wa_e, z1, z1, z0, z1]
  have s1 : ST u0 σ p o n q (c + 1) f h s wt 0 (wa (wa (wa (wa (wa (wi u 46 (c + 1)) 44 c.toNat t) 45 c.toNat (-1)) 42 c.toNat (-1)) 41 c.toNat 0) 40 c.toNat (-1)) := ST_wa (ST_wa (ST_wa (ST_wa (ST_wa44 (ST_46 hs ⟨by omega, by omega⟩) ht) (by decide)) (by decide)) (by decide)) (by decide)
  have ci : ∀ r, r ∈ [40, 41, 42, 44, 45] → (r ∈ [23, 24, 25, 26, 27, 28, 29, 30, 31] → F u 32 ≤ c.toNat) ∧ (r ∈ [33, 35, 36, 37, 38] → F u 39 ≤ c.toNat) ∧ (r ∈ [40, 41, 42, 43, 45] → F u 46 ≤ c.toNat) ∧ (r ∈ [53, 54, 55] → F u 56 ≤ c.toNat) ∧ (r = 57 → F u 58 ≤ c.toNat) ∧ (r = 74 → F u 75 ≤ c.toNat) ∧ (r = 76 → F u 77 ≤ c.toNat) ∧ (r ∈ [79, 80, 81, 82] → F u 83 ≤ c.toNat) := fun r hr => by
    have : ∀ r, r ∈ [40, 41, 42, 44, 45] → r ∉ [23, 24, 25, 26, 27, 28, 29, 30, 31] ∧ r ∉ [33, 35, 36, 37, 38] ∧ r ∉ [53, 54, 55] ∧ r ≠ 57 ∧ r ≠ 74 ∧ r ≠ 76 ∧ r ∉ [79, 80, 81, 82] := by decide
    obtain ⟨t1, t2, t3, t4, t5, t6, t7⟩ := this r hr
    exact ⟨fun z => absurd z t1, fun z => absurd z t2, fun _ => by omega, fun z => absurd z t3, fun z => absurd z t4, fun z => absurd z t5, fun z => absurd z t6, fun z => absurd z t7⟩
  have k1 : KPR σ u (wa (wa (wa (wa (wa (wi u 46 (c + 1)) 44 c.toNat t) 45 c.toNat (-1)) 42 c.toNat (-1)) 41 c.toNat 0) 40 c.toNat (-1)) := KPR_wa (KPR_wa (KPR_wa (KPR_wa (KPR_wa (KPR_wi KPR_rf (by decide) (by omega) ⟨by omega, by omega⟩) (by decide) (ci 44 (by decide))) (by decide) (ci 45 (by decide))) (by decide) (ci 42 (by decide))) (by decide) (ci 41 (by decide))) (by decide) (ci 40 (by decide))
  have a40 : A (wa (wa (wa (wa (wa (wi u 46 (c + 1)) 44 c.toNat t) 45 c.toNat (-1)) 42 c.toNat (-1)) 41 c.toNat 0) 40 c.toNat (-1)) 40 c.toNat = -1 := wa_eq ⟨by decide, by decide⟩
  have a41 : A (wa (wa (wa (wa (wa (wi u 46 (c + 1)) 44 c.toNat t) 45 c.toNat (-1)) 42 c.toNat (-1)) 41 c.toNat 0) 40 c.toNat (-1)) 41 c.toNat = 0 := by rw [wa_rne (by decide)]; exact wa_eq ⟨by decide, by decide⟩
  have a45 : A (wa (wa (wa (wa (wa (wi u 46 (c + 1)) 44 c.toNat t) 45 c.toNat (-1)) 42 c.toNat (-1)) 41 c.toNat 0) 40 c.toNat (-1)) 45 c.toNat = -1 := by rw [wa_rne (by decide), wa_rne (by decide), wa_rne (by decide)]; exact wa_eq ⟨by decide, by decide⟩
  have a60 : A (wa (wa (wa (wa (wa (wi u 46 (c + 1)) 44 c.toNat t) 45 c.toNat (-1)) 42 c.toNat (-1)) 41 c.toNat 0) 40 c.toNat (-1)) 60 σ = A u 60 σ := by rw [wa_rne (by decide), wa_rne (by decide), wa_rne (by decide), wa_rne (by decide), wa_rne (by decide)]; rfl
  have f1 : F (wa (wa (wa (wa (wa (wi u 46 (c + 1)) 44 c.toNat t) 45 c.toNat (-1)) 42 c.toNat (-1)) 41 c.toNat 0) 40 c.toNat (-1)) 67 = 0 := by rw [F_wa, F_wa, F_wa, F_wa, F_wa, wi_ne (by decide)]; exact hf
  generalize wa (wa (wa (wa (wa (wi u 46 (c + 1)) 44 c.toNat t) 45 c.toNat (-1)) 42 c.toNat (-1)) 41 c.toNat 0) 40 c.toNat (-1) = v at *
  have e69 : F v 69 = p := s1.2.1.1
  have pc : PCL SN σ u (nx1 v) c q 0 q (-1) := ⟨fun _ => q.toNat, fun _ => nmo σ u, ⟨rfl, rfl, rfl, by unfold nmo; show (A u 60 σ).toNat = (A v 60 σ).toNat; rw [a60]⟩, fun i hi => by omega, ⟨fun i hi => by omega, fun z => by omega⟩, Or.inl ⟨rfl, rfl⟩, a41, fun z => by omega, fun _ => a40⟩
  refine k_needSign (s := 0) rfl ⟨by decide, by decide⟩ (by omega) (fun _ z => ?_) (fun v3 h3 h4 => ?_)
  · have z2 := ST_IS s1 z
    have ltp := tok_lt tk (by omega) (show ¬ (A u0 6 (p).toNat = 0 ∨ A u0 6 (p).toNat = 7) by omega)
    have s2 := ST_nx s1 (by omega)
    have kc : KPR σ v (nx1 v) := KPR_w0 KPR_rf (by decide)
    have e69n : F (nx1 v) 69 = p + 1 := s2.2.1.1
    have hcl : CLH u0 TN SN σ p o n q c f h s wt u (nx1 v) 0 (p + 1) q (-1) := ⟨(wi_ne (by decide)).trans f1, s2, KPR_tr k1 kc, ⟨by omega, by omega, by omega, by omega, by omega, fun _ => rfl⟩, pc, fun _ => by show A v 60 σ ≤ 40; rw [a60, hu]; decide, a45⟩
    refine k_F (y := 0) rfl ⟨by decide, by decide⟩ (fun _ => ?_) (fun z => absurd hcl.1 z)
    refine k_isSign (s := 1) rfl ⟨by decide, by decide⟩ (by omega) (fun _ => ?_) (fun _ => ?_)
    · exact c183_ok tk hN hD ho hg hgn hb hbn hu eu hc.1 hm hcl
    · exact clause_loop tk hN hD ho hg hgn hb hbn hu eu hc.1 hm N (nx1 v) 0 (p + 1) q (-1) hcl (by omega) (by omega) (by omega)
  · have f3 : FSM u0 TN σ D v3 := FSM_of (ST_67 s1 h3) (by omega) (by omega) fs.1 h4
    refine k_F (y := 0) rfl ⟨by decide, by decide⟩ (fun z => absurd z h4) (fun _ => ?_)
    exact ok_mono (c183_F hN hT (by omega) (by omega) hgn hbn f3) (fun x t hx => ⟨hx.1, Or.inr (bad _ hx.2)⟩)
end
