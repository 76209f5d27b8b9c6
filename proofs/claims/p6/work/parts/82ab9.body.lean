section
variable {α : Type} {Q : MS → α → Prop} {u0 u v v1 w x : MS} {N σ TN SN q0 q1 q2 q3 e b : Nat} {bw : Nat → Nat} {p o n q c f h s wt g lv xb xb1 xb2 k t m D d p1 n1 q1' c1 f1 h1 p2 n2 c2 f2 h2 y z j l : Int} {R R1 R2 : Nat → Prop} {r : Int32} {S : SG_M_behind}
theorem NM_dlt (tk : TKW u0 TN SN bw) (hm : NM TN bw k j l σ p o n q c f h s wt) (hd : DLT bw y z b p n q c f h p2 n2 q1' c2 f2 h2) (hz : 0 ≤ z) (hy : 0 ≤ y) (hp : p2 ≤ TN) : NM TN bw k j l σ p2 o n2 q1' c2 f2 h2 s wt := by
  have b1 : 0 ≤ p2 := by unfold NM at hm; unfold DLT at hd; omega
  have := bw_top tk (i := p2.toNat) (by omega)
  unfold NM at hm ⊢
  unfold DLT at hd
  omega
theorem DLT_tr {y2 z2 : Int} {b2 : Nat} (a : DLT bw y z b p n q c f h p1 n1 q1' c1 f1 h1) {p3 n3 q3' c3 f3 h3 : Int} (b' : DLT bw y2 z2 b2 p1 n1 q1' c1 f1 h1 p3 n3 q3' c3 f3 h3) : DLT bw (y + y2) (z + z2) (b + b2) p n q c f h p3 n3 q3' c3 f3 h3 := by
  unfold DLT at a b' ⊢
  omega
theorem DLT_mo {y2 z2 : Int} {b2 : Nat} (a : DLT bw y z b p n q c f h p1 n1 q1' c1 f1 h1) (h1' : y2 ≤ y) (h2' : z2 ≤ z) (h3' : b2 ≤ b) : DLT bw y2 z2 b2 p n q c f h p1 n1 q1' c1 f1 h1 := by
  unfold DLT at a ⊢
  omega
theorem DLT_1 (tk : TKW u0 TN SN bw) (hp : 0 ≤ p ∧ p < TN) (hm : 0 ≤ m) : DLT bw (3 - m) 1 1 p n q c f h (p + 1) (n + m) q c f h := by
  have := bw_mono tk (i := p.toNat) (m := (p + 1).toNat) (by omega) (by omega)
  unfold DLT
  omega
theorem DLT_0 : DLT bw 0 0 0 p n q c f h p n q c f h := by unfold DLT; omega
theorem NM_mo {k2 j2 l2 : Int} (hm : NM TN bw k j l σ p o n q c f h s wt) (h1 : k ≤ k2) (h2 : j2 ≤ j) (h3 : l2 ≤ l) : NM TN bw k2 j2 l2 σ p o n q c f h s wt := by
  unfold NM at hm ⊢
  omega
theorem expression_ok (tk : TKW u0 TN SN bw) (hD : 0 ≤ D ∧ D ≤ 2900) (ho : 0 ≤ o ∧ o ≤ 25) (hsim : o ≤ 24 → XSP u0 TN SN bw D 0 1 1 1 (o + 1) S.2.2.2.2.2.2.2.2.2.2.2.2.1) (hsf : XSF u0 TN D S.2.2.2.2.2.2.2.2.2.2.2.2.1) (hex : o ≤ 24 → XSP u0 TN SN bw D 3 0 0 0 (o + 1) S.2.2.2.2.2.2.2.2.2.2.2.2.2.1) (hxn : XNO S.2.2.2.2.2.2.2.2.2.2.2.2.2.1) : XSP u0 TN SN bw (D + 10) 3 0 0 0 o (fm_M_expression N S) := by
  intro u σ p n q c f h s wt g hs hf hm hl
  have hT := tk.1.1
  have fs := NM_fs hm (by omega)
  have e69 : F u 69 = p := hs.2.1.1
  have e70 : F u 70 = o := hs.2.1.2.1
  have e32 : F u 32 = n := hs.2.1.2.2.1
  have hp : 0 ≤ F u 69 ∧ F u 69 ≤ 4001 := by omega
  rw [show o - 0 = o from by omega]
  have main : OK (fun v r => EXQ u0 TN SN bw σ o p o n q c f h s wt g u v r ∨ FEQ u0 TN σ (D + 10) v r) (fb_M_expression_31 N S () u) := by
    unfold fb_M_expression_31
    refine k_opens2 hp (fun w hw => ?_)
    have sw := OPN_ST hs (by omega) hw
    have kw : KPR σ u w := OPN_KP hw
    have e69w : F w 69 = p := sw.2.1.1
    have aw : ∀ r i, A w r i = A u r i := fun r i => OPN_A hw
    have fw66 := OPN_66 hw
    have f67 := OPN_67 hf hw
    clear hw
    have t137 : ∀ v r, FEQ u0 TN σ D v r → OK (fun v r => EXQ u0 TN SN bw σ o p o n q c f h s wt g u v r ∨ FEQ u0 TN σ (D + 10) v r) (fb_M_expression_137 N S () v r) := fun v r hv => by
      unfold fb_M_expression_137
      rw [clo1_e]
      exact ok_lt.mpr (ok_some.mpr (Or.inr (FEQ_mo (FEQ_wi hv (by decide)) (by omega))))
    refine k_isWord (s := 4) rfl ⟨by decide, by decide⟩ (by omega) (fun hw4 => ?_) (fun _ => ?_)
    · 
      have tw := ST_IW sw hw4
      have ltp := tok_lt tk (by omega) (show ¬ (A u0 6 (p).toNat = 0 ∨ A u0 6 (p).toNat = 7) by omega)
      rcases f67 with ⟨f0, o1, ew⟩ | ⟨f0, o1⟩
      · have mu : mks w = mks u := by rw [ew]; exact op1_mks
        have nu : nmo σ w = nmo σ u := by unfold nmo; rw [aw]
        have lw : LGS σ w := fun z => by rw [aw]; exact hl (by rw [← fw66]; exact z)
        refine k_F (k := 73) (y := 0) rfl ⟨by decide, by decide⟩ (fun hg => ?_) (fun hg => ?_)
        · rw [sw.2.1.2.2.2.2.2.2.2.2.2.2.1] at hg
          exact catch_N tk (by omega) (by omega) (hex (by omega)) sw f0 hm hw4 lw (Or.inl hg) kw mu nu e32
        · refine k_rule (s := 7) (t := p) rfl ⟨by decide, by decide⟩ (by decide) (I_F' e69w) (by omega) sw.2.2.1.1 (fun v1 h1 h2 h3 => ?_)
          have s1 := ST_rule sw h1 h3
          refine catch_N tk (by omega) (by omega) (hex (by omega)) s1 (by rw [h1.F (by decide)]; exact f0) hm ?_ (fun z => ?_) (Or.inr h2) (KPR_rule kw h1 h2) ((fr_mks h1 (by decide)).trans mu) ?_ e32
          · have := s1.2.1.1
            unfold IW
            rw [this, ST_A s1 (by decide), ST_A s1 (by decide)]
            exact tw
          · rw [h1.A (by intro z; cases z)]; exact lw (by rw [← z]; exact (h1.F (by decide)).symm)
          · unfold nmo; rw [h1.A (by intro z; cases z)]; exact nu
      · have fsm : FSM u0 TN σ D w := FSM_of sw (by omega) (by omega) fs.1 f0
        refine k_F (k := 73) (y := 0) rfl ⟨by decide, by decide⟩ (fun hg => ?_) (fun hg => ?_)
        · exact ok_mono (catch_F hT (by omega) (by omega) hxn fsm (by omega)) (fun _ _ => Or.inr)
        · refine k_rule (s := 7) (t := p) rfl ⟨by decide, by decide⟩ (by decide) (I_F' e69w) (by omega) sw.2.2.1.1 (fun v1 h1 h2 h3 => ?_)
          exact ok_mono (catch_F hT (by omega) (by omega) hxn (FSM_rule fsm h1 h3) (by rw [h1.F (by decide)]; omega)) (fun _ _ => Or.inr)
    · rcases f67 with ⟨f0, o1, ew⟩ | ⟨f0, o1⟩
      · have lw : LGS σ w := fun z => by rw [aw]; exact hl (by rw [← fw66]; exact z)
        refine ok_bnd.mpr (ok_mono (hsim (by omega) w σ _ _ _ _ _ _ _ _ _ sw f0 (by unfold NM at hm ⊢; omega) lw) (fun v r hv => ?_))
        rcases hv with hv | hv
        · unfold fb_M_expression_137
          rw [clo1_e]
          rw [show o + 1 - 1 = o from by omega, ew] at hv
          exact ok_lt.mpr (ok_some.mpr (Or.inl (EXQ_wrap ho hv)))
        · exact t137 v r hv
      · refine ok_bnd.mpr (ok_mono (hsf w σ _ _ _ _ _ _ _ _ _ _ sw f0 (by omega) (by omega) fs.1 (by unfold NM at hm; omega)) (fun v r hv => t137 v r hv))
  unfold fm_M_expression fb_M_expression_0
  refine k_F (y := 0) rfl ⟨by decide, by decide⟩ (fun _ => ?_) (fun z => absurd hf z)
  refine k_begins hp main ?_
  refine k_isWord (s := 4) rfl ⟨by decide, by decide⟩ hp (fun _ => main) (fun _ => ?_)
  exact k_wrong (s := 2) rfl ⟨by decide, by decide⟩ (by decide) hp (fun v1 h1 h2 => ok_some.mpr (Or.inr (FEQ_none (FSM_of (ST_67 hs h1) (by omega) (by omega) fs.1 h2))))
theorem behind_ok (tk : TKW u0 TN SN bw) (hD : 0 ≤ D ∧ D ≤ 2900) (ho : 0 ≤ o ∧ o ≤ 25) (hsim : o ≤ 24 → XSP u0 TN SN bw D 0 1 1 1 (o + 1) S.2.2.2.2.2.2.2.2.2.2.2.2.1) (hsf : XSF u0 TN D S.2.2.2.2.2.2.2.2.2.2.2.2.1) : XSP u0 TN SN bw (D + 10) 3 0 0 0 o (fm_M_behind N S) := by
  intro u σ p n q c f h s wt g hs hf hm hl
  have hT := tk.1.1
  have fs := NM_fs hm (by omega)
  have e69 : F u 69 = p := hs.2.1.1
  have e70 : F u 70 = o := hs.2.1.2.1
  have hp : 0 ≤ F u 69 ∧ F u 69 ≤ 4001 := by omega
  rw [show o - 0 = o from by omega]
  unfold fm_M_behind fb_M_behind_0
  refine k_F (y := 0) rfl ⟨by decide, by decide⟩ (fun _ => ?_) (fun z => absurd hf z)
  refine k_begins hp ?_ (k_wrong (s := 2) rfl ⟨by decide, by decide⟩ (by decide) hp (fun v1 h1 h2 => ok_some.mpr (Or.inr (FEQ_none (FSM_of (ST_67 hs h1) (by omega) (by omega) fs.1 h2)))))
  refine k_opens2 hp (fun w hw => ?_)
  have sw := OPN_ST hs (by omega) hw
  have aw : ∀ r i, A w r i = A u r i := fun r i => OPN_A hw
  have fw66 := OPN_66 hw
  have f67 := OPN_67 hf hw
  clear hw
  rcases f67 with ⟨f0, o1, ew⟩ | ⟨f0, o1⟩
  · have lw : LGS σ w := fun z => by rw [aw]; exact hl (by rw [← fw66]; exact z)
    refine ok_bnd.mpr (ok_mono (hsim (by omega) w σ _ _ _ _ _ _ _ _ _ sw f0 (by unfold NM at hm ⊢; omega) lw) (fun v r hv => ?_))
    rw [clo1_e]
    rcases hv with hv | hv
    · rw [show o + 1 - 1 = o from by omega, ew] at hv
      exact ok_lt.mpr (ok_some.mpr (Or.inl (EXQ_wrap ho hv)))
    · exact ok_lt.mpr (ok_some.mpr (Or.inr (FEQ_mo (FEQ_wi hv (by decide)) (by omega))))
  · refine ok_bnd.mpr (ok_mono (hsf w σ _ _ _ _ _ _ _ _ _ _ sw f0 (by omega) (by omega) fs.1 (by unfold NM at hm; omega)) (fun v r hv => ?_))
    rw [clo1_e]
    exact ok_lt.mpr (ok_some.mpr (Or.inr (FEQ_mo (FEQ_wi hv (by decide)) (by omega))))
theorem none_F {fb : Option (MS × Int32)} (hf : F u 67 ≠ 0) : br (decide (u.1 67 = 0)) fb (some (u, (-1 : Int32))) = some (u, -1) := by
  rw [I_F (k := 67), lit0q, decE (F_r u 67).1 (F_r u 67).2 (by omega) (by omega), decide_eq_false hf, br_fq]
theorem expression_F : XNO (fm_M_expression N S) := fun u hf => by
  unfold fm_M_expression fb_M_expression_0
  exact none_F hf
theorem behind_F : XNO (fm_M_behind N S) := fun u hf => by
  unfold fm_M_behind fb_M_behind_0
  exact none_F hf
theorem body_F : XNO (fm_M_body N S) := fun u hf => by
  unfold fm_M_body fb_M_body_0
  exact none_F hf
theorem primary_F : XNO (fm_M_primary N S) := fun u hf => by
  unfold fm_M_primary fb_M_primary_0
  exact none_F hf
def XSB (u0 : MS) (TN SN : Nat) (bw : Nat → Nat) (D o : Int) (fn : MS → Option (MS × Int32)) : Prop := ∀ (u : MS) (σ : Nat) (p n q c f h s wt : Int), ST u0 σ p o n q c f h s wt 0 u → F u 67 = 0 → NM TN bw 3 0 0 σ p o n q c f h s wt → LGS σ u → OK (fun v r => EXQ u0 TN SN bw σ (o + 1) p o n q c f h s wt 0 u v r ∨ FEQ u0 TN σ D v r) (fn u)
theorem body_loop (tk : TKW u0 TN SN bw) (hD : 0 ≤ D ∧ D ≤ 2900) (ho : 0 ≤ o ∧ o ≤ 24) (hex : XSP u0 TN SN bw D 3 0 0 0 (o + 1) S.2.2.2.2.2.2.2.2.2.2.2.2.2.1) (hm : NM TN bw 3 0 0 σ p (o + 1) n q c f h s wt) : ∀ (i : Nat) (v : MS) (r : Int32), (EXQ u0 TN SN bw σ (o + 1) p (o + 1) n q c f h s wt 0 u v r ∧ 4001 - F v 69 < i) ∨ (FEQ u0 TN σ D v r ∧ 0 < i) → OK (fun w r => EXQ u0 TN SN bw σ (o + 1) p (o + 1) n q c f h s wt 0 u (wi w 70 (o + 1)) r ∧ w = clo1 (wi w 70 (o + 1)) ∨ FEQ u0 TN σ (D + 1) w r) (gg_M_body N S i v r) := by
  have hT := tk.1.1
  intro i
  induction i with
  | zero =>
    intro v r hv
    rcases hv with ⟨⟨-, p2, n2, q2, c2, f2, h2, e, -, hs, -, hp, -⟩, z⟩ | ⟨-, z⟩
    · have : F v 69 = p2 := hs.2.1.1
      omega
    · exact absurd z (Nat.lt_irrefl 0)
  | succ i ih =>
    intro v r hv
    show OK _ (fb_M_body_40 N S (gg_M_body N S i) v r)
    unfold fb_M_body_40
    rcases hv with ⟨hv, hi⟩ | ⟨hv, hi⟩
    · obtain ⟨b0, p2, n2, q2, c2, f2, h2, e, b1, b2, b3, b4, b5, b6, b7, b8⟩ := id hv
      have e69 : F v 69 = p2 := b2.2.1.1
      have m2 := NM_dlt tk hm b5 (by omega) (by omega) b4
      have fs := NM_fs m2 (by omega)
      refine k_takeSign (s := 6) rfl ⟨by decide, by decide⟩ (by omega) (fun _ z => ?_) (fun _ => ?_)
      · rw [br10]
        have z2 := ST_IS b2 z
        have ltp := tok_lt tk (by omega) (show ¬ (A u0 6 (p2).toNat = 0 ∨ A u0 6 (p2).toNat = 7) by omega)
        have s1 := ST_nx b2 (by omega)
        have e1 : F (nx1 v) 69 = p2 + 1 := s1.2.1.1
        have n1 : F (nx1 v) 32 = n2 := s1.2.1.2.2.1
        refine k_node (k := 17) (t := F (nx1 v) 69) rfl (by decide) I_F (by omega) (by omega) (fun v3 hv3 => ?_)
        have s3 := ST_nd s1 (v := v3) (k := 17) (t := F (nx1 v) 69) hv3.1 (by omega) (by omega) (fun z => by omega)
        have k1 : KPR σ v (nx1 v) := KPR_w0 KPR_rf (by decide)
        have k3 : KPR σ v v3 := KPR_nd k1 hv3.1 (by omega)
        have f3 : F v3 67 = 0 := by rw [hv3.1.1.F (by decide)]; exact (wi_ne (by decide)).trans b0
        have l3 : LGS σ v3 := fun z => by rw [hv3.1.1.A (by decide)]; exact b7 (k3.2.2.2.2.2.2 z)
        have d3 := DLT_1 (n := n2) (q := q2) (c := c2) (f := f2) (h := h2) (m := 1) tk ⟨by omega, ltp⟩ (by omega)
        have t1 : TYG TN SN σ 0 (o + 1) (p2 - p + 1) u (nx1 v) 0 1 (fun i => i = e) := TYG_v b8 k1 (wi_mks (by decide)) rfl
        have t3 : TYG TN SN σ 0 (o + 1) (p2 - p + 1) (nx1 v) v3 1 0 (fun i => i = (F (nx1 v) 32).toNat) := TYG_nd (xx := 1) hv3.1 (by omega) s1.2.2.2.1 (fun z => b7 (by rw [← z]; exact (wi_ne (by decide)).symm)) (fun mm X Y y1 y2 => s17 (ONE_nd hv3.1 (by omega)) (NEWN_of hv3 (by omega)) ⟨Nat.le_refl _, y1, y2⟩) (by unfold DLT at b5; omega) (by omega)
        have t4 : TYG TN SN σ 0 (o + 1) (p2 - p + 1) u v3 0 0 (fun _ => False) := by
          refine TYG_ro (TYG_app (e := 0) t1 (KPR_nd KPR_rf hv3.1 (by omega)) t3 rfl (Int.le_refl _) (by omega)) (fun n hn => hn.elim) (fun i hi => Or.inr ?_)
          rcases hi with hi | hi
          · rw [hi, hv3.1.2.2.2.2 29 e (by omega)]; exact b6.2.2.2
          · rw [hi]; exact hv3.2.2.2.2.2.1
        have dl3 := DLT_tr b5 d3
        have m3 := NM_dlt tk hm dl3 (by omega) (by omega) (by omega)
        refine ok_bnd.mpr (ok_mono (hex v3 σ _ _ _ _ _ _ _ _ _ s3 f3 m3 l3) (fun w r2 hw => ?_))
        refine ih w r2 ?_
        rw [show o + 1 - 0 = o + 1 from by omega] at hw
        rcases hw with ⟨g0, p5, n5, q5, c5, f5, h5, e5, g1, g2, g3, g4, g5, g6, g7, g8⟩ | hw
        · refine Or.inl ⟨⟨g0, p5, n5, q5, c5, f5, h5, e5, g1, g2, KPR_tr b3 (KPR_tr k3 g3), g4, DLT_mo (DLT_tr dl3 g5) (by omega) (by omega) (by omega), ⟨by unfold DLT at dl3; omega, g6.2.1, RTD_dn (by unfold DLT at dl3; omega) _ _ g6.2.2.1, g6.2.2.2⟩, g7, ?_⟩, ?_⟩
          · refine TYG_ro (TYG_app (e := 0) t4 g3 g8 rfl (by unfold DLT at g5; omega) (by unfold DLT at dl3 b5; omega)) (fun n hn => Or.inr hn) (fun n hn => ?_)
            rcases hn with hn | hn
            · exact hn.elim
            · exact Or.inl hn
          · have : F w 69 = p5 := g2.2.1.1
            unfold DLT at g5; omega
        · exact Or.inr ⟨hw, by omega⟩
      · rw [br00]
        rw [clo1_e]
        refine ok_lt.mpr (ok_some.mpr (Or.inl ?_))
        have e70 : F v 70 = o + 1 := b2.2.1.2.1
        have wv : wi (clo1 v) 70 (o + 1) = v := by
          unfold clo1 wi upI
          refine Prod.ext (funext fun j => ?_) rfl
          by_cases z : j = 70
          · simp only [if_pos z]; rw [z, ← e70]; exact I_F.symm
          · simp only [if_neg z]
        rw [wv]
        exact ⟨hv, rfl⟩
    · have fp := FSM_p hv.1 hT
      refine k_takeSign (s := 6) rfl ⟨by decide, by decide⟩ fp (fun z => absurd z hv.1.2.1) (fun _ => ?_)
      rw [br00, clo1_e]
      exact ok_lt.mpr (ok_some.mpr (Or.inr (FEQ_mo (FEQ_wi hv (by decide)) (by omega))))
theorem body_ok (tk : TKW u0 TN SN bw) (hN : 5000 ≤ N) (hD : 0 ≤ D ∧ D ≤ 2900) (ho : 0 ≤ o ∧ o ≤ 25) (hex : o ≤ 24 → XSP u0 TN SN bw D 3 0 0 0 (o + 1) S.2.2.2.2.2.2.2.2.2.2.2.2.2.1) (hxn : XNO S.2.2.2.2.2.2.2.2.2.2.2.2.2.1) : XSB u0 TN SN bw (D + 10) o (fm_M_body N S) := by
  intro u σ p n q c f h s wt hs hf hm hl
  have hT := tk.1.1
  have fs := NM_fs hm (by omega)
  have e69 : F u 69 = p := hs.2.1.1
  have e70 : F u 70 = o := hs.2.1.2.1
  have hp : 0 ≤ F u 69 ∧ F u 69 ≤ 4001 := by omega
  have main : OK (fun v r => EXQ u0 TN SN bw σ (o + 1) p o n q c f h s wt 0 u v r ∨ FEQ u0 TN σ (D + 10) v r) (fb_M_body_31 N S (gg_M_body N S N) u) := by
    unfold fb_M_body_31
    refine k_opens2 hp (fun w hw => ?_)
    have sw := OPN_ST hs (by omega) hw
    have aw : ∀ r i, A w r i = A u r i := fun r i => OPN_A hw
    have fw66 := OPN_66 hw
    have f67 := OPN_67 hf hw
    clear hw
    rcases f67 with ⟨f0, o1, ew⟩ | ⟨f0, o1⟩
    · have lw : LGS σ w := fun z => by rw [aw]; exact hl (by rw [← fw66]; exact z)
      have mw : NM TN bw 3 0 0 σ p (o + 1) n q c f h s wt := by unfold NM at hm ⊢; omega
      refine ok_bnd.mpr (ok_mono (hex (by omega) w σ _ _ _ _ _ _ _ _ _ sw f0 mw lw) (fun v r hv => ?_))
      rw [show o + 1 - 0 = o + 1 from by omega] at hv
      refine ok_mono (body_loop (u := w) tk hD ⟨ho.1, by omega⟩ (hex (by omega)) mw N v r ?_) (fun w2 r2 hw2 => ?_)
      · rcases hv with hv | hv
        · refine Or.inl ⟨hv, ?_⟩
          obtain ⟨-, p2, n2, q2, c2, f2, h2, e, -, hs2, -, hp2, hd2, -⟩ := hv
          have : F v 69 = p2 := hs2.2.1.1
          unfold DLT at hd2
          omega
        · exact Or.inr ⟨hv, by omega⟩
      · rcases hw2 with ⟨hw2, he⟩ | hw2
        · rw [he]
          rw [ew] at hw2
          exact Or.inl (EXQ_wrap ho hw2)
        · exact Or.inr (FEQ_mo hw2 (by omega))
    · rw [hxn w f0, bnd_so]
      obtain ⟨N', rfl⟩ : ∃ N', N = N' + 1 := ⟨N - 1, by omega⟩
      have fsm : FSM u0 TN σ D w := FSM_of sw (by omega) (by omega) fs.1 f0
      show OK _ (fb_M_body_40 (N' + 1) S (gg_M_body (N' + 1) S N') w (-1))
      unfold fb_M_body_40
      refine k_takeSign (s := 6) rfl ⟨by decide, by decide⟩ (FSM_p fsm hT) (fun z => absurd z fsm.2.1) (fun _ => ?_)
      rw [br00, clo1_e]
      exact ok_lt.mpr (ok_some.mpr (Or.inr (FEQ_mo (FEQ_wi (FEQ_none fsm) (by decide)) (by omega))))
  unfold fm_M_body fb_M_body_0
  refine k_F (y := 0) rfl ⟨by decide, by decide⟩ (fun _ => ?_) (fun z => absurd hf z)
  refine k_begins hp main ?_
  refine k_isWord (s := 4) rfl ⟨by decide, by decide⟩ hp (fun _ => main) (fun _ => ?_)
  exact k_wrong (s := 2) rfl ⟨by decide, by decide⟩ (by decide) hp (fun v1 h1 h2 => ok_some.mpr (Or.inr (FEQ_none (FSM_of (ST_67 hs h1) (by omega) (by omega) fs.1 h2))))
end
