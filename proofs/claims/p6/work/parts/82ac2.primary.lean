section
variable {u0 u v v1 w x : MS} {N σ TN SN e : Nat} {bw : Nat → Nat} {p o n q c f h s wt g lv xb k t m D d y z l : Int} {r y1 y2 y3 : Int32} {S : SG_M_behind} {j : Nat}
theorem prim_apply (tk : TKW u0 TN SN bw) (hD : 0 ≤ D ∧ D ≤ 2900) (ho : 1 ≤ o ∧ o ≤ 25) (harg : XAR u0 TN SN bw D o S.2.2.2.2.2.2.2.2.2.1) (hm : NM TN bw 0 1 0 σ p o n q c f h s wt) {G : MS → Int32 → Int32 → Option (MS × Int32)} (a : EXQ u0 TN SN bw σ (o - 1) p o n q c f h s wt g u x r) (b : FR [71, 72] [] [] [] x v) (hb : F v 67 = 0 ∧ (F v 72 ≠ 0 ∨ (v = x ∧ g = 0)) ∧ 0 ≤ F v 71 ∧ F v 71 < 4002) (hG : ∀ w r2, (EXQ u0 TN SN bw σ (o - 1) p o n q c f h s wt g u w r2 ∧ F x 69 < F w 69) ∨ FSM u0 TN σ (D + 1) w → OK (RWQ u0 TN SN bw σ (D + 3) p o n q c f h s wt g u) (G w (I p) r2)) : OK (RWQ u0 TN SN bw σ (D + 3) p o n q c f h s wt g u) (fb_M_primary_157 N S G v (I p)) := by
  have hT := tk.1.1
  have fs0 := NM_fs hm (by omega)
  obtain ⟨b0, p2, n2, q2, c2, f2, h2, e, b1, b2, b3, b4, b5, b6, b7, b8⟩ := a
  have e69 : F x 69 = p2 := b2.2.1.1
  have kx : KPR σ x v := by
    rcases hb.2.1 with z | ⟨z, -⟩
    · exact KPR_rule KPR_rf b z
    · rw [z]; exact KPR_rf
  have sv := ST_rule b2 b ⟨hb.2.2.1, hb.2.2.2⟩
  have av : ∀ r i, A v r i = A x r i := fun r i => b.A (by intro z; cases z)
  have lv : LGS σ v := fun z => by rw [av]; exact b7 (kx.2.2.2.2.2.2 z)
  have m2 := NM_mo (k2 := 3) (j2 := 0) (l2 := 0) (NM_dlt tk hm b5 (by omega) (by omega) b4) (by omega) (by omega) (by omega)
  unfold fb_M_primary_157
  refine ok_bnd.mpr (ok_mono (harg v σ _ _ _ _ _ _ _ _ _ sv hb.1 m2 lv) (fun v1 _ hv1 => ?_))
  rcases hv1 with ⟨g0, j, p3, n3, q3, c3, f3, h3, g1, g2, g3, g4, g5, g6, g7, g8⟩ | hv1
  · have m3 := NM_dlt tk m2 g5 (by omega) (by omega) g4
    have fs := NM_fs m3 (by omega)
    have e32 : F v1 32 = n3 := g2.2.1.2.2.1
    refine k_node (k := 13) rfl (by decide) rfl (by omega) (by omega) (fun v3 hv3 => ?_)
    refine k_in (k := 26) (n := 16000) rfl (by decide) (by omega) (ok_lt.mpr ?_)
    have e84 : F v3 84 = (j : Int) := (hv3.1.1.F (by decide)).trans g1.1
    rw [I_tn (by omega) (by omega), I_F' e84, wa_e]
    have nd : NDW v1 (wa v3 26 (F v1 32).toNat (j : Int)) 13 p := NDW_wa hv3.1 (by decide)
    have nw : NEWN (wa v3 26 (F v1 32).toNat (j : Int)) (F v1 32).toNat 13 := NEWN_wa (NEWN_of hv3 (by omega)) (by decide)
    have a26 : A (wa v3 26 (F v1 32).toNat (j : Int)) 26 (F v1 32).toNat = (j : Int) := wa_eq ⟨by omega, by omega⟩
    generalize wa v3 26 (F v1 32).toNat (j : Int) = w at *
    have nul := nu_le u0 p3.toNat
    have kw : KPR σ v1 w := KPR_nd KPR_rf nd (by omega)
    have sw := ST_nd g2 nd (by omega) (by omega) (fun z => by omega)
    refine hG w _ (Or.inl ⟨⟨(nd.1.F (by decide)).trans g0, p3, n3 + 1, q3, c3, f3, h3, n3.toNat, by rw [e32]; congr 1; omega, sw, KPR_tr b3 (KPR_tr kx (KPR_tr g3 kw)), g4, ?_, ⟨?_, by omega, ?_, ?_⟩, ?_, ?_⟩, ?_⟩)
    · have := DLT_tr b5 g5
      unfold DLT at this ⊢
      omega
    · unfold DLT at b5 g5; omega
    · rw [e32] at nw; exact RTD_mo 0 _ _ ⟨by unfold DLT at b5 g5; omega, nw.2.2.2.1⟩ (by omega)
    · rw [e32] at nw; exact nw.2.2.2.2.1
    · intro z; rw [nd.1.A (by decide)]; exact g7 (by rw [← z]; exact (nd.1.F (by decide)).symm)
    · rcases hb.2.1 with zz | ⟨zv, zg⟩
      · intro z1; exact absurd ((KPR_tr g3 kw).2.2.2.2.2.1 z1) zz
      · subst zv
        have t1 : TYG TN SN σ g (o - 1) (p3 - p + 1) u v1 0 (j + 1) (fun i => i = e ∨ False) := TYG_app (e := 1) b8 g3 (TYG_mo (lv2 := o - 1) g8 (Int.le_refl _) (by omega)) rfl (by unfold DLT at g5; omega) (by unfold DLT at b5; omega)
        have t2 : TYG TN SN σ g (o - 1) (p3 - p + 1) v1 w (j + 1) 1 (fun i => i = (F v1 32).toNat) := by
          refine TYG_nd (xx := j + 1) nd (by omega) g2.2.2.2.1 g7 (fun mm X Y y1 y2 => ?_) (by unfold DLT at b5; omega) (by omega)
          rw [show gq g = 0 by unfold gq; rw [if_pos zg]]
          exact s13 (ONE_nd nd (by omega)) nw ⟨Nat.le_refl _, y1, by omega, y2⟩ a26 g1.2
        refine TYG_ro (TYG_app (e := 0) t1 kw t2 rfl (Int.le_refl _) (by omega)) (fun i hi => Or.inr (by rw [e32]; exact hi)) (fun i hi => ?_)
        rcases hi with (hi | hi) | hi
        · refine Or.inr ?_
          rw [hi, nd.2.2.2.2 29 e (by rw [e32]; unfold DLT at g5; omega), g3.2.1.1 29 e (by decide) (by rw [b2.2.1.2.2.1]; omega)]
          exact b6.2.2.2
        · exact hi.elim
        · rw [e32] at hi; exact Or.inl hi
    · rw [e69, show F w 69 = p3 from sw.2.1.1]
      unfold DLT at g5; omega
  · have n0 := hv1.2.2.2.2.1
    refine k_node (k := 13) rfl (by decide) rfl (by omega) (by omega) (fun v3 hv3 => ?_)
    refine k_in (k := 26) (n := 16000) rfl (by decide) (by omega) (ok_lt.mpr ?_)
    rw [I_of (v3.1 84), wa_e]
    exact hG _ _ (Or.inr (FSM_wa (FSM_nd hv1 hv3.1) (by decide)))
theorem prim_loop (tk : TKW u0 TN SN bw) (hD : 0 ≤ D ∧ D ≤ 2900) (ho : 1 ≤ o ∧ o ≤ 25) (harg : XAR u0 TN SN bw D o S.2.2.2.2.2.2.2.2.2.1) (hm : NM TN bw 0 1 0 σ p o n q c f h s wt) : ∀ (i : Nat) (v : MS) (r : Int32), (EXQ u0 TN SN bw σ (o - 1) p o n q c f h s wt g u v r ∧ 4001 - F v 69 < i) ∨ (FSM u0 TN σ (D + 1) v ∧ 0 < i) → OK (RWQ u0 TN SN bw σ (D + 3) p o n q c f h s wt g u) (gg_M_primary N S i v (I p) r) := by
  have hT := tk.1.1
  have fs0 := NM_fs hm (by omega)
  intro i
  induction i with
  | zero =>
    intro v r hv
    rcases hv with ⟨⟨-, p2, n2, q2, c2, f2, h2, e, -, hs, -, hp, -⟩, z⟩ | ⟨-, z⟩
    · have : F v 69 = p2 := hs.2.1.1
      omega
    · exact absurd z (Nat.lt_irrefl 0)
  | succ i ih =>
    intro v r hv
    show OK _ (fb_M_primary_128 N S (gg_M_primary N S i) v (I p) r)
    unfold fb_M_primary_128 fb_M_primary_182
    rcases hv with ⟨hv, hi⟩ | ⟨hv, hi⟩
    · obtain ⟨b0, p2, n2, q2, c2, f2, h2, e, b1, b2, b3, b4, b5, -⟩ := id hv
      have e69 : F v 69 = p2 := b2.2.1.1
      have p2b : p ≤ p2 := by unfold DLT at b5; omega
      refine k_F (y := 0) rfl ⟨by decide, by decide⟩ (fun _ => ?_) (fun z => absurd b0 z)
      have next : ∀ w r2, (EXQ u0 TN SN bw σ (o - 1) p o n q c f h s wt g u w r2 ∧ F v 69 < F w 69) ∨ FSM u0 TN σ (D + 1) w → OK (RWQ u0 TN SN bw σ (D + 3) p o n q c f h s wt g u) (gg_M_primary N S i w (I p) r2) := fun w r2 hw => by
        refine ih w r2 ?_
        rcases hw with ⟨hw, hl⟩ | hw
        · exact Or.inl ⟨hw, by omega⟩
        · exact Or.inr ⟨hw, by omega⟩
      refine k_isSign (s := 0) rfl ⟨by decide, by decide⟩ (by omega) (fun z => ?_) (fun _ => ok_some.mpr (Or.inl hv))
      refine k_F (k := 73) (y := 0) rfl ⟨by decide, by decide⟩ (fun hg => ?_) (fun hg => ?_)
      · rw [b2.2.1.2.2.2.2.2.2.2.2.2.2.1] at hg
        exact prim_apply tk hD ho harg hm hv FR.rf ⟨b0, Or.inr ⟨rfl, hg⟩, b2.2.2.1.1⟩ next
      · refine k_rule (s := 7) (t := p) rfl ⟨by decide, by decide⟩ (by decide) rfl (by omega) b2.2.2.1.1 (fun v1 h1 h2 h3 => ?_)
        exact prim_apply tk hD ho harg hm hv h1 ⟨(h1.F (by decide)).trans b0, Or.inl h2, h3⟩ next
    · exact k_F (y := 0) rfl ⟨by decide, by decide⟩ (fun z => absurd z hv.2.1) (fun _ => ok_some.mpr (Or.inr (FSM_mo hv (by omega))))
def XPR (u0 : MS) (TN SN : Nat) (bw : Nat → Nat) (D o : Int) (fn : MS → Option (MS × Int32)) : Prop := ∀ (u : MS) (σ : Nat) (p n q c f h s wt g : Int), ST u0 σ p o n q c f h s wt g u → F u 67 = 0 → NM TN bw 0 1 0 σ p o n q c f h s wt → LGS σ u → OK (RWQ u0 TN SN bw σ D p o n q c f h s wt g u) (fn u)
theorem primary_ok (tk : TKW u0 TN SN bw) (hN : 5000 ≤ N) (hD : 0 ≤ D ∧ D ≤ 2900) (ho : 1 ≤ o ∧ o ≤ 25) (harg : XAR u0 TN SN bw D o S.2.2.2.2.2.2.2.2.2.1) (halo : XWP u0 TN SN bw D o (fun _ => True) S.2.2.2.2.2.2.2.2.1) : XPR u0 TN SN bw (D + 10) o (fm_M_primary N S) := by
  intro u σ p n q c f h s wt g hs hf hm hl
  have hT := tk.1.1
  have fs := NM_fs hm (by omega)
  have e69 : F u 69 = p := hs.2.1.1
  have a6 : ∀ i, A u 6 i = A u0 6 i := fun i => ST_A hs (by decide)
  have up : ∀ (x : Option (MS × Int32)), OK (RWQ u0 TN SN bw σ (D + 3) p o n q c f h s wt g u) x → OK (RWQ u0 TN SN bw σ (D + 10) p o n q c f h s wt g u) x := fun x hx => ok_mono hx (fun _ _ y => y.imp id (fun z => FSM_mo z (by omega)))
  have goN : ∀ w r2, EXQ u0 TN SN bw σ (o - 1) p o n q c f h s wt g u w r2 → OK (RWQ u0 TN SN bw σ (D + 3) p o n q c f h s wt g u) (gg_M_primary N S N w (I p) r2) := fun w r2 hw => by
    refine prim_loop tk hD ho harg hm N w r2 (Or.inl ⟨hw, ?_⟩)
    obtain ⟨b0, p2, n2, q2, c2, f2, h2, e, b1, b2, b3, b4, b5, -⟩ := hw
    have e69 : F w 69 = p2 := b2.2.1.1
    unfold DLT at b5
    omega
  have goF : ∀ w r2, FSM u0 TN σ (D + 1) w → OK (RWQ u0 TN SN bw σ (D + 3) p o n q c f h s wt g u) (gg_M_primary N S N w (I p) r2) := fun w r2 hw => prim_loop tk hD ho harg hm N w r2 (Or.inr ⟨hw, by omega⟩)
  have t122 : OK (RWQ u0 TN SN bw σ (D + 3) p o n q c f h s wt g u) (fb_M_primary_122 N S (gg_M_primary N S N) u (u.1 69)) := by
    unfold fb_M_primary_122
    rw [I_F' e69]
    refine ok_bnd.mpr (ok_mono (halo u σ _ _ _ _ _ _ _ _ _ hs hf trivial hm hl) (fun w r hw => ?_))
    rcases hw with hw | hw
    · exact goN w r hw
    · exact goF w r (FSM_mo hw (by omega))
  unfold fm_M_primary fb_M_primary_0
  refine up _ (k_F (y := 0) rfl ⟨by decide, by decide⟩ (fun _ => ?_) (fun z => absurd hf z))
  refine k_at (k := 6) (n := 4002) rfl (by decide) (by omega) ?_
  rw [tn_F, e69]
  refine k_A (y := 1) rfl ⟨by decide, by decide⟩ (fun z1 => ?_) (fun _ => t122)
  rw [a6] at z1
  have ltp := tok_lt tk (by omega) (show ¬ (A u0 6 (p).toNat = 0 ∨ A u0 6 (p).toNat = 7) by omega)
  have av := (tk.2.1 p.toNat (by omega)).2.2.1 z1
  have inb6 : ∀ (k : Nat) (y : Option (MS × Int32)), ln k = 4002 → OK (RWQ u0 TN SN bw σ (D + 3) p o n q c f h s wt g u) y → OK (RWQ u0 TN SN bw σ (D + 3) p o n q c f h s wt g u) (ck (inb ((u.1 69) + 1) (ln k)) y) := fun k y hk hy => by
    rw [I_F' e69, lit1q, I_add]
    exact k_in (n := 4002) hk (by decide) (by omega) hy
  refine inb6 6 _ rfl (ok_br.mpr ⟨fun z6 => inb6 7 _ rfl (ok_br.mpr ⟨fun z7 => ?_, fun _ => t122⟩), fun _ => t122⟩)
  refine ok_lt.mpr ?_
  rw [nx1_e]
  have s1 := ST_nx hs (show 0 ≤ p ∧ p ≤ 4001 by omega)
  have d1 := DLT_1 (n := n) (q := q) (c := c) (f := f) (h := h) (m := 0) tk ⟨by omega, ltp⟩ (by omega)
  rw [show n + 0 = n by omega] at d1
  have m1 := NM_mo (k2 := 3) (j2 := 0) (l2 := 0) (NM_dlt tk hm d1 (by omega) (by omega) (by omega)) (by omega) (by omega) (by omega)
  have l1 : LGS σ (nx1 u) := fun z => hl (by rw [← z]; exact (wi_ne (by decide)).symm)
  refine ok_bnd.mpr (ok_mono (harg (nx1 u) σ _ _ _ _ _ _ _ _ _ s1 ((wi_ne (by decide)).trans hf) m1 l1) (fun v1 _ hv1 => ?_))
  rw [I_F' e69]
  rcases hv1 with ⟨g0, j, p3, n3, q3, c3, f3, h3, g1, g2, g3, g4, g5, g6, g7, g8⟩ | hv1
  · have m3 := NM_dlt tk m1 g5 (by omega) (by omega) g4
    have fs3 := NM_fs m3 (by omega)
    have e32 : F v1 32 = n3 := g2.2.1.2.2.1
    refine k_node (k := 12) rfl (by decide) rfl (by omega) (by omega) (fun v3 hv3 => ?_)
    refine k_in (k := 7) (n := 4002) rfl (by decide) (by omega) (k_in (k := 25) (n := 16000) rfl (by decide) (by omega) (ok_lt.mpr ?_))
    have a7 : A v3 7 p.toNat = A u0 7 p.toNat := by rw [hv3.1.1.A (by decide)]; exact ST_A g2 (by decide)
    rw [I_tn (x := F v1 32) (by omega) (by omega), I_A' a7, wa_e]
    have e84 : F (wa v3 25 (F v1 32).toNat (A u0 7 p.toNat)) 84 = (j : Int) := (hv3.1.1.F (by decide)).trans g1.1
    refine k_in (k := 26) (n := 16000) rfl (by decide) (by omega) (ok_lt.mpr ?_)
    rw [I_F' e84, wa_e]
    have e73 : F (wa (wa v3 25 (F v1 32).toNat (A u0 7 p.toNat)) 26 (F v1 32).toNat (j : Int)) 73 = g := (hv3.1.1.F (by decide)).trans g2.2.1.2.2.2.2.2.2.2.2.2.2.1
    have nd0 : NDW v1 (wa (wa v3 25 (F v1 32).toNat (A u0 7 p.toNat)) 26 (F v1 32).toNat (j : Int)) 12 p := NDW_wa (NDW_wa hv3.1 (by decide)) (by decide)
    have nw0 : NEWN (wa (wa v3 25 (F v1 32).toNat (A u0 7 p.toNat)) 26 (F v1 32).toNat (j : Int)) (F v1 32).toNat 12 := NEWN_wa (NEWN_wa (NEWN_of hv3 (by omega)) (by decide)) (by decide)
    have a25 : A (wa (wa v3 25 (F v1 32).toNat (A u0 7 p.toNat)) 26 (F v1 32).toNat (j : Int)) 25 (F v1 32).toNat = A u0 7 p.toNat := by rw [wa_rne (by decide), wa_eq (ARG1 _ _ _)]
    have a26 : A (wa (wa v3 25 (F v1 32).toNat (A u0 7 p.toNat)) 26 (F v1 32).toNat (j : Int)) 26 (F v1 32).toNat = (j : Int) := wa_eq ⟨by omega, by omega⟩
    generalize wa (wa v3 25 (F v1 32).toNat (A u0 7 p.toNat)) 26 (F v1 32).toNat (j : Int) = w0 at *
    have fin : ∀ (t2 : Int32) (y : Int), t2 = I y → RG y → (g ≠ 0 → y = 1) → OK (RWQ u0 TN SN bw σ (D + 3) p o n q c f h s wt g u) (fb_M_primary_118 N S (gg_M_primary N S N) w0 (I p) (I (F v1 32)) 27 (I (F v1 32)) t2) := fun t2 y ht2 hy hyg => by
      unfold fb_M_primary_118
      rw [show isK 27 4 = true by decide, ck_t, ht2]
      refine k_in (k := 27) (n := 16000) rfl (by decide) (by omega) (ok_lt.mpr ?_)
      rw [I_tn (x := F v1 32) (by omega) (by omega), wa_e]
      have nd : NDW v1 (wa w0 27 (F v1 32).toNat y) 12 p := NDW_wa nd0 (by decide)
      have nw : NEWN (wa w0 27 (F v1 32).toNat y) (F v1 32).toNat 12 := NEWN_wa nw0 (by decide)
      have b25 : A (wa w0 27 (F v1 32).toNat y) 25 (F v1 32).toNat = A u0 7 p.toNat := by rw [wa_rne (by decide)]; exact a25
      have b26 : A (wa w0 27 (F v1 32).toNat y) 26 (F v1 32).toNat = (j : Int) := by rw [wa_rne (by decide)]; exact a26
      have b27 : A (wa w0 27 (F v1 32).toNat y) 27 (F v1 32).toNat = y := wa_eq hy
      generalize wa w0 27 (F v1 32).toNat y = w at *
      have kw : KPR σ v1 w := KPR_nd KPR_rf nd (by omega)
      have sw := ST_nd g2 nd (by omega) (by omega) (fun z => by rw [← e32, b25]; exact av)
      have d13 := DLT_tr d1 g5
      have nul := nu_le u0 p3.toNat
      refine goN w _ ⟨(nd.1.F (by decide)).trans g0, p3, n3 + 1, q3, c3, f3, h3, n3.toNat, by rw [e32]; congr 1; omega, sw, KPR_tr (KPR_w0 KPR_rf (by decide)) (KPR_tr g3 kw), g4, ?_, ⟨by unfold DLT at d13; omega, by omega, ?_, ?_⟩, ?_, ?_⟩
      · unfold DLT at d13 ⊢; omega
      · rw [e32] at nw; exact RTD_mo 0 _ _ ⟨by unfold DLT at d13; omega, nw.2.2.2.1⟩ (by omega)
      · rw [e32] at nw; exact nw.2.2.2.2.1
      · intro z; rw [nd.1.A (by decide)]; exact g7 (by rw [← z]; exact (nd.1.F (by decide)).symm)
      · have t1 : TYG TN SN σ g (o - 1) (p3 - p + 1) u v1 0 j (fun _ => False) := TYG_mo (TYG_u g8 (wi_mks (by decide)) rfl) (by omega) (by omega)
        have t2 : TYG TN SN σ g (o - 1) (p3 - p + 1) v1 w j 1 (fun i => i = (F v1 32).toNat) := by
          refine TYG_nd (xx := max 1 j) nd (by omega) g2.2.2.2.1 g7 (fun mm X Y y1 y2 => ?_) (by unfold DLT at d13; omega) (by omega)
          refine s12 (ONE_nd nd (by omega)) nw ⟨Nat.le_refl _, y1, by omega, by omega⟩ b26 g1.2 (fun z => ?_)
          rw [b27]
          refine hyg (fun zg => z ?_)
          unfold gq; rw [if_pos zg]
        refine TYG_ro (TYG_app (e := 0) t1 kw t2 rfl (Int.le_refl _) (by omega)) (fun i hi => Or.inr (by rw [e32]; exact hi)) (fun i hi => ?_)
        rcases hi with hi | hi
        · exact hi.elim
        · rw [e32] at hi; exact Or.inl hi
    refine k_F (k := 73) (y := 0) rfl ⟨by decide, by decide⟩ (fun zg => fin 0 0 rfl ⟨by decide, by decide⟩ (fun z => absurd (e73.symm.trans zg) z)) (fun zg => fin 1 1 rfl ⟨by decide, by decide⟩ (fun _ => rfl))
  · have n0 := hv1.2.2.2.2.1
    refine k_node (k := 12) rfl (by decide) rfl (by omega) (by omega) (fun v3 hv3 => ?_)
    refine k_in (k := 7) (n := 4002) rfl (by decide) (by omega) (k_in (k := 25) (n := 16000) rfl (by decide) (by omega) (ok_lt.mpr (k_in (k := 26) (n := 16000) rfl (by decide) (by omega) (ok_lt.mpr ?_))))
    rw [I_A (w := v3) (k := 7), wa_e, I_of ((wa v3 25 _ _).1 84), wa_e]
    have s3 := FSM_nd hv1 hv3.1
    have fin : ∀ (w0 : MS) (t2 : Int32), FSM u0 TN σ (D + 1) w0 → OK (RWQ u0 TN SN bw σ (D + 3) p o n q c f h s wt g u) (fb_M_primary_118 N S (gg_M_primary N S N) w0 (I p) (I (F v1 32)) 27 (I (F v1 32)) t2) := fun w0 t2 hw0 => by
      unfold fb_M_primary_118
      rw [show isK 27 4 = true by decide, ck_t]
      refine k_in (k := 27) (n := 16000) rfl (by decide) (by omega) (ok_lt.mpr ?_)
      rw [I_of t2, wa_e]
      exact goF _ _ (FSM_wa hw0 (by decide))
    exact ok_br.mpr ⟨fun _ => fin _ _ (FSM_wa (FSM_wa s3 (by decide)) (by decide)), fun _ => fin _ _ (FSM_wa (FSM_wa s3 (by decide)) (by decide))⟩
end
