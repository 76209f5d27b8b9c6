section
variable {α : Type} {Q : MS → α → Prop} {u0 u v v1 w x : MS} {N σ TN SN q0 q1 q2 q3 e : Nat} {bw : Nat → Nat} {p o n q c f h s wt g lv xb xb1 xb2 k t m D d y z l : Int} {R R1 R2 : Nat → Prop} {r y1 y2 y3 : Int32} {S : SG_M_behind} {a : Nat → Nat} {j : Nat}
theorem leaf_bw (tk : TKW u0 TN SN bw) (hp : 0 ≤ p ∧ p < TN) (hz : A u0 6 p.toNat = 4 ∨ A u0 6 p.toNat = 1 ∨ A u0 6 p.toNat = 5 ∨ A u0 6 p.toNat = 2) : bw p.toNat + 1 + nu u0 (p + 1).toNat ≤ bw (p + 1).toNat := by
  have b := tk.2.2.2.1 p.toNat (by omega)
  have e : (p + 1).toNat = p.toNat + 1 := by omega
  rw [e]
  have nl := nu_le u0 (p.toNat + 1)
  by_cases z : A u0 6 p.toNat = 5
  · have := b.2.2.2.1 z
    omega
  · have nz : nu u0 (p.toNat + 1) = 0 := by
      unfold nu
      rw [if_neg (by omega), show p.toNat + 1 - 1 = p.toNat by omega, if_pos (by omega)]
    have := b.1
    omega
theorem leaf2 (tk : TKW u0 TN SN bw) (ho : 0 ≤ o ∧ o ≤ 25) (hp : 0 ≤ p ∧ p < TN) (hn : 0 ≤ n) (hlv : lv ≤ 25) (hu32 : F u 32 = n) (hz0 : A u0 6 p.toNat = 4 ∨ A u0 6 p.toNat = 1 ∨ A u0 6 p.toNat = 5 ∨ A u0 6 p.toNat = 2) (sw : ST u0 σ p o (n + 1) q c f h s wt g w) (kw : KPR σ u w) (f67 : F w 67 = 0) (a60 : A w 60 σ = A u 60 σ) (nw : NEWN w n.toNat k) (hl : LGS σ u) (ty : F w 72 = 0 → ∀ mm X Y : Nat, nmo σ u ≤ mm → 1 ≤ X → SEQ w SN (gq g) (mks u) (mks w) 0 1 (nmo σ u) (nmo σ u) (nmo σ u) mm X Y (hlo σ w) (fun i => i = n.toNat)) : EXQ u0 TN SN bw σ lv p o n q c f h s wt g u (nx1 w) (I n) := by
  have hT := tk.1.1
  have d := DLT_1 (n := n) (q := q) (c := c) (f := f) (h := h) (m := 1) tk hp (by omega)
  have lb := leaf_bw tk hp hz0
  replace d : DLT bw 2 1 (1 + nu u0 (p + 1).toNat) p n q c f h (p + 1) (n + 1) q c f h := by unfold DLT at d ⊢; omega
  have s1 := (sw.2.2.2.1 σ (Nat.le_refl σ)).1
  have lw : LGS σ w := fun z => by rw [a60]; exact hl (kw.2.2.2.2.2.2 z)
  refine ⟨(wi_ne (by decide)).trans f67, p + 1, n + 1, q, c, f, h, n.toNat, by congr 1; omega, ST_nx sw (by omega), KPR_w0 kw (by decide), by omega, DLT_mo d (by omega) (by omega) (by omega), ⟨by omega, by omega, RTD_mo 0 _ _ ⟨by omega, nw.2.2.2.1⟩ (by omega), nw.2.2.2.2.1⟩, fun z => lw (by rw [← z]; exact (wi_ne (by decide)).symm), ?_⟩
  refine TYG_v (v := w) ?_ (KPR_w0 KPR_rf (by decide)) (wi_mks (by decide)) rfl
  intro z1 z2 z3
  have nm : nmo σ w = nmo σ u := by unfold nmo; rw [a60]
  have l1 := lw z2
  refine ⟨nmo σ u, 1, 0, ?_, ?_, ?_, by omega, by omega⟩
  · rw [nm]; exact ty z1 _ _ _ (Nat.le_refl _) (Nat.le_refl _)
  · unfold nmo; omega
  · unfold nmo; omega
theorem alone58_ok (tk : TKW u0 TN SN bw) (ho : 0 ≤ o ∧ o ≤ 25) (hm : NM TN bw 0 1 0 σ p o n q c f h s wt) (hs : ST u0 σ p o n q c f h s wt g u) (hf : F u 67 = 0) (hl : LGS σ u) (hp : p < TN) (hz : A u0 6 p.toNat = 4 ∨ A u0 6 p.toNat = 1) : OK (RWQ u0 TN SN bw σ D p o n q c f h s wt g u) (fb_M_alone_28 N S () u (I p)) := by
  have hT := tk.1.1
  have fs := NM_fs hm (by omega)
  have e32 : F u 32 = n := hs.2.1.2.2.1
  unfold fb_M_alone_28
  refine k_node (k := 1) rfl (by decide) rfl (by omega) (by omega) (fun v1 hv1 => ?_)
  rw [e32]
  have e69 : F v1 69 = p := by rw [hv1.1.1.F (by decide)]; exact hs.2.1.1
  have a6 : A v1 6 p.toNat = A u0 6 p.toNat := by rw [hv1.1.1.A (by decide)]; exact ST_A hs (by decide)
  have a7 : A v1 7 p.toNat = A u0 7 p.toNat := by rw [hv1.1.1.A (by decide)]; exact ST_A hs (by decide)
  refine k_at (k := 6) (n := 4002) rfl (by decide) (by omega) ?_
  rw [tn_F, e69]
  have main : ∀ (t2 : Int32) (y : Int), t2 = I y → (y = 0 ∨ (y = 1 ∧ 0 ≤ A u0 7 p.toNat ∧ A u0 7 p.toNat < F u0 14)) → OK (RWQ u0 TN SN bw σ D p o n q c f h s wt g u) (fb_M_alone_58 N S () v1 (I n) 25 (I n) t2) := fun t2 y ht2 hy => by
    unfold fb_M_alone_58 fb_M_alone_361
    rw [show isK 25 4 = true by decide, ck_t, ht2]
    refine k_in (k := 25) (n := 16000) rfl (by decide) (by omega) (ok_lt.mpr ?_)
    rw [I_tn (x := n) (by omega) (by omega), wa_e]
    have e69b : F (wa v1 25 n.toNat y) 69 = p := e69
    refine k_at (k := 7) (n := 4002) rfl (by decide) (by omega) (k_in (k := 26) (n := 16000) rfl (by decide) (by omega) (ok_lt.mpr (ok_lt.mpr (ok_some.mpr (Or.inl ?_)))))
    rw [tn_F, e69b, I_A' (show A (wa v1 25 n.toNat y) 7 p.toNat = A u0 7 p.toNat by rw [wa_rne (by decide)]; exact a7), wa_e, nx1_e]
    have nd : NDW u (wa (wa v1 25 n.toNat y) 26 n.toNat (A u0 7 p.toNat)) 1 p := by
      rw [← e32]; exact NDW_wa (NDW_wa hv1.1 (by decide)) (by decide)
    have nw : NEWN (wa (wa v1 25 n.toNat y) 26 n.toNat (A u0 7 p.toNat)) n.toNat 1 := by
      have := NEWN_of hv1 (show 0 ≤ p ∧ p < 4002 by omega)
      rw [e32] at this
      exact NEWN_wa (NEWN_wa this (by decide)) (by decide)
    have a25 : A (wa (wa v1 25 n.toNat y) 26 n.toNat (A u0 7 p.toNat)) 25 n.toNat = y := by rw [wa_rne (by decide), wa_eq ⟨by omega, by omega⟩]
    have a26 : A (wa (wa v1 25 n.toNat y) 26 n.toNat (A u0 7 p.toNat)) 26 n.toNat = A u0 7 p.toNat := wa_eq (ARG1 _ _ _)
    generalize wa (wa v1 25 n.toNat y) 26 n.toNat (A u0 7 p.toNat) = w at *
    have on := ONE_nd nd (show 0 ≤ F u 32 by omega)
    rw [e32] at on
    have sw := ST_nd hs nd (by omega) (by omega) (fun z => by omega)
    refine leaf2 tk ho (by omega) (by omega) (by omega) e32 (hz.imp id Or.inl) sw (KPR_nd KPR_rf nd (by omega)) ((nd.1.F (by decide)).trans hf) (nd.1.A (by decide)) nw hl (fun _ mm X Y h1 h2 => s1 on nw ⟨Nat.le_refl _, h1, h2⟩ ?_)
    rw [a25, a26, ST_F sw (by decide)]
    exact hy
  refine k_A (y := 4) rfl ⟨by decide, by decide⟩ (fun z => main 0 0 rfl (Or.inl rfl)) (fun z => main 1 1 rfl (Or.inr ⟨rfl, ?_⟩))
  rw [a6] at z
  exact (tk.2.1 p.toNat (by omega)).2.2.1 (hz.resolve_left z)
theorem alone114_ok (tk : TKW u0 TN SN bw) (ho : 0 ≤ o ∧ o ≤ 25) (hm : NM TN bw 0 1 0 σ p o n q c f h s wt) (hs : ST u0 σ p o n q c f h s wt g v) (hf : F v 67 = 0) (hl : LGS σ u) (hp : p < TN) (hz : A u0 6 p.toNat = 5) (ku : KPR σ u v) (mu : mks v = mks u) (a60 : A v 60 σ = A u 60 σ) (hu32 : F u 32 = n) : OK (RWQ u0 TN SN bw σ D p o n q c f h s wt g u) (fb_M_alone_114 N S () v (I p)) := by
  have hT := tk.1.1
  have fs := NM_fs hm (by omega)
  have e32 : F v 32 = n := hs.2.1.2.2.1
  have sv := (tk.2.1 p.toNat (by omega)).2.2.2.2.2 hz
  unfold fb_M_alone_114 fb_M_alone_361
  refine k_node (k := 2) rfl (by decide) rfl (by omega) (by omega) (fun v1 hv1 => ?_)
  rw [e32]
  have e69 : F v1 69 = p := by rw [hv1.1.1.F (by decide)]; exact hs.2.1.1
  have a7 : A v1 7 p.toNat = A u0 7 p.toNat := by rw [hv1.1.1.A (by decide)]; exact ST_A hs (by decide)
  refine k_at (k := 7) (n := 4002) rfl (by decide) (by omega) (k_in (k := 25) (n := 16000) rfl (by decide) (by omega) (ok_lt.mpr (ok_lt.mpr (ok_some.mpr (Or.inl ?_)))))
  rw [I_tn (x := n) (by omega) (by omega), tn_F, e69, I_A' a7, wa_e, nx1_e]
  have nd : NDW v (wa v1 25 n.toNat (A u0 7 p.toNat)) 2 p := by
    rw [← e32]; exact NDW_wa hv1.1 (by decide)
  have nw : NEWN (wa v1 25 n.toNat (A u0 7 p.toNat)) n.toNat 2 := by
    have := NEWN_of hv1 (show 0 ≤ p ∧ p < 4002 by omega)
    rw [e32] at this
    exact NEWN_wa this (by decide)
  have a25 : A (wa v1 25 n.toNat (A u0 7 p.toNat)) 25 n.toNat = A u0 7 p.toNat := wa_eq (ARG1 _ _ _)
  generalize wa v1 25 n.toNat (A u0 7 p.toNat) = w at *
  have on := ONE_nd nd (show 0 ≤ F v 32 by omega)
  rw [e32, mu] at on
  have sw := ST_nd hs nd (by omega) (by omega) (fun z => by omega)
  refine leaf2 tk ho (by omega) (by omega) (by omega) hu32 (Or.inr (Or.inr (Or.inl hz))) sw (KPR_nd ku nd (by omega)) ((nd.1.F (by decide)).trans hf) ((nd.1.A (by decide)).trans a60) nw hl (fun _ mm X Y h1 h2 => s2 on nw ⟨Nat.le_refl _, h1, h2⟩ ?_)
  rw [a25]
  exact sv
theorem alone201_ok (tk : TKW u0 TN SN bw) (hz2 : A u0 6 p.toNat = 2) (ho : 0 ≤ o ∧ o ≤ 25) (hm : NM TN bw 0 1 0 σ p o n q c f h s wt) (hl : LGS σ u) (hp : p < TN) (hu32 : F u 32 = n) (sw : ST u0 σ p o (n + 1) q c f h s wt g w) (kw : KPR σ u w) (f67 : F w 67 = 0) (a60 : A w 60 σ = A u 60 σ) (on : ONE (mks u) (mks w) n.toNat) (nw : NEWN w n.toNat 3) (hr : RG z) (hz : z ≠ -1 → NCO z (nmo σ u) (hlo σ w)) : OK (RWQ u0 TN SN bw σ D p o n q c f h s wt g u) (fb_M_alone_201 N S () w (I p) (I n) (I z)) := by
  have hT := tk.1.1
  have fs := NM_fs hm (by omega)
  have fin : ∀ v : MS, ST u0 σ p o (n + 1) q c f h s wt g v → KPR σ u v → F v 67 = 0 → (∀ r i, A v r i = A w r i) → mks v = mks w → (F v 72 = 0 → z ≠ -1) → OK (RWQ u0 TN SN bw σ D p o n q c f h s wt g u) (fb_M_alone_213 N S () v (I n) (I z)) := fun v h1 h2 h3 h4 h5 h6 => by
    unfold fb_M_alone_213 fb_M_alone_361
    refine k_in (k := 25) (n := 16000) rfl (by decide) (by omega) (ok_lt.mpr (ok_lt.mpr (ok_some.mpr (Or.inl ?_))))
    rw [I_tn (x := n) (by omega) (by omega), wa_e, nx1_e]
    have nw2 : NEWN v n.toNat 3 := by
      unfold NEWN at nw ⊢
      rw [h4, h4, h4, h4, h4]; exact nw
    have k3 : A v 23 n.toNat ≠ 12 := by rw [nw2.1]; decide
    have on2 : ONE (mks u) (mks (wa v 25 n.toNat z)) n.toNat := by
      rw [show mks (wa v 25 n.toNat z) = mks v from rfl, h5]; exact on
    refine leaf2 tk ho (by omega) (by omega) (by omega) hu32 (Or.inr (Or.inr (Or.inr hz2))) (ST_wa25 h1 k3) (KPR_wn h2 (by decide) (by omega)) h3 ((wa_rne (by decide)).trans ((h4 60 σ).trans a60)) (NEWN_wa nw2 (by decide)) hl (fun y mm X Y g1 g2 => s3 on2 (NEWN_wa nw2 (by decide)) ⟨Nat.le_refl _, g1, g2⟩ ?_)
    rw [wa_eq hr]
    have : hlo σ (wa v 25 n.toNat z) = hlo σ w := by unfold hlo; rw [wa_rne (by decide), h4]
    rw [this]
    exact hz (h6 y)
  unfold fb_M_alone_201
  rw [show (-1 : Int32) = I (-1) from rfl]
  refine k_eq hr ⟨by decide, by decide⟩ (fun e => ?_) (fun e => fin w sw kw f67 (fun _ _ => rfl) rfl (fun _ => e))
  refine k_rule (s := 5) (t := p) rfl ⟨by decide, by decide⟩ (by decide) rfl (by omega) sw.2.2.1.1 (fun v1 h1 h2 h3 => ?_)
  exact fin v1 (ST_rule sw h1 h3) (KPR_rule kw h1 h2) (by rw [h1.F (by decide)]; exact f67) (fun r i => h1.A (by intro z; cases z)) (fr_mks h1 (by decide)) (fun y => absurd y h2)
def XBL (u0 : MS) (TN SN : Nat) (bw : Nat → Nat) (D o : Int) (P : MS → Prop) (fn : MS → Int32 → Option (MS × Int32)) : Prop := ∀ (u : MS) (σ : Nat) (p n q c f h s wt : Int), ST u0 σ p o n q c f h s wt 0 u → F u 67 = 0 → P u → NM TN bw 0 1 0 σ p o n q c f h s wt → LGS σ u → OK (fun v r => (EXQ u0 TN SN bw σ (o - 1) p o n q c f h s wt 0 u v r ∧ ¬ IW u 9) ∨ FSM u0 TN σ D v) (fn u (I p))
theorem alone315_ok (tk : TKW u0 TN SN bw) (hD : 0 ≤ D ∧ D ≤ 2900) (ho : 1 ≤ o ∧ o ≤ 25) (hm : NM TN bw 0 1 0 σ p o n q c f h s wt) (hs : ST u0 σ p o n q c f h s wt g v) (hf : F v 67 = 0) (hl : LGS σ v) (hp : p < TN) (hz : A u0 6 p.toNat = 3) (ku : KPR σ u v) (mu : mks v = mks u) (nu : nmo σ v = nmo σ u) (hg : g = 0 ∨ F v 72 ≠ 0 ∨ IW v 9) (hfun : XBL u0 TN SN bw D o (fun u => IW u 7) S.2.2.2.2.2.2.1) (hblk : XBL u0 TN SN bw D o (fun u => TSO u = 3) S.2.2.2.2.2.1) : OK (RWQ u0 TN SN bw σ D p o n q c f h s wt g u) (fb_M_alone_315 N S () v (I p)) := by
  have hT := tk.1.1
  have fs := NM_fs hm (by omega)
  have eg : F v 73 = g := hs.2.1.2.2.2.2.2.2.2.2.2.2.1
  have g01 := hs.2.2.1.2.1
  have e69v : F v 69 = p := hs.2.1.1
  unfold fb_M_alone_315
  refine ok_lt.mpr ?_
  rw [lit0q, wi_e]
  have s0 := ST_73 (x := 0) hs (Or.inl rfl)
  have k0 : KPR σ v (wi v 73 0) := KPR_w0 KPR_rf (by decide)
  have f0 : F (wi v 73 0) 67 = 0 := (wi_ne (by decide)).trans hf
  have e69 : F (wi v 73 0) 69 = p := s0.2.1.1
  have iw : ∀ t, IW (wi v 73 0) t → IW v t := fun t ht => by
    unfold IW at ht ⊢
    rw [e69] at ht
    rw [e69v]
    exact ht
  have iwb : ∀ t, IW v t → IW (wi v 73 0) t := fun t ht => by
    unfold IW at ht ⊢
    rw [e69v] at ht
    rw [e69]
    exact ht
  have l0 : LGS σ (wi v 73 0) := fun z => hl (by rw [← z]; exact (wi_ne (by decide)).symm)
  have fin : ∀ (w : MS) (r : Int32), (EXQ u0 TN SN bw σ (o - 1) p o n q c f h s wt 0 (wi v 73 0) w r ∧ ¬ IW (wi v 73 0) 9) ∨ FSM u0 TN σ D w → OK (RWQ u0 TN SN bw σ D p o n q c f h s wt g u) (fb_M_alone_347 N S () w (v.1 73) r) := fun w r hw => by
    unfold fb_M_alone_347 fb_M_alone_361
    rw [I_F' eg]
    refine ok_ck.mpr ⟨?_, ok_lt.mpr (ok_some.mpr ?_)⟩
    · rcases g01 with z | z
      · rw [z]; rfl
      · rw [z]; rfl
    rw [wi_e]
    rcases hw with ⟨⟨b0, p2, n2, q2, c2, f2, h2, e, b1, b2, b3, b4, b5, b6, b7, b8⟩, nz⟩ | hw
    · have kw : KPR σ u w := KPR_tr ku (KPR_tr k0 b3)
      refine Or.inl ⟨(wi_ne (by decide)).trans b0, p2, n2, q2, c2, f2, h2, e, b1, ST_73 b2 g01, KPR_w0 kw (by decide), b4, b5, ⟨b6.1, b6.2.1, RTD_A b6.2.2.1 (fun _ _ _ => rfl), b6.2.2.2⟩, fun z => b7 (by rw [← z]; exact (wi_ne (by decide)).symm), ?_⟩
      refine TYG_v (v := w) ?_ (KPR_w0 KPR_rf (by decide)) (wi_mks (by decide)) rfl
      have t0 : TYG TN SN σ 0 (o - 1) (p2 - p + 1) u w 0 1 (fun i => i = e) := TYG_u b8 ((wi_mks (by decide)).trans mu) nu
      by_cases zg : g = 0
      · rw [zg]; exact t0
      · intro z1
        exfalso
        rcases hg with hg | hg | hg
        · exact zg hg
        · exact hg ((KPR_tr k0 b3).2.2.2.2.2.1 z1)
        · exact nz (iwb 9 hg)
    · exact Or.inr (FSM_wi hw (by decide))
  refine k_isWord (s := 7) rfl ⟨by decide, by decide⟩ (by omega) (fun z7 => ?_) (fun z7 => ?_)
  · exact ok_bnd.mpr (ok_mono (hfun _ σ _ _ _ _ _ _ _ _ s0 f0 z7 hm l0) (fun w r hw => fin w r hw))
  · refine ok_bnd.mpr (ok_mono (hblk _ σ _ _ _ _ _ _ _ _ s0 f0 ?_ hm l0) (fun w r hw => fin w r hw))
    show A (wi v 73 0) 6 (F (wi v 73 0) 69).toNat = 3
    rw [e69]
    show A v 6 p.toNat = 3
    rw [ST_A hs (by decide)]; exact hz
theorem alone_ok (tk : TKW u0 TN SN bw) (hN : 5000 ≤ N) (hD : 0 ≤ D ∧ D ≤ 2900) (ho : 1 ≤ o ∧ o ≤ 25) (hx : XSP u0 TN SN bw D 3 0 0 0 o S.2.2.2.2.2.2.2.2.2.2.2.2.2.1) (hrow : XWP u0 TN SN bw D o (fun u => IS u 2 ∨ IS u 4) S.2.2.2.2.2.2.2.1) (hfun : XBL u0 TN SN bw D o (fun u => IW u 7) S.2.2.2.2.2.2.1) (hblk : XBL u0 TN SN bw D o (fun u => TSO u = 3) S.2.2.2.2.2.1) : XWP u0 TN SN bw (D + 10) o (fun _ => True) (fm_M_alone N S) := by
  intro u σ p n q c f h s wt g hs hf _ hm hl
  have hT := tk.1.1
  have fs := NM_fs hm (by omega)
  have e69 : F u 69 = p := hs.2.1.1
  have e32 : F u 32 = n := hs.2.1.2.2.1
  have e65 : F u 65 = σ := hs.2.1.2.2.2.2.2.2.2.2.2.2.2
  have hp4 : 0 ≤ F u 69 ∧ F u 69 ≤ 4001 := by omega
  have a6 : A u 6 p.toNat = A u0 6 p.toNat := ST_A hs (by decide)
  have up : ∀ (x : Option (MS × Int32)), OK (RWQ u0 TN SN bw σ D p o n q c f h s wt g u) x → OK (RWQ u0 TN SN bw σ (D + 10) p o n q c f h s wt g u) x := fun x hx => ok_mono hx (fun _ _ y => y.imp id (fun z => FSM_mo z (by omega)))
  have inu : ∀ (y : Option (MS × Int32)), OK (RWQ u0 TN SN bw σ D p o n q c f h s wt g u) y → OK (RWQ u0 TN SN bw σ D p o n q c f h s wt g u) (ck (inb (u.1 69) (ln 6)) y) := fun y hy => k_at (k := 6) (n := 4002) rfl (by decide) (by omega) hy
  have tlt : ¬ (A u0 6 p.toNat = 0 ∨ A u0 6 p.toNat = 7) → p < TN := fun z => tok_lt tk (by omega) z
  refine up _ ?_
  unfold fm_M_alone fb_M_alone_0
  rw [tn_F, e69]
  refine inu _ (k_A (y := 4) rfl ⟨by decide, by decide⟩ (fun z => ?_) (fun z4 => ?_))
  · rw [a6] at z
    exact alone58_ok tk (by omega) hm hs hf hl (tlt (by omega)) (Or.inl z)
  refine inu _ (k_A (y := 1) rfl ⟨by decide, by decide⟩ (fun z => ?_) (fun z1 => ?_))
  · rw [a6] at z
    exact alone58_ok tk (by omega) hm hs hf hl (tlt (by omega)) (Or.inr z)
  refine inu _ (k_A (y := 5) rfl ⟨by decide, by decide⟩ (fun z => ?_) (fun z5 => ?_))
  · rw [a6] at z
    refine k_F (k := 73) (y := 0) rfl ⟨by decide, by decide⟩ (fun _ => alone114_ok tk (by omega) hm hs hf hl (tlt (by omega)) z KPR_rf rfl rfl e32) (fun _ => ?_)
    refine k_rule (s := 7) (t := p) rfl ⟨by decide, by decide⟩ (by decide) rfl (by omega) hs.2.2.1.1 (fun v1 h1 h2 h3 => ?_)
    exact alone114_ok tk (by omega) hm (ST_rule hs h1 h3) ((h1.F (by decide)).trans hf) hl (tlt (by omega)) z (KPR_rule KPR_rf h1 h2) (fr_mks h1 (by decide)) (h1.A (by intro z; cases z)) e32
  refine inu _ (k_A (y := 2) rfl ⟨by decide, by decide⟩ (fun z => ?_) (fun z2 => ?_))
  · rw [a6] at z
    have ltp := tlt (by omega)
    obtain ⟨⟨k1, k2⟩, k3, ⟨k4, k5, k6⟩, -⟩ := id tk
    have kv := (k3 p.toNat (by omega)).2.2.2.1 z
    have a16 := k6 (A u0 7 p.toNat).toNat (by omega)
    refine k_node (k := 3) rfl (by decide) rfl (by omega) (by omega) (fun v1 hv1 => ?_)
    rw [e32]
    have s1 := ST_nd hs (v := v1) (k := 3) (t := p) hv1.1 (by omega) (by omega) (fun z => by omega)
    have e69b : F v1 69 = p := s1.2.1.1
    have e65b : F v1 65 = σ := s1.2.1.2.2.2.2.2.2.2.2.2.2.2
    have a7 : A v1 7 p.toNat = A u0 7 p.toNat := ST_A s1 (by decide)
    have kp1 : KPR σ u v1 := KPR_nd KPR_rf hv1.1 (by omega)
    have nw := NEWN_of hv1 (show 0 ≤ p ∧ p < 4002 by omega)
    have on := ONE_nd hv1.1 (show 0 ≤ F u 32 by omega)
    rw [e32] at nw on
    have f1 : F v1 67 = 0 := (hv1.1.1.F (by decide)).trans hf
    have b60 : A v1 60 σ = A u 60 σ := hv1.1.1.A (by decide)
    rw [I_F' e69b]
    obtain ⟨pn, hpn⟩ : ∃ pn : Nat, p = pn := ⟨p.toNat, by omega⟩
    have tp : p.toNat = pn := by omega
    have us := underscore_ok (N := N) (u := v1) (i := pn) (by omega) (by rw [← tp, a7]; omega) (by rw [← tp, a7, ST_A s1 (by decide)]; exact a16)
    rw [← hpn] at us
    refine ok_bnd.mpr (ok_mono us (fun v2 r2 hv2 => ?_))
    obtain ⟨rfl, hr2⟩ := hv2
    rcases hr2 with hr2 | hr2
    · rw [hr2, br00]
      refine k_at (k := 7) (n := 4002) rfl (by decide) (by omega) ?_
      rw [tn_F, e69b, I_A' a7, I_F' e65b]
      refine ok_bnd.mpr (ok_mono (found_ok (nm := F u0 17) hN k5 k4 (ARG1 u0 7 _) 30 σ (by omega) (by omega) s1.2.2.2.1) (fun v3 r3 hv3 => ?_))
      obtain ⟨r', hr, g1, g2, g3, g4⟩ := hv3
      have c60 : A v3 60 σ = A u 60 σ := (g1.A (by decide)).trans b60
      have rr : RG r' := by
        rcases g4 with ⟨z, -⟩ | z
        · rw [z]; exact ⟨by decide, by decide⟩
        · have := (g3 σ (Nat.le_refl σ)).1
          have h6 : A v3 60 σ < 2147483648 := (A_r v3 60 _).2
          unfold NCO at z
          exact ⟨by omega, by omega⟩
      rw [hr]
      refine alone201_ok tk z (by omega) hm hl ltp e32 (ST_sc s1 (FR.mo g1 (by decide) (by decide) (by decide) (by decide)) g3 (Or.inl (g1.F (by decide)))) (KPR_tr kp1 g2) ((g1.F (by decide)).trans f1) c60 ?_ ?_ rr (fun e => ?_)
      · rw [fr_mks g1 (by decide)]; exact on
      · unfold NEWN at nw ⊢
        rw [g1.A (by decide), g1.A (by decide), g1.A (by decide), g1.A (by decide), g1.A (by decide)]
        exact nw
      · rcases g4 with ⟨z, -⟩ | z
        · exact absurd z e
        · unfold nmo hlo
          rw [← c60]; exact z
    · rw [hr2, br10, show (-1 : Int32) = I (-1) from rfl]
      exact alone201_ok tk z (by omega) hm hl ltp e32 s1 kp1 f1 b60 on nw ⟨by decide, by decide⟩ (fun e => absurd rfl e)
  refine k_takeSign (s := 0) rfl ⟨by decide, by decide⟩ hp4 (fun _ z0 => ?_) (fun z0 => ?_)
  · rw [br10]
    have zt := ST_IS hs z0
    have ltp := tlt (by omega)
    have s1 := ST_nx hs (show 0 ≤ p ∧ p ≤ 4001 by omega)
    have d1 := DLT_1 (n := n) (q := q) (c := c) (f := f) (h := h) (m := 0) tk ⟨by omega, ltp⟩ (by omega)
    rw [show n + 0 = n by omega] at d1
    have m1 := NM_mo (k2 := 3) (j2 := 0) (l2 := 0) (NM_dlt tk hm d1 (by omega) (by omega) (by omega)) (by omega) (by omega) (by omega)
    have l1 : LGS σ (nx1 u) := fun z => hl (by rw [← z]; exact (wi_ne (by decide)).symm)
    refine ok_bnd.mpr (ok_mono (hx (nx1 u) σ _ _ _ _ _ _ _ _ _ s1 ((wi_ne (by decide)).trans hf) m1 l1) (fun v r hv => ?_))
    rcases hv with ⟨b0, p2, n2, q2, c2, f2, h2, e, b1, b2, b3, b4, b5, b6, b7, b8⟩ | hv
    · have e69v : F v 69 = p2 := b2.2.1.1
      have m2 := NM_dlt tk m1 b5 (by omega) (by omega) b4
      have fs2 := NM_fs m2 (by omega)
      have kv : KPR σ u v := KPR_tr (KPR_w0 KPR_rf (by decide)) b3
      refine k_needSign (s := 1) rfl ⟨by decide, by decide⟩ (by omega) (fun _ zc => ?_) (fun v2 g1 g2 => ?_)
      · have zc2 := ST_IS b2 zc
        have ltp2 := tok_lt tk (by omega) (show ¬ (A u0 6 (p2).toNat = 0 ∨ A u0 6 (p2).toNat = 7) by omega)
        have d2 := DLT_1 (n := n2) (q := q2) (c := c2) (f := f2) (h := h2) (m := 0) tk ⟨by omega, ltp2⟩ (by omega)
        rw [show n2 + 0 = n2 by omega] at d2
        have nul := nu_le u0 (p2 + 1).toNat
        unfold fb_M_alone_361
        refine ok_some.mpr (Or.inl ⟨(wi_ne (by decide)).trans b0, p2 + 1, n2, q2, c2, f2, h2, e, b1, ST_nx b2 (by omega), KPR_w0 kv (by decide), by omega, DLT_mo (DLT_tr (DLT_tr d1 b5) d2) (by omega) (by omega) (by omega), ⟨b6.1, b6.2.1, RTD_mo _ _ _ (RTD_A b6.2.2.1 (fun _ _ _ => rfl)) (by omega), b6.2.2.2⟩, fun z => b7 (by rw [← z]; exact (wi_ne (by decide)).symm), ?_⟩)
        exact TYG_mo (TYG_v (TYG_u b8 (wi_mks (by decide)) rfl) (KPR_w0 KPR_rf (by decide)) (wi_mks (by decide)) rfl) (by omega) (by omega)
      · unfold fb_M_alone_361
        exact ok_some.mpr (Or.inr (FSM_of (ST_67 b2 g1) (by omega) (by omega) fs2.1 g2))
    · refine k_needSign (s := 1) rfl ⟨by decide, by decide⟩ (FSM_p hv.1 hT) (fun z => absurd z hv.1.2.1) (fun v2 g1 g2 => ?_)
      unfold fb_M_alone_361
      exact ok_some.mpr (Or.inr (FSM_67 hv.1 g1 g2))
  · rw [br00]
    have t270 : IS u 2 ∨ IS u 4 → OK (RWQ u0 TN SN bw σ D p o n q c f h s wt g u) (fb_M_alone_270 N S () u (I p)) := fun zz => by
      unfold fb_M_alone_270 fb_M_alone_361
      exact ok_bnd.mpr (ok_mono (hrow u σ _ _ _ _ _ _ _ _ _ hs hf zz hm hl) (fun v r hv => ok_some.mpr hv))
    refine k_isSign (s := 2) rfl ⟨by decide, by decide⟩ hp4 (fun zz => t270 (Or.inl zz)) (fun _ => ?_)
    refine k_isSign (s := 4) rfl ⟨by decide, by decide⟩ hp4 (fun zz => t270 (Or.inr zz)) (fun _ => ?_)
    refine inu _ ?_
    refine k_A (y := 3) rfl ⟨by decide, by decide⟩ (fun z3 => ?_) (fun z3 => ?_)
    · rw [tn_F, e69, a6] at z3
      have ltp := tlt (by omega)
      refine k_F (k := 73) (y := 0) rfl ⟨by decide, by decide⟩ (fun hg => ?_) (fun hg => ?_)
      · rw [hs.2.1.2.2.2.2.2.2.2.2.2.2.1] at hg
        exact alone315_ok tk hD ho hm hs hf hl ltp z3 KPR_rf rfl rfl (Or.inl hg) hfun hblk
      · refine k_isWord (s := 9) rfl ⟨by decide, by decide⟩ hp4 (fun z9 => alone315_ok tk hD ho hm hs hf hl ltp z3 KPR_rf rfl rfl (Or.inr (Or.inr z9)) hfun hblk) (fun _ => ?_)
        refine k_rule (s := 7) (t := p) rfl ⟨by decide, by decide⟩ (by decide) rfl (by omega) hs.2.2.1.1 (fun v1 h1 h2 h3 => ?_)
        refine alone315_ok tk hD ho hm (ST_rule hs h1 h3) ((h1.F (by decide)).trans hf) (fun z => ?_) ltp z3 (KPR_rule KPR_rf h1 h2) (fr_mks h1 (by decide)) ?_ (Or.inr (Or.inl h2)) hfun hblk
        · rw [h1.A (by intro z; cases z)]; exact hl (by rw [← z]; exact (h1.F (by decide)).symm)
        · unfold nmo; rw [h1.A (by intro z; cases z)]
    · unfold fb_M_alone_361
      exact k_wrong (s := 2) rfl ⟨by decide, by decide⟩ (by decide) hp4 (fun v1 h1 h2 => ok_some.mpr (Or.inr (FSM_of (ST_67 hs h1) (by omega) (by omega) fs.1 h2)))
end
