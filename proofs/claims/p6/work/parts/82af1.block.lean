section
variable {Q : MS → Int32 → Prop} {u0 u v w x V X : MS} {N σ TN SN e j k n0 R0 : Nat} {bw : Nat → Nat} {p o n q c f h s wt g D d B l z t p1 n1 q1 c1 f1 h1 a : Int} {r v2 v3 v4 : Int32} {S : SG_M_behind}
theorem NM_j (hm : NM TN bw 0 1 0 σ p o n q c f h s wt) : NM TN bw 0 0 0 σ p o n q c f h s wt := by unfold NM at hm ⊢; omega
theorem DLT_b0 {p2 n2 q2 c2 f2 h2 : Int} (dn : DLT bw 3 1 1 p n q c f h (p + 1) n q c f h) (x5 : DLT bw 3 1 1 (p + 1) n q c f h p2 n2 q2 c2 f2 h2) : DLT bw 2 1 1 p n q c f h p2 n2 q2 c2 f2 h2 := by
  have t := DLT_tr dn x5
  unfold DLT at t ⊢
  omega
theorem CHQ_EXQ (ho : 0 ≤ o ∧ o ≤ 25) (hn : 0 ≤ n) (hs : ST u0 σ p o n q c f h s wt 0 u) (hl : LGS σ u) (dn : DLT bw 3 1 1 p n q c f h (p + 1) n q c f h) (hc : CHQ u0 TN SN bw σ 0 (p + 1) o n q c f h s wt (nx1 u) x r) : EXQ u0 TN SN bw σ (o - 1) p o n q c f h s wt 0 u x r := by
  obtain ⟨b0, p2, n2, q2, c2, f2, h2, e, b1, b2, b3, ⟨b4, b5, b6⟩, b7, b8, b9, b10⟩ := hc
  have kc : KPR σ u (nx1 u) := KPR_w0 KPR_rf (by decide)
  have ku := KPR_tr kc b3
  have x60 : A x 60 σ = A u 60 σ := b9
  refine ⟨b0, p2, n2, q2, c2, f2, h2, e, b1, b2, ku, b4, by rw [b6]; exact DLT_b0 dn b7, ⟨b8.1, b8.2.1, RTD_mo _ _ _ b8.2.2.1 (by omega), b8.2.2.2⟩, fun y => by rw [x60]; exact hl (ku.2.2.2.2.2.2 y), fun y1 y2 y3 => ?_⟩
  obtain ⟨mm, X, Y, g1, g2, g3, g4, g5⟩ := b10 y1 y2 y3
  have mv : mks (nx1 u) = mks u := wi_mks (by decide)
  have nv : nmo σ (nx1 u) = nmo σ u := rfl
  have nx : nmo σ x = nmo σ u := by unfold nmo; rw [x60]
  rw [mv, nv] at g1
  refine ⟨mm, X, Y, ?_, g2, g3, by omega, by omega⟩
  rw [nx]
  exact g1
theorem DLT_b1 {p1 n1 q1 c1 f1 h1 p2 n2 q2 c2 f2 h2 : Int} {bb : Nat} (dn : DLT bw 3 1 1 p n q c f h (p + 1) n q c f h) (x5 : DLT bw 2 1 bb (p + 1) n q c f h p1 n1 q1 c1 f1 h1) (d2 : DLT bw 3 1 1 p1 n1 q1 c1 f1 h1 (p1 + 1) n1 q1 c1 f1 h1) (d3 : DLT bw 3 1 1 (p1 + 1) n1 q1 c1 f1 h1 p2 n2 q2 c2 f2 h2) : DLT bw 2 1 1 p n q c f h p2 n2 q2 c2 f2 h2 := by
  have t := DLT_tr (DLT_tr (DLT_tr dn x5) d2) d3
  unfold DLT at t ⊢
  omega
theorem CHQ_case {p1 n1 q1 c1 f1 h1 : Int} {r1 : Int32} (ho : 0 ≤ o ∧ o ≤ 25) (hn : 0 ≤ n) (dn : DLT bw 3 1 1 p n q c f h (p + 1) n q c f h) (he : EXQ u0 TN SN bw σ o (p + 1) o n q c f h s wt 0 (nx1 u) v r1) (sv : ST u0 σ p1 o n1 q1 c1 f1 h1 s wt 0 v) (d2 : DLT bw 3 1 1 p1 n1 q1 c1 f1 h1 (p1 + 1) n1 q1 c1 f1 h1) (hc : CHQ u0 TN SN bw σ 1 (p1 + 1) o n1 q1 c1 f1 h1 s wt (nx1 v) x r) : EXQ u0 TN SN bw σ (o - 1) p o n q c f h s wt 0 u x r := by
  obtain ⟨a0, p1', n1', q1', c1', f1', h1', e0, -, a2, a3, a4, a5, a6, a7, a8⟩ := he
  obtain ⟨-, ⟨s1, -, s2, s3, s4, s5, s6, -⟩, -⟩ := id sv
  obtain ⟨-, ⟨t1, -, t2, t3, t4, t5, t6, -⟩, -⟩ := id a2
  obtain rfl : p1' = p1 := t1.symm.trans s1
  obtain rfl : n1' = n1 := t2.symm.trans s2
  obtain rfl : q1' = q1 := t3.symm.trans s3
  obtain rfl : c1' = c1 := t4.symm.trans s4
  obtain rfl : f1' = f1 := t5.symm.trans s5
  obtain rfl : h1' = h1 := t6.symm.trans s6
  obtain ⟨b0, p2, n2, q2, c2, f2, h2, e, b1, b2, b3, ⟨b4, b5, b6⟩, b7, b8, b9, b10⟩ := hc
  have kc : KPR σ u (nx1 u) := KPR_w0 KPR_rf (by decide)
  have kd : KPR σ v (nx1 v) := KPR_w0 KPR_rf (by decide)
  have kvx := KPR_tr kd b3
  have ku := KPR_tr (KPR_tr kc a3) kvx
  have x60 : A x 60 σ = A v 60 σ := b9
  have nn1 : n ≤ n1' := a5.2.1
  have pp1 : p + 2 ≤ p1' := by have := a5.1; omega
  have v32 : F v 32 = n1' := s2
  refine ⟨b0, p2, n2, q2, c2, f2, h2, e, b1, b2, ku, b4, by rw [b6]; exact DLT_b1 dn a5 d2 b7, ⟨by omega, b8.2.1, RTD_dn (a := n1'.toNat) (by omega) _ _ (RTD_mo _ _ _ b8.2.2.1 (by omega)), b8.2.2.2⟩, fun y => by rw [x60]; exact a7 (kvx.2.2.2.2.2.2 y), fun y1 y2 y3 => ?_⟩
  obtain ⟨mm, X, Y, g1, g2, g3, g4, g5⟩ := b10 y1 y2 y3
  obtain ⟨mm2, X2, Y2, k1, k2, k3, k4, k5⟩ := a8 (kvx.2.2.2.2.2.1 y1) (kvx.2.2.2.2.2.2 y2) y3
  have mu : mks (nx1 u) = mks u := wi_mks (by decide)
  have mv : mks (nx1 v) = mks v := wi_mks (by decide)
  have nu' : nmo σ (nx1 u) = nmo σ u := rfl
  have nv : nmo σ (nx1 v) = nmo σ v := rfl
  have nx : nmo σ x = nmo σ v := by unfold nmo; rw [x60]
  have kn := KPR_n kvx
  have kn2 := KPR_n a3
  rw [nu'] at kn2
  rw [mv, nv] at g1
  rw [mu, nu'] at k1
  have k1' := SEQ_kp k1 (fun i => Nat.le_refl _) kvx
  have g1' := SEQ_mo (lo2 := nmo σ u) (mm2 := max mm mm2) (X2 := max (X + 1) X2) (Y2 := max Y Y2) (sh2 := hlo σ x) g1 kn2.1 (Nat.le_max_left _ _) (Nat.le_max_left _ _) (Nat.le_max_left _ _) (Nat.le_refl _)
  have k1'' := SEQ_mo (lo2 := nmo σ u) (mm2 := max mm mm2) (X2 := max (X + 1) X2) (Y2 := max Y Y2) (sh2 := hlo σ x) k1' (Nat.le_refl _) (Nat.le_max_right _ _) (Nat.le_max_right _ _) (Nat.le_max_right _ _) kn.2.1
  have sq := SEQ_app k1'' g1'
  refine ⟨max mm mm2, max (X + 1) X2, max Y Y2, ?_, by omega, by omega, by omega, by omega⟩
  rw [nx]
  refine SEQ_ro sq (fun i hi => Or.inr hi) (fun i hi => ?_)
  rcases hi with hi | hi
  · refine Or.inr ?_
    rw [hi, kvx.2.1.1 29 e0 (by decide) (by omega)]
    exact a6.2.2.2
  · exact Or.inl hi
theorem DLT_b2 {p1 n1 q1 c1 f1 h1 n2 : Int} {bb : Nat} (dn : DLT bw 3 1 1 p n q c f h (p + 1) n q c f h) (x5 : DLT bw 2 1 bb (p + 1) n q c f h p1 n1 q1 c1 f1 h1) (d2 : DLT bw 3 1 1 p1 n1 q1 c1 f1 h1 (p1 + 1) n1 q1 c1 f1 h1) (hn : n1 ≤ n2 ∧ n2 ≤ n1 + 1) : DLT bw 2 1 1 p n q c f h (p1 + 1) (n2 + 1) q1 c1 f1 h1 := by
  have t := DLT_tr (DLT_tr dn x5) d2
  unfold DLT at t ⊢
  omega
set_option maxRecDepth 100000 in
theorem begin_b (tk : TKW u0 TN SN bw) (hD : 0 ≤ D ∧ D ≤ 2900) (ho : 0 ≤ o ∧ o ≤ 25) (hb : XSB u0 TN SN bw D o S.2.2.2.2.1) (hs : ST u0 σ p o n q c f h s wt 0 u) (hf : F u 67 = 0) (hm : NM TN bw 0 0 0 σ p o n q c f h s wt) (hl : LGS σ u) (hp : p < TN) : OK (fun x r => EXQ u0 TN SN bw σ (o - 1) p o n q c f h s wt 0 u x r ∨ FSM u0 TN σ (D + 2) x) (bnd (S.2.2.2.2.1 (nx1 u)) (fun u14 r14 => bnd (fm_M_needWord N u14 6) (fun u15 _ => bnd (fm_M_unbind N u15 (I (A u 60 σ))) (fun u16 _ => bnd (fm_M_node N u16 30 (u16.1 69)) (fun u17 r17 => bnd (fm_M_addRoot N u17 r17 r14) (fun u18 _ => some (u18, r17))))))) := by
  have hT := tk.1.1
  have fs := NM_fs hm (by omega)
  have e32 : F u 32 = n := hs.2.1.2.2.1
  have sc := (hs.2.2.2.1 σ (Nat.le_refl σ)).1
  have dn := DLT_1 (n := n) (q := q) (c := c) (f := f) (h := h) (m := 0) tk ⟨by omega, hp⟩ (by omega)
  rw [show n + 0 = n by omega] at dn
  have s1 := ST_nx hs (by omega)
  have kc : KPR σ u (nx1 u) := KPR_w0 KPR_rf (by decide)
  have nm1 := NM_3 (NM_dlt tk hm dn (by omega) (by omega) (by omega)) (by omega)
  have l1 : LGS σ (nx1 u) := fun z => hl (kc.2.2.2.2.2.2 z)
  refine ok_bnd.mpr (ok_mono (hb (nx1 u) σ _ _ _ _ _ _ _ _ s1 ((wi_ne (by decide)).trans hf) nm1 l1) (fun v r hv => ?_))
  have bad : ∀ (w : MS) (r : Int32) (x : Int), FSM u0 TN σ D w → r = I x → x = -1 ∨ (0 ≤ x ∧ x < 15000) → OK (fun x r => EXQ u0 TN SN bw σ (o - 1) p o n q c f h s wt 0 u x r ∨ FSM u0 TN σ (D + 2) x) (bnd (fm_M_unbind N w (I (A u 60 σ))) (fun u16 _ => bnd (fm_M_node N u16 30 (u16.1 69)) (fun u17 r17 => bnd (fm_M_addRoot N u17 r17 r) (fun u18 _ => some (u18, r17))))) := fun w r x hw hr hx => by
    refine unbind_F hw hT (by omega) (by omega) (fun x1 hx1 => ?_)
    have n0 := hx1.2.2.2.2.1
    have p0 := FSM_p hx1 hT
    refine k_node (k := 30) (t := F x1 69) rfl (by decide) I_F (by omega) (by omega) (fun v1 hv1 => ?_)
    have s9 := FSM_nd hx1 hv1.1
    rw [show D + 1 + 1 = D + 2 by omega] at s9
    rw [hr]
    rcases hx with hx | hx
    · rw [hx, show I (-1) = (-1 : Int32) from rfl, addRoot_0, bnd_so]
      exact ok_some.mpr (Or.inr s9)
    · rw [show F x1 32 = (((F x1 32).toNat : Nat) : Int) by omega, show x = ((x.toNat : Nat) : Int) by omega, addRoot_1 (by omega) (by omega), bnd_so]
      exact ok_some.mpr (Or.inr (FSM_wa (FSM_wa s9 (by decide)) (by decide)))
  rcases hv with ⟨b0, p2, n2, q2, c2, f2, h2, e, b1, b2, b3, b4, b5, b6, b7, b8⟩ | ⟨hv, x, hx, hx2⟩
  · have nm2 := NM_dlt tk nm1 b5 (by omega) (by omega) b4
    have fs2 := NM_fs nm2 (by omega)
    have e69v : F v 69 = p2 := b2.2.1.1
    have e32v : F v 32 = n2 := b2.2.1.2.2.1
    have hn2 : n ≤ n2 ∧ p + 2 ≤ p2 := ⟨b5.2.1, by have := b5.1; omega⟩
    refine k_needWord (s := 6) rfl ⟨by decide, by decide⟩ (by omega) (fun _ zz => ?_) (fun v2 h3 h4 => ?_)
    · have z2 := ST_IW b2 zz
      have ltp := tok_lt tk (by omega) (show ¬ (A u0 6 (p2).toNat = 0 ∨ A u0 6 (p2).toNat = 7) by omega)
      have de := DLT_1 (n := n2) (q := q2) (c := c2) (f := f2) (h := h2) (m := 0) tk ⟨by omega, ltp⟩ (by omega)
      rw [show n2 + 0 = n2 by omega] at de
      have s2 := ST_nx b2 (by omega)
      have kd : KPR σ v (nx1 v) := KPR_w0 KPR_rf (by decide)
      have kuv := KPR_tr kc (KPR_tr b3 kd)
      have e32n : F (nx1 v) 32 = n2 := s2.2.1.2.2.1
      refine unbind_P (SN := SN) (u := u) s2 ((wi_ne (by decide)).trans b0) kuv (by omega) (by omega) (by omega) rfl ⟨sc.1, rfl⟩ (fun y => hl (kuv.2.2.2.2.2.2 y)) (fun w nw hn sw f6 kw ub w60 tr sx => ?_)
      have e69w : F w 69 = p2 + 1 := sw.2.1.1
      have e32w : F w 32 = nw := sw.2.1.2.2.1
      refine k_node (k := 30) (t := p2 + 1) rfl (by decide) (I_F' e69w) (by omega) (by omega) (fun v1 hv1 => ?_)
      rw [e32w, b1, show nw = ((nw.toNat : Nat) : Int) by omega, addRoot_1 (by omega) (by omega), bnd_so]
      have nd := hv1.1
      have nn : NEWN v1 nw.toNat 30 := by
        have := NEWN_of hv1 (by omega)
        rw [e32w] at this
        exact this
      have v29 : A v1 29 e = -1 := by
        rw [nd.2.2.2.2 29 e (by omega), ub.2 29 e (by decide) (by omega)]
        exact b6.2.2.2
      have ea : adr v1 nw.toNat e = wa v1 28 nw.toNat e := by
        unfold adr
        rw [wa_self (k := 29) (i := e) (by rw [nn.2.2.2.1]; exact v29)]
      have re : RG ((e : Nat) : Int) := ⟨by omega, by omega⟩
      rw [ea]
      have sx1 : ST u0 σ (p2 + 1) o (nw + 1) q2 c2 f2 h2 s wt 0 (wa v1 28 nw.toNat e) := ST_wa (ST_nd sw nd (by omega) (by omega) (fun z => by omega)) (by decide)
      have kx : KPR σ w (wa v1 28 nw.toNat e) := KPR_wn (KPR_nd KPR_rf nd (by omega)) (by decide) (by omega)
      have x28 : A (wa v1 28 nw.toNat e) 28 nw.toNat = e := wa_eq re
      have xr : ∀ r, r ≠ 28 → A (wa v1 28 nw.toNat e) r nw.toNat = A v1 r nw.toNat := fun r hr => wa_rne hr
      have f7 : F (wa v1 28 nw.toNat e) 67 = 0 := by rw [F_wa]; exact (nd.1.F (by decide)).trans f6
      have on : ONE (mks w) (mks (wa v1 28 nw.toNat e)) nw.toNat := by
        have := ONE_nd nd (by omega)
        rw [e32w] at this
        exact this
      have a60 : A (wa v1 28 nw.toNat e) 60 σ = A u 60 σ := by rw [wa_rne (by decide), nd.1.A (by decide)]; exact w60
      generalize wa v1 28 nw.toNat e = X at *
      have kuX := KPR_tr kw kx
      have rtx : RTD X (26 - (o + 1)).toNat n.toNat e := by
        refine RTD_fr _ _ b6.2.2.1 ?_ (fun r i hr h1 h2 => ?_)
        · rw [kx.2.1.1 28 e (by decide) (by omega), ub.2 28 e (by decide) (by omega)]; rfl
        · have : ∀ r, r ∈ [28, 29] → r ∈ [23, 24, 25, 26, 27, 28, 29, 30, 31] := by decide
          rw [kx.2.1.1 r i (this r hr) (by omega), ub.2 r i (this r hr) (by omega)]; rfl
      have x29e : A X 29 e = -1 := by
        rw [kx.2.1.1 29 e (by decide) (by omega), ub.2 29 e (by decide) (by omega)]
        exact b6.2.2.2
      refine ok_some.mpr (Or.inl ⟨f7, p2 + 1, nw + 1, q2, c2, f2, h2, nw.toNat, rfl, sx1, kuX, by omega, ?_, ⟨by omega, by omega, ?_, ?_⟩, fun y => by rw [a60]; exact hl (kuX.2.2.2.2.2.2 y), fun y1 y2 y3 => ?_⟩)
      · have nu0 : nu u0 (p2 + 1).toNat = 0 := nu_wd (Or.inl z2.1) (by omega)
        rw [nu0]
        exact DLT_b2 dn b5 de hn
      · refine RTD_mo ((26 - (o + 1)).toNat + 1) _ _ ⟨by omega, [e], ⟨x28, by omega, x29e⟩, fun r hr => ?_⟩ (by omega)
        rw [List.mem_singleton.mp hr]; exact rtx
      · rw [xr 29 (by decide)]; exact nn.2.2.2.2.1
      · have y1' := kx.2.2.2.2.2.1 y1
        have y2' := kx.2.2.2.2.2.2 y2
        have w72 : F w 72 = F v 72 := (ub.1.F (by decide)).trans (wi_ne (by decide))
        have w66 : F w 66 = F v 66 := (ub.1.F (by decide)).trans (wi_ne (by decide))
        obtain ⟨mm, X1, Y, g1, g2, g3, g4, g5⟩ := b8 (by rw [← w72]; exact y1') (by rw [← w66]; exact y2') y3
        have mu : mks (nx1 u) = mks u := wi_mks (by decide)
        have mv : mks (nx1 v) = mks v := wi_mks (by decide)
        have nv : nmo σ (nx1 v) = nmo σ v := rfl
        have hv0 : hlo σ (nx1 v) = hlo σ v := rfl
        have nu' : nmo σ (nx1 u) = nmo σ u := rfl
        rw [mu, nu'] at g1
        have g1' := SEQ_kp g1 (fun i => Nat.le_refl _) kd
        rw [← mv, ← nv, ← hv0] at g1'
        have g6 := sx _ _ _ _ _ _ _ (show ((nmo σ u : Nat) : Int) ≤ A u 60 σ by unfold nmo; omega) g1'
        have g7 := SEQ_kp g6 (fun i => Nat.le_refl _) kx
        have kn := KPR_n kx
        have eB : (A u 60 σ).toNat = nmo σ u := rfl
        rw [eB] at g7
        have g8 := SEQ_join (w := X) (R := fun i => i = e) on ⟨by rw [xr 23 (by decide)]; exact nn.1, by rw [xr 24 (by decide)]; exact nn.2.1, by rw [xr 24 (by decide)]; exact nn.2.2.1, by rw [xr 29 (by decide)]; exact nn.2.2.2.2.1⟩ (Or.inr ⟨e, x28, rfl⟩) (SEQ_mo g7 (Nat.le_refl _) (Nat.le_refl _) (Nat.le_refl _) (Nat.le_refl _) kn.2.1) (fun i hi => by rw [hi]; exact x29e)
        have nx : nmo σ X = nmo σ u := by unfold nmo; rw [a60]
        have w64 : A w 64 σ = A v 64 σ := ub.1.A (by decide)
        refine ⟨mm, X1, Y, ?_, g2, by omega, by omega, by omega⟩
        rw [nx]
        exact g8
    · have s3 : FSM u0 TN σ D v2 := FSM_of (ST_67 b2 h3) (by omega) (by omega) fs2.1 h4
      exact bad v2 r e s3 b1 (Or.inr (by omega))
  · have n0 := hv.2.2.2.2.1
    refine k_needWord (s := 6) rfl ⟨by decide, by decide⟩ (FSM_p hv hT) (fun z _ => absurd z hv.2.1) (fun v2 h3 h4 => ?_)
    refine bad v2 r x (FSM_67 hv h3 h4) hx ?_
    rcases hx2 with z | z
    · exact Or.inl z
    · exact Or.inr (by omega)
def XPN (fn : MS → Int32 → Int32 → Option (MS × Int32)) : Prop := ∀ (u : MS) (a b : Int32), F u 67 ≠ 0 → fn u a b = some (u, -1)
theorem choice_F (hT : TN ≤ 4000) (hD : D ≤ 2990) (hpn : XPN S.2.2.1) (hs : FSM u0 TN σ D v) (ht : 0 ≤ t ∧ t < 4002) : OK (fun x _ => FSM u0 TN σ (D + 2) x) (fb_M_block_160 N S () v (I t) v2 3 21) := by
  have n0 := hs.2.2.2.2.1
  have hj : (F v 32).toNat < 16000 := by omega
  have z1 : ∀ (w : MS) (k i : Nat), upA w k (upd (w.2.2.1 k) i (-1)) = wa w k i (-1) := fun _ _ _ => rfl
  unfold fb_M_block_160
  refine k_node (k := 21) (t := t) rfl (by decide) rfl ht (by omega) (fun v1 hv1 => ?_)
  rw [show F v 32 = (((F v 32).toNat : Nat) : Int) by omega]
  refine k_in (k := 27) (n := 16000) rfl (by decide) (by omega) (ok_lt.mpr ?_)
  rw [I_of v2, wa_e]
  have s1 : FSM u0 TN σ (D + 1) (wa v1 27 (I (((F v 32).toNat : Nat) : Int)).toNatClampNeg v2.toInt) := FSM_wa (FSM_nd hs hv1.1) (by decide)
  generalize wa v1 27 (I (((F v 32).toNat : Nat) : Int)).toNatClampNeg v2.toInt = W at *
  show OK _ (fb_M_block_186 N S () W (I (((F v 32).toNat : Nat) : Int)) 0)
  unfold fb_M_block_186
  rw [hpn W _ _ s1.2.1, bnd_so]
  refine k_needWord (s := 6) rfl ⟨by decide, by decide⟩ (FSM_p s1 hT) (fun z _ => absurd z s1.2.1) (fun v2 h3 h4 => ?_)
  refine k_in (k := 25) (n := 16000) rfl (by decide) (by omega) (ok_lt.mpr ?_)
  rw [z1]
  have s2 : FSM u0 TN σ (D + 1) (wa v2 25 (I (((F v 32).toNat : Nat) : Int)).toNatClampNeg (-1)) := FSM_wa (FSM_67 s1 h3 h4) (by decide)
  have := join_F (N := N) (S := S) (R0 := (F v 32).toNat) hT (by omega) s2 (by omega)
  rw [show D + 1 + 1 = D + 2 by omega] at this
  exact this
theorem block_ok (tk : TKW u0 TN SN bw) (hD : 0 ≤ D ∧ D ≤ 2890) (ho : 0 ≤ o ∧ o ≤ 25) (hpt : XPT u0 TN SN bw D o S.2.2.1) (hpn : XPN S.2.2.1) (hrc : XRC u0 TN SN bw D o S.2.2.2.1) (hx : XSP u0 TN SN bw D 3 0 0 0 o S.2.2.2.2.2.2.2.2.2.2.2.2.2.1) (hb : XSB u0 TN SN bw D o S.2.2.2.2.1) : XBL u0 TN SN bw (D + 10) o (fun u => TSO u = 3) (fm_M_block N S) := by
  intro u σ p n q c f h s wt hs hf htk hm1 hl
  have hT := tk.1.1
  have hm := NM_j hm1
  have fs := NM_fs hm (by omega)
  have e69 : F u 69 = p := hs.2.1.1
  have e65 : F u 65 = σ := hs.2.1.2.2.2.2.2.2.2.2.2.2.2
  have htk' : A u 6 (F u 69).toNat = 3 := htk
  rw [e69, ST_A hs (by decide)] at htk'
  have ltp := tok_lt tk (by omega) (show ¬ (A u0 6 (p).toNat = 0 ∨ A u0 6 (p).toNat = 7) by omega)
  have tv := (tk.2.1 p.toNat (by omega)).2.2.2.2.1 htk'
  have a7 : A u 7 p.toNat = A u0 7 p.toNat := ST_A hs (by decide)
  have dn := DLT_1 (n := n) (q := q) (c := c) (f := f) (h := h) (m := 0) tk ⟨by omega, ltp⟩ (by omega)
  rw [show n + 0 = n by omega] at dn
  have s1 := ST_nx hs (by omega)
  have kc : KPR σ u (nx1 u) := KPR_w0 KPR_rf (by decide)
  have nm1 := NM_dlt tk hm dn (by omega) (by omega) (by omega)
  have l1 : LGS σ (nx1 u) := fun z => hl (kc.2.2.2.2.2.2 z)
  have f1 : F (nx1 u) 67 = 0 := (wi_ne (by decide)).trans hf
  have hq : 2 * q ≤ p ∧ n ≤ 3 * p := ⟨hm.2.2.2.1.2, hm.2.2.1.2⟩
  have sc := (hs.2.2.2.1 σ (Nat.le_refl σ)).1
  have y19 : u.2.2.1 60 (u.1 65).toNatClampNeg = I (A u 60 σ) := by
    rw [tn_F, e65]; exact I_A
  have y20 : u.2.2.1 7 (u.1 69).toNatClampNeg = I (A u0 7 p.toNat) := by
    rw [tn_F, e69]; exact I_A' a7
  have ni : A u0 7 p.toNat ≠ 9 → ¬ IW u 9 := fun z y => z (by have := ST_IW hs y; exact this.2)
  have exit : ∀ {x r} {d : Int}, A u0 7 p.toNat ≠ 9 → d ≤ 10 → EXQ u0 TN SN bw σ (o - 1) p o n q c f h s wt 0 u x r ∨ FSM u0 TN σ (D + d) x → (EXQ u0 TN SN bw σ (o - 1) p o n q c f h s wt 0 u x r ∧ ¬ IW u 9) ∨ FSM u0 TN σ (D + 10) x := fun h9 hd y => by
    rcases y with y | y
    · exact Or.inl ⟨y, ni h9⟩
    · exact Or.inr (FSM_mo y (by omega))
  have go : A u0 7 p.toNat = 2 ∨ A u0 7 p.toNat = 3 ∨ A u0 7 p.toNat = 8 ∨ A u0 7 p.toNat = 12 → OK (fun v r => (EXQ u0 TN SN bw σ (o - 1) p o n q c f h s wt 0 u v r ∧ ¬ IW u 9) ∨ FSM u0 TN σ (D + 10) v) (fb_M_block_49 N S () u (I p) (I (A u 60 σ)) (I (A u0 7 p.toNat))) := fun hv => by
    unfold fb_M_block_49
    rw [nx1_e]
    refine ok_lt.mpr ?_
    rcases hv with hv | hv | hv | hv
    · rw [hv]
      show OK _ (bnd (S.2.2.2.2.1 (nx1 u)) (fun u14 r14 => bnd (fm_M_needWord N u14 6) (fun u15 _ => bnd (fm_M_unbind N u15 (I (A u 60 σ))) (fun u16 _ => bnd (fm_M_node N u16 30 (u16.1 69)) (fun u17 r17 => bnd (fm_M_addRoot N u17 r17 r14) (fun u18 _ => some (u18, r17)))))))
      exact ok_mono (begin_b tk (by omega) ho hb hs hf hm hl ltp) (fun x r hx => exit (by omega) (by omega) hx)
    · rw [hv]
      show OK _ (bnd (S.2.2.2.2.2.2.2.2.2.2.2.2.2.1 (nx1 u)) (fun u11 r11 => bnd (fm_M_needWord N u11 10) (fun u12 _ => ck (inb (u12.1 65) (ln 60)) (lt (u12.2.2.1 60 (u12.1 65).toNatClampNeg) (fun y13 => fb_M_block_160 N S () u12 (I p) y13 3 21)))))
      refine ok_bnd.mpr (ok_mono (hx (nx1 u) σ _ _ _ _ _ _ _ _ _ s1 f1 (NM_3 nm1 (by omega)) l1) (fun v r hv => ?_))
      have caseF : ∀ v2, FSM u0 TN σ D v2 → OK (fun v r => (EXQ u0 TN SN bw σ (o - 1) p o n q c f h s wt 0 u v r ∧ ¬ IW u 9) ∨ FSM u0 TN σ (D + 10) v) (ck (inb (v2.1 65) (ln 60)) (lt (v2.2.2.1 60 (v2.1 65).toNatClampNeg) (fun y13 => fb_M_block_160 N S () v2 (I p) y13 3 21))) := fun v2 s3 => by
        have e65v : F v2 65 = σ := s3.2.2.2.1
        refine k_at (k := 60) (n := 27) rfl (by decide) (by omega) (ok_lt.mpr ?_)
        exact ok_mono (choice_F hT (by omega) hpn s3 (by omega)) (fun x r hx => Or.inr (FSM_mo hx (by omega)))
      rcases hv with he | ⟨hv, -⟩
      · rw [show o - 0 = o by omega] at he
        obtain ⟨b0, p2, n2, q2, c2, f2, h2, e0, b1, b2, b3, b4, b5, b6, b7, b8⟩ := id he
        have nm2 := NM_dlt tk nm1 b5 (by omega) (by omega) b4
        have fs2 := NM_fs nm2 (by omega)
        have e69v : F v 69 = p2 := b2.2.1.1
        refine k_needWord (s := 10) rfl ⟨by decide, by decide⟩ (by omega) (fun _ zz => ?_) (fun v2 h3 h4 => caseF v2 (FSM_of (ST_67 b2 h3) (by omega) (by omega) fs2.1 h4))
        have z2 := ST_IW b2 zz
        have ltp2 := tok_lt tk (by omega) (show ¬ (A u0 6 (p2).toNat = 0 ∨ A u0 6 (p2).toNat = 7) by omega)
        have de := DLT_1 (n := n2) (q := q2) (c := c2) (f := f2) (h := h2) (m := 0) tk ⟨by omega, ltp2⟩ (by omega)
        rw [show n2 + 0 = n2 by omega] at de
        have s2 := ST_nx b2 (by omega)
        have nm3 := NM_dlt tk nm2 de (by omega) (by omega) (by omega)
        have kd : KPR σ v (nx1 v) := KPR_w0 KPR_rf (by decide)
        have e65v : F (nx1 v) 65 = σ := s2.2.1.2.2.2.2.2.2.2.2.2.2.2
        have y13 : (nx1 v).2.2.1 60 ((nx1 v).1 65).toNatClampNeg = I (A (nx1 v) 60 σ) := by
          rw [tn_F, e65v]; exact I_A
        refine k_at (k := 60) (n := 27) rfl (by decide) (by omega) (ok_lt.mpr ?_)
        rw [y13]
        have hq2 : 2 * q2 ≤ p2 ∧ n2 ≤ 3 * p2 := ⟨nm2.2.2.2.1.2, nm2.2.2.1.2⟩
        refine ok_mono (choice_ok (many := 1) (kk := 21) tk (by omega) ho hpt s2 ((wi_ne (by decide)).trans b0) nm3 (fun y => b7 (kd.2.2.2.2.2.2 y)) (by omega) (by omega) rfl (Or.inr ⟨rfl, rfl, rfl⟩)) (fun x r hx => exit (d := 2) (by omega) (by omega) ?_)
        rcases hx with y | y
        · exact Or.inl (CHQ_case ho (by omega) dn he b2 de y)
        · exact Or.inr y
      · refine k_needWord (s := 10) rfl ⟨by decide, by decide⟩ (FSM_p hv hT) (fun z _ => absurd z hv.2.1) (fun v2 h3 h4 => caseF v2 (FSM_67 hv h3 h4))
    · rw [hv]
      show OK _ (fb_M_block_160 N S () (nx1 u) (I p) (I (A (nx1 u) 60 σ)) 8 31)
      refine ok_mono (choice_ok (many := 0) (kk := 31) tk (by omega) ho hpt s1 f1 nm1 l1 (by omega) (by omega) rfl (Or.inl ⟨rfl, rfl, rfl⟩)) (fun x r hx => exit (d := 2) (by omega) (by omega) ?_)
      rcases hx with y | y
      · exact Or.inl (CHQ_EXQ ho (by omega) hs hl dn y)
      · exact Or.inr y
    · rw [hv]
      show OK _ (bnd (S.2.2.2.1 (nx1 u) (I p) (I (A (nx1 u) 60 σ))) (fun u9 r9 => some (u9, r9)))
      refine ok_bnd.mpr (ok_mono (hrc (nx1 u) σ _ _ _ _ _ _ _ _ p s1 f1 nm1 l1 (by omega)) (fun x r hx => ok_some.mpr (exit (d := 0) (by omega) (by omega) ?_)))
      rcases hx with y | y
      · exact Or.inl (CHQ_EXQ ho (by omega) hs hl dn y)
      · exact Or.inr (FSM_mo y (by omega))
  unfold fm_M_block fb_M_block_0
  refine k_at (k := 60) (n := 27) rfl (by decide) (by omega) (ok_lt.mpr (k_at (k := 7) (n := 4002) rfl (by decide) (by omega) (ok_lt.mpr ?_)))
  rw [y19, y20]
  refine k_eq (y := 2) (x := A u0 7 p.toNat) ⟨by omega, by omega⟩ ⟨by decide, by decide⟩ (fun z => go (Or.inl z)) (fun z2 => ?_)
  refine k_eq (y := 3) (x := A u0 7 p.toNat) ⟨by omega, by omega⟩ ⟨by decide, by decide⟩ (fun z => go (Or.inr (Or.inl z))) (fun z3 => ?_)
  refine k_eq (y := 8) (x := A u0 7 p.toNat) ⟨by omega, by omega⟩ ⟨by decide, by decide⟩ (fun z => go (Or.inr (Or.inr (Or.inl z)))) (fun z4 => ?_)
  refine k_eq (y := 12) (x := A u0 7 p.toNat) ⟨by omega, by omega⟩ ⟨by decide, by decide⟩ (fun z => go (Or.inr (Or.inr (Or.inr z)))) (fun z5 => ?_)
  refine k_wrong (s := 2) rfl ⟨by decide, by decide⟩ (by decide) (by omega) (fun v3 h1 h2 => ok_some.mpr (Or.inr ?_))
  exact FSM_of (ST_67 hs h1) (by omega) (by omega) fs.1 h2
end
