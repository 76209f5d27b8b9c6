def JNV (u x : MS) (R0 : Nat) : Prop := FR [32] [] [23, 24, 25, 26, 27, 28, 29, 30, 31] [] u x ∧ F x 32 = F u 32 + 1 ∧ (A x 23 (F u 32).toNat = 30 ∧ A x 24 (F u 32).toNat = F u 69 ∧ A x 28 (F u 32).toNat = A u 28 R0 ∧ A x 29 (F u 32).toNat = -1) ∧ A x 26 R0 = F u 32 ∧ ∀ r i, i ≠ (F u 32).toNat → (r = 26 → i ≠ R0) → A x r i = A u r i
section
variable {Q : MS → Int32 → Prop} {u0 u v w x : MS} {N σ TN SN e R0 many k : Nat} {bw : Nat → Nat} {p o n q c f h s wt g D d B l p1 z t kk : Int} {r v1 v3 v4 kd : Int32} {S : SG_M_behind}
theorem nu_wd (h : A u0 6 p.toNat = 3 ∨ A u0 6 p.toNat = 4) (hp : 0 ≤ p) : nu u0 (p + 1).toNat = 0 := by
  unfold nu
  rw [if_neg (by omega), if_pos]
  rw [show (p + 1).toNat - 1 = p.toNat by omega]
  rcases h with h | h
  · exact Or.inr (Or.inr (Or.inl h))
  · exact Or.inr (Or.inr (Or.inr h))
theorem join_ok (h69 : 0 ≤ F u 69 ∧ F u 69 < 4002) (h32 : 0 ≤ F u 32 ∧ F u 32 < 16000) (hR : (R0 : Int) < F u 32) (a : ∀ v1, NDV (wa u 26 R0 (F u 32)) v1 30 (F u 69) → Q (wa v1 28 (F u 32).toNat (A u 28 R0)) (I (F u 32))) : OK Q (fb_M_receive_237 N S () u (I R0)) := by
  unfold fb_M_receive_237
  refine k_in (k := 26) (n := 16000) rfl (by decide) (by omega) (ok_lt.mpr ?_)
  rw [I_tn (x := (R0 : Int)) (by omega) (by omega), I_F (k := 32), show ((R0 : Nat) : Int).toNat = R0 by omega, wa_e]
  refine k_node (k := 30) (t := F u 69) rfl (by decide) (by rw [I_F, F_wa]) h69 h32 (fun v1 hv1 => ?_)
  rw [F_wa]
  refine k_in (k := 28) (n := 16000) rfl (by decide) (by omega) (k_in (k := 28) (n := 16000) rfl (by decide) (by omega) (ok_lt.mpr ?_))
  have h28 : A v1 28 R0 = A u 28 R0 := by
    rw [hv1.1.2.2.2.2 28 R0 (by rw [F_wa]; omega), wa_rne (by decide)]
  rw [I_tn (x := F u 32) (by omega) (by omega), I_A' h28, wa_e]
  exact ok_some.mpr (a v1 hv1)
theorem JNV_of {v1 : MS} (h32 : 0 ≤ F u 32 ∧ F u 32 < 16000) (hR : (R0 : Int) < F u 32) (hv : NDV (wa u 26 R0 (F u 32)) v1 30 (F u 69)) : JNV u (wa v1 28 (F u 32).toNat (A u 28 R0)) R0 := by
  obtain ⟨⟨a1, a2, a3, a4, a5⟩, -, -, -, -, a6, -⟩ := hv
  rw [F_wa] at a2 a3 a4 a6
  have r1 : RG (A u 28 R0) := ARG1 u 28 R0
  refine ⟨FR.wa (FR.tr (FR.wa FR.rf (by decide)) a1) (by decide), by rw [F_wa]; exact a2, ⟨?_, ?_, wa_eq r1, ?_⟩, ?_, fun r i h1 h2 => ?_⟩
  · rw [wa_rne (by decide)]; exact a3
  · rw [wa_rne (by decide)]; exact a4
  · rw [wa_rne (by decide)]; exact a6
  · rw [wa_rne (by decide), a5 26 R0 (by rw [F_wa]; omega)]
    exact wa_eq (FRG1 u 32)
  · rw [wa_ne h1, a5 r i (by rw [F_wa]; exact h1)]
    by_cases z : r = 26
    · exact wa_ne (h2 z)
    · exact wa_rne z
theorem ST_jn {v1 : MS} (hs : ST u0 σ p o n q c f h s wt g u) (hp : 0 ≤ p ∧ p < 4002) (hn : 0 ≤ n) (hv : NDV (wa u 26 R0 (F u 32)) v1 30 (F u 69)) : ST u0 σ p o (n + 1) q c f h s wt g (wa v1 28 (F u 32).toNat (A u 28 R0)) := by
  have e69 : F u 69 = p := hs.2.1.1
  exact ST_wa (ST_nd (ST_wa hs (by decide)) hv.1 (by omega) hn (fun z => by omega)) (by decide)
theorem KPR_jn {v1 : MS} (hs : KPR σ w u) (hn : F w 32 ≤ R0 ∧ 0 ≤ F u 32) (hv : NDV (wa u 26 R0 (F u 32)) v1 30 (F u 69)) : KPR σ w (wa v1 28 (F u 32).toNat (A u 28 R0)) := by
  have := hs.2.2.2.2.1.1
  exact KPR_wn (KPR_nd (KPR_wn hs (by decide) hn.1) hv.1 (by rw [F_wa]; exact hn.2)) (by decide) (by omega)
theorem join_F (hT : TN ≤ 4000) (hD : D ≤ 3000) (hs : FSM u0 TN σ D u) (hR : R0 < 16000) : OK (fun x _ => FSM u0 TN σ (D + 1) x) (fb_M_receive_237 N S () u (I R0)) := by
  have n0 := hs.2.2.2.2.1
  have p0 := FSM_p hs hT
  unfold fb_M_receive_237
  refine k_in (k := 26) (n := 16000) rfl (by decide) (by omega) (ok_lt.mpr ?_)
  rw [I_F (k := 32), wa_e]
  refine k_node (k := 30) (t := F u 69) rfl (by decide) (by rw [I_F, F_wa]) (by omega) (by rw [F_wa]; omega) (fun v1 hv1 => ?_)
  rw [F_wa]
  refine k_in (k := 28) (n := 16000) rfl (by decide) (by omega) (k_in (k := 28) (n := 16000) rfl (by decide) (by omega) (ok_lt.mpr ?_))
  rw [I_A, wa_e]
  exact ok_some.mpr (FSM_wa (FSM_nd (FSM_wa hs (by decide)) hv1.1) (by decide))
def CHQ (u0 : MS) (TN SN : Nat) (bw : Nat → Nat) (σ many : Nat) (p o n q c f h s wt : Int) (u x : MS) (r : Int32) : Prop := F x 67 = 0 ∧ ∃ (p2 n2 q2 c2 f2 h2 : Int) (e : Nat), r = I e ∧ ST u0 σ p2 o n2 q2 c2 f2 h2 s wt 0 x ∧ KPR σ u x ∧ (p2 ≤ TN ∧ p + 4 ≤ p2 ∧ nu u0 p2.toNat = 0) ∧ DLT bw 3 1 1 p n q c f h p2 n2 q2 c2 f2 h2 ∧ (n ≤ e ∧ (e : Int) < n2 ∧ RTD x (26 - o).toNat n.toNat e ∧ A x 29 e = -1) ∧ A x 60 σ = A u 60 σ ∧ (F x 72 = 0 → F x 66 = 0 → TN ≤ 1500 → ∃ mm X Y : Nat, SEQ x SN 0 (mks u) (mks x) many 1 (nmo σ u) (nmo σ u) (nmo σ u) mm (X + many) Y (hlo σ x) (fun i => i = e) ∧ mm ≤ 40 ∧ (mm : Int) ≤ A x 64 σ ∧ 2 * (X : Int) ≤ p2 - p + 1 ∧ (Y : Int) + o ≤ 25)
theorem RTL_join {n1 : Int} (h : RTL v o n R0) (hn : n ≤ n1 ∧ 0 ≤ n1 ∧ F v 32 = n1) (ho : o ≤ 25) (h28 : A x 28 n1.toNat = A v 28 R0) (ha : ∀ (r i : Nat), r ∈ [28, 29] → n.toNat ≤ i → i < n1.toNat → A x r i = A v r i) (h29 : ∀ i : Nat, i < n1.toNat → A x 29 i = A v 29 i) : RTD x (26 - o).toNat n.toNat n1.toNat := by
  obtain ⟨l, c1, c2⟩ := h
  obtain ⟨d1, d2⟩ := CHL_ag (w := x) l _ _ c1 (fun i hi => h29 i (by omega))
  rw [show (26 - o).toNat = (25 - o).toNat + 1 by omega]
  refine ⟨by omega, l, ?_, fun r hr => ?_⟩
  · rw [h28]
    refine CHL_mo ?_ _ _ d1
    omega
  · have hb := d2 r hr
    have hc := RTD_a _ _ (c2 r hr)
    exact RTD_fr _ _ (c2 r hr) (ha 28 r (by decide) hc (by omega)) (fun r' i hr' h1 h2 => ha r' i hr' h1 (by omega))
set_option maxRecDepth 100000 in
theorem choice_ok (tk : TKW u0 TN SN bw) (hD : 0 ≤ D ∧ D ≤ 2900) (ho : 0 ≤ o ∧ o ≤ 25) (hx : XPT u0 TN SN bw D o S.2.2.1) (hs : ST u0 σ p o n q c f h s wt 0 u) (hf : F u 67 = 0) (hm : NM TN bw 0 0 0 σ p o n q c f h s wt) (hl : LGS σ u) (hq : 2 * q + 1 ≤ p ∧ n + 1 ≤ 3 * p) (ht : 0 ≤ t ∧ t < 4002) (hkd : vp_nar .byte (kd.toInt8.toInt32) = I kk) (hc3 : (v3 = 8 ∧ kk = 31 ∧ many = 0) ∨ (v3 = 3 ∧ kk = 21 ∧ many = 1)) : OK (fun x r => CHQ u0 TN SN bw σ many p o n q c f h s wt u x r ∨ FSM u0 TN σ (D + 2) x) (fb_M_block_160 N S () u (I t) (I (A u 60 σ)) v3 kd) := by
  have hT := tk.1.1
  have fs := NM_fs hm (by omega)
  have e32 : F u 32 = n := hs.2.1.2.2.1
  have kk2 : kk = 31 ∨ kk = 21 := by rcases hc3 with z | z <;> omega
  have sc := (hs.2.2.2.1 σ (Nat.le_refl σ)).1
  unfold fb_M_block_160
  refine k_node (k := kk) (t := t) hkd (by omega) rfl ht (by omega) (fun v1 hv1 => ?_)
  rw [e32]
  refine k_in (k := 27) (n := 16000) rfl (by decide) (by omega) (ok_lt.mpr ?_)
  rw [I_tn (x := n) (by omega) (by omega), wa_e]
  have nd := hv1.1
  have s1 : ST u0 σ p o (n + 1) q c f h s wt 0 (wa v1 27 n.toNat (A u 60 σ)) := ST_wa (ST_nd hs nd ht (by omega) (fun z => by omega)) (by decide)
  have k1 : KPR σ u (wa v1 27 n.toNat (A u 60 σ)) := KPR_wn (KPR_nd KPR_rf nd (by omega)) (by decide) (by omega)
  have f1 : F (wa v1 27 n.toNat (A u 60 σ)) 67 = 0 := by rw [F_wa]; exact (nd.1.F (by decide)).trans hf
  have f66 : F (wa v1 27 n.toNat (A u 60 σ)) 66 = F u 66 := by rw [F_wa]; exact nd.1.F (by decide)
  have a60 : A (wa v1 27 n.toNat (A u 60 σ)) 60 σ = A u 60 σ := by rw [wa_rne (by decide)]; exact nd.1.A (by decide)
  have l1 : LGS σ (wa v1 27 n.toNat (A u 60 σ)) := fun z => by rw [a60]; exact hl (by rw [← f66]; exact z)
  have a28 : A (wa v1 27 n.toNat (A u 60 σ)) 28 n.toNat = -1 := by rw [wa_rne (by decide), ← e32]; exact hv1.2.2.2.2.1
  have a29 : A (wa v1 27 n.toNat (A u 60 σ)) 29 n.toNat = -1 := by rw [wa_rne (by decide), ← e32]; exact hv1.2.2.2.2.2.1
  have a23 : A (wa v1 27 n.toNat (A u 60 σ)) 23 n.toNat = kk := by rw [wa_rne (by decide), ← e32]; exact nd.2.2.1
  have a24 : A (wa v1 27 n.toNat (A u 60 σ)) 24 n.toNat = t := by rw [wa_rne (by decide), ← e32]; exact nd.2.2.2.1
  have a27 : A (wa v1 27 n.toNat (A u 60 σ)) 27 n.toNat = A u 60 σ := wa_eq (ARG1 u 60 σ)
  have on1 : ONE (mks u) (mks (wa v1 27 n.toNat (A u 60 σ))) n.toNat := by
    have := ONE_nd nd (by omega)
    rw [e32] at this
    exact this
  generalize wa v1 27 n.toNat (A u 60 σ) = W at *
  have nm1 : NM TN bw 0 0 0 σ p o (n + 1) q c f h s wt := by unfold NM at hm ⊢; omega
  have w46 : F W 46 = c := s1.2.1.2.2.2.2.1
  have w32 : F W 32 = n + 1 := s1.2.1.2.2.1
  have go : ∀ t1 : Int32, (t1 = 0 ∧ many = 1) ∨ (t1 = 1 ∧ many = 0) → OK (fun x r => CHQ u0 TN SN bw σ many p o n q c f h s wt u x r ∨ FSM u0 TN σ (D + 2) x) (fb_M_block_186 N S () W (I n) t1) := fun t1 ht1 => by
    unfold fb_M_block_186
    have R0e : (I n : Int32) = I ((n.toNat : Nat) : Int) := by rw [show ((n.toNat : Nat) : Int) = n by omega]
    rw [R0e]
    refine ok_bnd.mpr (ok_mono (hx W σ n.toNat many p (n + 1) q c f h s wt t1 s1 f1 nm1 l1 ⟨hq.1, by omega, a28⟩ ht1) (fun v r hv => ?_))
    rcases hv with ⟨hr, k, l, pv, hk, b0, nv, qv, cv, fv, hhv, b1, b2, b3, b4, b5, ⟨b6, -, b8⟩, b9⟩ | hv
    · have nm2 := NM_dlt tk nm1 b4 (by omega) (by omega) b3
      have fs2 := NM_fs nm2 (by omega)
      have e69v : F v 69 = pv := b1.2.1.1
      have e32v : F v 32 = nv := b1.2.1.2.2.1
      have ndl : n + 1 ≤ nv ∧ p ≤ pv := by unfold DLT at b4; omega
      have hp3 := (b8 hk).2.2.2
      refine k_needWord (s := 6) rfl ⟨by decide, by decide⟩ (by omega) (fun _ z => ?_) (fun v2 h3 h4 => ?_)
      · have z2 := ST_IW b1 z
        have ltp := tok_lt tk (by omega) (show ¬ (A u0 6 (pv).toNat = 0 ∨ A u0 6 (pv).toNat = 7) by omega)
        have dn := DLT_1 (n := nv) (q := qv) (c := cv) (f := fv) (h := hhv) (m := 0) tk ⟨by omega, ltp⟩ (by omega)
        rw [show nv + 0 = nv by omega] at dn
        have s2 := ST_nx b1 (by omega)
        have kc : KPR σ v (nx1 v) := KPR_w0 KPR_rf (by decide)
        refine k_in (k := 25) (n := 16000) rfl (by decide) (by omega) (ok_lt.mpr ?_)
        show OK _ (fb_M_receive_237 N S () (upA (nx1 v) 25 (upd ((nx1 v).2.2.1 25) (I ((n.toNat : Nat) : Int)).toNatClampNeg r)) (I ((n.toNat : Nat) : Int)))
        rw [I_tn (x := ((n.toNat : Nat) : Int)) (by omega) (by omega), hr, wa_e, show ((n.toNat : Nat) : Int).toNat = n.toNat by omega]
        have hcc : 0 ≤ c ∧ c ≤ 2000 := by unfold NM at hm; omega
        have rc : RG c := ⟨by omega, by omega⟩
        have av23 : ∀ r, r ∈ [23, 24, 25, 26, 27, 28, 29, 30, 31] → r ≠ 28 → A v r n.toNat = A W r n.toNat := fun r hr h28 => by
          rw [b2.2.1.1 r n.toNat hr (by rw [F_wa, w32]; omega), wa_rne h28]
        have e32n : F (nx1 v) 32 = nv := (wi_ne (by decide)).trans e32v
        have s3 : ST u0 σ (pv + 1) o nv qv cv fv hhv s wt 0 (wa (nx1 v) 25 n.toNat c) := ST_wa25 s2 (by
          show A v 23 n.toNat ≠ 12
          rw [av23 23 (by decide) (by decide), a23]; omega)
        have kuv : KPR σ u v := KPR_tr (KPR_wn (x := A v 28 n.toNat) k1 (r := 28) (i := n.toNat) (by decide) (by omega)) b2
        have k3 : KPR σ u (wa (nx1 v) 25 n.toNat c) := KPR_wn (KPR_tr kuv kc) (by decide) (by omega)
        have f3 : ∀ t, t ≠ 69 → F (wa (nx1 v) 25 n.toNat c) t = F v t := fun t ht => by rw [F_wa]; exact wi_ne ht
        have g3 : ∀ r i, (r = 25 → i ≠ n.toNat) → A (wa (nx1 v) 25 n.toNat c) r i = A v r i := fun r i hr => by
          by_cases z : r = 25
          · rw [wa_ne (hr z)]; rfl
          · rw [wa_rne z]; rfl
        have g25 : A (wa (nx1 v) 25 n.toNat c) 25 n.toNat = c := wa_eq rc
        have e69w : F (wa (nx1 v) 25 n.toNat c) 69 = pv + 1 := s3.2.1.1
        generalize wa (nx1 v) 25 n.toNat c = V at *
        have e32V : F V 32 = nv := (f3 32 (by decide)).trans e32v
        refine join_ok (u := V) (R0 := n.toNat) (by omega) (by omega) (by omega) (fun v2 hv2 => Or.inl ?_)
        have sx := ST_jn s3 (by omega) (by omega) hv2
        have kx := KPR_jn k3 (by omega) hv2
        have jn := JNV_of (R0 := n.toNat) (by omega) (by omega) hv2
        generalize wa v2 28 (F V 32).toNat (A V 28 n.toNat) = X at *
        obtain ⟨j1, j2, ⟨j3, j4, j5, j6⟩, j7, j8⟩ := jn
        rw [e32V] at j2 j3 j4 j5 j6 j7 j8
        rw [e32V]
        have xF : ∀ t, t ≠ 32 → t ≠ 69 → F X t = F v t := fun t h1 h2 => (j1.F (by simpa using h1)).trans (f3 t h2)
        have xv : ∀ r i, i ≠ nv.toNat → i ≠ n.toNat → A X r i = A v r i := fun r i h1 h2 => by rw [j8 r i h1 (fun _ => h2), g3 r i (fun _ => h2)]
        have xn : ∀ r, r ≠ 25 → r ≠ 26 → A X r n.toNat = A v r n.toNat := fun r h1 h2 => by rw [j8 r _ (by omega) (fun z => absurd z h2), g3 r _ (fun z => absurd z h1)]
        have xo : ∀ r i, r ∉ [23, 24, 25, 26, 27, 28, 29, 30, 31] → A X r i = A v r i := fun r i hr => by
          have h25 : r ≠ 25 := fun z => hr (by rw [z]; decide)
          rw [j1.A hr, g3 r i (fun z => absurd z h25)]
        have x28 : A X 28 nv.toNat = A v 28 n.toNat := by rw [j5, g3 28 _ (fun z => by omega)]
        have a29x : ∀ i : Nat, i < nv.toNat → A X 29 i = A v 29 i := fun i hi => by rw [j8 29 i (by omega) (fun z => by omega), g3 29 i (fun z => by omega)]
        have rt : RTD X (26 - o).toNat n.toNat nv.toNat := by
          have b5' : RTL v o (n + 1) n.toNat := b5
          refine RTD_dn (a := (n + 1).toNat) (by omega) _ _ (RTL_join b5' ⟨by omega, by omega, e32v⟩ ho.2 x28 (fun r i _ h1 h2 => xv r i (by omega) (by omega)) a29x)
        refine ⟨(xF 67 (by decide) (by decide)).trans b0, pv + 1, nv + 1, qv, cv, fv, hhv, nv.toNat, by rw [show ((nv.toNat : Nat) : Int) = nv by omega], sx, kx, ⟨by omega, by omega, ?_⟩, ?_, ⟨by omega, by omega, rt, j6⟩, ?_, fun y1 y2 y3 => ?_⟩
        · exact nu_wd (Or.inl z2.1) (by omega)
        · unfold DLT at b4 dn ⊢; omega
        · rw [xo 60 σ (by decide), b6, a60]
        · obtain ⟨μ, rr, mm, X1, Y, ch, ⟨m0, mk⟩, rl, lk, g1, g2, g3', g4⟩ := b9 (by rw [← xF 72 (by decide) (by decide)]; exact y1) (by rw [← xF 66 (by decide) (by decide)]; exact y2) y3
          have mw0 : μ 0 0 = n.toNat + 1 := by rw [m0]; show (F W 32).toNat = _; omega
          have mw1 : μ 0 1 = c.toNat := by rw [m0]; show (F W 46).toNat = _; rw [w46]
          have mk0 : μ k 0 = nv.toNat := by rw [mk]; show (F v 32).toNat = _; rw [e32v]
          have cle : ∀ j t, j ≤ k → μ 0 t ≤ μ j t ∧ μ j t ≤ μ k t := fun j t hj => by
            have q1 := CHD_le ch j 0 (by omega) t
            have q2 := CHD_le ch (k - j) j (by omega) t
            rw [Nat.zero_add] at q1
            rw [show j + (k - j) = k by omega] at q2
            exact ⟨q1, q2⟩
          have hlx : hlo σ X = hlo σ v := by unfold hlo; rw [xo 63 σ (by decide)]
          have m9 : ∀ t, t ∈ [40, 41, 42, 43, 45] → t ∉ [23, 24, 25, 26, 27, 28, 29, 30, 31] := by decide
          have m10 : ∀ t, t ∈ [33, 35, 36, 37, 38] → t ∉ [23, 24, 25, 26, 27, 28, 29, 30, 31] := by decide
          have m11 : ∀ t, t ∈ [53, 54, 55] → t ∉ [23, 24, 25, 26, 27, 28, 29, 30, 31] := by decide
          have chx : CHD X SN false ((n.toNat : Nat) : Int) k μ rr many (A W 60 σ).toNat mm X1 Y (hlo σ X) := by
            refine ⟨fun j hj => ?_, fun j hj => ?_, fun y => ?_⟩
            · rw [hlx]
              refine PTD_ag (ch.1 j hj) ⟨xF 14 (by decide) (by decide), fun r i _ h1 h2 _ => ?_, fun r i hr _ _ _ => xo r i (m9 r hr), fun r i hr _ => xo r i (m10 r hr), fun r i hr _ _ => xo r i (m11 r hr), fun i _ => xo 57 i (by decide)⟩
              have q1 := (cle j 0 (by omega)).1
              have q2 := (cle (j + 1) 0 (by omega)).2
              exact xv r i (by omega) (by omega)
            · rw [xo 45 _ (by decide)]; exact ch.2.1 j hj
            · rw [xo 45 _ (by decide)]; exact ch.2.2 y
          have rlx : RLS X k rr := fun j hj => by
            have := CHD_r ch hj
            rw [a29x (rr j) (by omega)]
            exact rl j hj
          have nmu : nmo σ u = (A W 60 σ).toNat := by unfold nmo; rw [a60]
          have on2 : ONE (μ k) (mks X) (μ k 0) := by
            refine ⟨rfl, ?_, ?_, ?_, fun i => ?_⟩
            · show (F X 32).toNat = _; omega
            · rw [mk]; show (F X 46).toNat = (F v 46).toNat; rw [xF 46 (by decide) (by decide)]
            · rw [mk]; show (F X 56).toNat = (F v 56).toNat; rw [xF 56 (by decide) (by decide)]
            · rw [mk]
              unfold mks
              split
              · omega
              · split
                · rw [xF 46 (by decide) (by decide)]; exact Nat.le_refl _
                · split
                  · rw [xF 39 (by decide) (by decide)]; exact Nat.le_refl _
                  · split
                    · rw [xF 56 (by decide) (by decide)]; exact Nat.le_refl _
                    · rw [xF 58 (by decide) (by decide)]; exact Nat.le_refl _
          have lk' := lk hk
          have sq := SEQ_choice (w := X) (n := n.toNat) (a := mks u) (z := mks X) (lo := (A W 60 σ).toNat) (q := many) (by rw [xn 23 (by decide) (by decide), av23 23 (by decide) (by decide), a23]; rcases hc3 with z | z <;> omega) (by rw [m0]; exact on1) chx hk on2 ⟨by rw [xn 24 (by decide) (by decide), av23 24 (by decide) (by decide), a24]; exact ht.1, by rw [xn 24 (by decide) (by decide), av23 24 (by decide) (by decide), a24]; exact ht.2, by rw [xn 29 (by decide) (by decide), av23 29 (by decide) (by decide), a29]⟩ (by rw [j8 25 _ (by omega) (fun z => by omega), g25, mw1]; omega) (by rw [j7, mk0]; omega) (by rw [xn 27 (by decide) (by decide), av23 27 (by decide) (by decide), a27, a60]; omega) (by rw [xn 28 (by decide) (by decide)]; exact lk'.1) (by rw [mk0]; exact ⟨j3, by omega, by omega, j6⟩) (by rw [mk0, x28]; exact lk'.1) rlx (Nat.le_refl _)
          rw [mk0] at sq
          rw [nmu]
          refine ⟨mm, X1, Y, sq, g1, ?_, by omega, g4⟩
          rw [xo 64 σ (by decide)]; exact g2
      · have s3 : FSM u0 TN σ D v2 := FSM_of (ST_67 b1 h3) (by omega) (by omega) fs2.1 h4
        refine k_in (k := 25) (n := 16000) rfl (by decide) (by omega) (ok_lt.mpr ?_)
        rw [hr, wa_e]
        exact ok_mono (join_F (N := N) (S := S) (R0 := n.toNat) hT (by omega) (FSM_wa s3 (by decide)) (by omega)) (fun x t hx => Or.inr (FSM_mo hx (by omega)))
    · refine k_needWord (s := 6) rfl ⟨by decide, by decide⟩ (FSM_p hv hT) (fun z _ => absurd z hv.2.1) (fun v2 h3 h4 => ?_)
      have s3 := FSM_67 hv h3 h4
      refine k_in (k := 25) (n := 16000) rfl (by decide) (by omega) (ok_lt.mpr ?_)
      rw [I_of r, wa_e]
      exact ok_mono (join_F (N := N) (S := S) (R0 := n.toNat) hT (by omega) (FSM_wa s3 (by decide)) (by omega)) (fun x t hx => Or.inr (FSM_mo hx (by omega)))
  rcases hc3 with ⟨c1, c2, c3⟩ | ⟨c1, c2, c3⟩
  · rw [c1]
    exact go 1 (Or.inr ⟨rfl, c3⟩)
  · rw [c1]
    exact go 0 (Or.inl ⟨rfl, c3⟩)
end
