section
def JNV (u x : MS) (R0 : Nat) : Prop := FR [32] [] [23, 24, 25, 26, 27, 28, 29, 30, 31] [] u x ∧ F x 32 = F u 32 + 1 ∧ (A x 23 (F u 32).toNat = 30 ∧ A x 24 (F u 32).toNat = F u 69 ∧ A x 28 (F u 32).toNat = A u 28 R0 ∧ A x 29 (F u 32).toNat = -1) ∧ A x 26 R0 = F u 32 ∧ ∀ r i, i ≠ (F u 32).toNat → (r = 26 → i ≠ R0) → A x r i = A u r i
section
variable {Q : MS → Int32 → Prop} {u0 u v w x : MS} {N σ TN SN e R0 many k : Nat} {bw : Nat → Nat} {p o n q c f h s wt g D d B l p1 z t kk : Int} {r v1 v3 v4 kd : Int32} {S : SG_M_behind}
theorem nu_wd (h : A u0 6 p.toNat = 3 ∨ A u0 6 p.toNat = 4) (hp : 0 ≤ p) : nu u0 (p + 1).toNat = 0 := by
  unfold nu
  rw [if_neg (by omega), if_pos]
  rw [show (p + 1).toNat - 1 = p.toNat by omega]
  rcases h with h | h
  · exact Or.inr (Or.inr (Or.inl h))
  · exact Or.inr (Or.inr (Or.inr h))
theorem join_ok (h69 : 0 ≤ F u 69 ∧ F u 69 < 4002) (h32 : 0 ≤ F u 32 ∧ F u 32 < 16000) (hR : (R0 : Int) < F u 32) (a : ∀ v1, NDV (wa u 26 R0 (F u 32)) v1 30 (F u 69) → Q (wa v1 28 (F u 32).toNat (A u 28 R0)) (I (F u 32))) : OK Q (fb_M_receive_237 N S () u (I R0)) := by
  unfold fb_M_receive_237
  refine k_in (k := 26) (n := 16000) rfl (by decide) (by omega) (ok_lt.mpr ?_)
  rw [I_tn (x := (R0 : Int)) (by omega) (by omega), I_F (k := 32), show ((R0 : Nat) : Int).toNat = R0 by omega, wa_e]
  refine k_node (k := 30) (t := F u 69) rfl (by decide) (by rw [I_F, F_wa]) h69 h32 (fun v1 hv1 => ?_)
  rw [F_wa]
  refine k_in (k := 28) (n := 16000) rfl (by decide) (by omega) (k_in (k := 28) (n := 16000) rfl (by decide) (by omega) (ok_lt.mpr ?_))
  have h28 : A v1 28 R0 = A u 28 R0 := by
    rw [hv1.1.2.2.2.2 28 R0 (by rw [F_wa]; omega), wa_rne (by decide)]
  rw [I_tn (x := F u 32) (by omega) (by omega), I_A' h28, wa_e]
  exact ok_some.mpr (a v1 hv1)
theorem JNV_of {v1 : MS} (h32 : 0 ≤ F u 32 ∧ F u 32 < 16000) (hR : (R0 : Int) < F u 32) (hv : NDV (wa u 26 R0 (F u 32)) v1 30 (F u 69)) : JNV u (wa v1 28 (F u 32).toNat (A u 28 R0)) R0 := by
  obtain ⟨⟨a1, a2, a3, a4, a5⟩, -, -, -, -, a6, -⟩ := hv
  rw [F_wa] at a2 a3 a4 a6
  have r1 : RG (A u 28 R0) := ARG1 u 28 R0
  refine ⟨FR.wa (FR.tr (FR.wa FR.rf (by decide)) a1) (by decide), by rw [F_wa]; exact a2, ⟨?_, ?_, wa_eq r1, ?_⟩, ?_, fun r i h1 h2 => ?_⟩
  · rw [wa_rne (by decide)]; exact a3
  · rw [wa_rne (by decide)]; exact a4
  · rw [wa_rne (by decide)]; exact a6
  · rw [wa_rne (by decide), a5 26 R0 (by rw [F_wa]; omega)]
    exact wa_eq (FRG1 u 32)
  · rw [wa_ne h1, a5 r i (by rw [F_wa]; exact h1)]
    by_cases z : r = 26
    · exact wa_ne (h2 z)
    · exact wa_rne z
theorem ST_jn {v1 : MS} (hs : ST u0 σ p o n q c f h s wt g u) (hp : 0 ≤ p ∧ p < 4002) (hn : 0 ≤ n) (hv : NDV (wa u 26 R0 (F u 32)) v1 30 (F u 69)) : ST u0 σ p o (n + 1) q c f h s wt g (wa v1 28 (F u 32).toNat (A u 28 R0)) := by
  have e69 : F u 69 = p := hs.2.1.1
  exact ST_wa (ST_nd (ST_wa hs (by decide)) hv.1 (by omega) hn (fun z => by omega)) (by decide)
theorem KPR_jn {v1 : MS} (hs : KPR σ w u) (hn : F w 32 ≤ R0 ∧ 0 ≤ F u 32) (hv : NDV (wa u 26 R0 (F u 32)) v1 30 (F u 69)) : KPR σ w (wa v1 28 (F u 32).toNat (A u 28 R0)) := by
  have := hs.2.2.2.2.1.1
  exact KPR_wn (KPR_nd (KPR_wn hs (by decide) hn.1) hv.1 (by rw [F_wa]; exact hn.2)) (by decide) (by omega)
theorem join_F (hT : TN ≤ 4000) (hD : D ≤ 3000) (hs : FSM u0 TN σ D u) (hR : R0 < 16000) : OK (fun x _ => FSM u0 TN σ (D + 1) x) (fb_M_receive_237 N S () u (I R0)) := by
  have n0 := hs.2.2.2.2.1
  have p0 := FSM_p hs hT
  unfold fb_M_receive_237
  refine k_in (k := 26) (n := 16000) rfl (by decide) (by omega) (ok_lt.mpr ?_)
  rw [I_F (k := 32), wa_e]
  refine k_node (k := 30) (t := F u 69) rfl (by decide) (by rw [I_F, F_wa]) (by omega) (by rw [F_wa]; omega) (fun v1 hv1 => ?_)
  rw [F_wa]
  refine k_in (k := 28) (n := 16000) rfl (by decide) (by omega) (k_in (k := 28) (n := 16000) rfl (by decide) (by omega) (ok_lt.mpr ?_))
  rw [I_A, wa_e]
  exact ok_some.mpr (FSM_wa (FSM_nd (FSM_wa hs (by decide)) hv1.1) (by decide))
def CHQ (u0 : MS) (TN SN : Nat) (bw : Nat → Nat) (σ many : Nat) (p o n q c f h s wt : Int) (u x : MS) (r : Int32) : Prop := F x 67 = 0 ∧ ∃ (p2 n2 q2 c2 f2 h2 : Int) (e : Nat), r = I e ∧ ST u0 σ p2 o n2 q2 c2 f2 h2 s wt 0 x ∧ KPR σ u x ∧ (p2 ≤ TN ∧ p + 4 ≤ p2 ∧ nu u0 p2.toNat = 0) ∧ DLT bw 3 1 1 p n q c f h p2 n2 q2 c2 f2 h2 ∧ (n ≤ e ∧ (e : Int) < n2 ∧ RTD x (26 - o).toNat n.toNat e ∧ A x 29 e = -1) ∧ A x 60 σ = A u 60 σ ∧ (F x 72 = 0 → F x 66 = 0 → TN ≤ 1500 → ∃ mm X Y : Nat, SEQ x SN 0 (mks u) (mks x) many 1 (nmo σ u) (nmo σ u) (nmo σ u) mm (X + many) Y (hlo σ x) (fun i => i = e) ∧ mm ≤ 40 ∧ (mm : Int) ≤ A x 64 σ ∧ 2 * (X : Int) ≤ p2 - p + 1 ∧ (Y : Int) + o ≤ 25)
theorem RTL_join {n1 : Int} (h : RTL v o n R0) (hn : n ≤ n1 ∧ 0 ≤ n1 ∧ F v 32 = n1) (ho : o ≤ 25) (h28 : A x 28 n1.toNat = A v 28 R0) (ha : ∀ (r i : Nat), r ∈ [28, 29] → n.toNat ≤ i → i < n1.toNat → A x r i = A v r i) (h29 : ∀ i : Nat, i < n1.toNat → A x 29 i = A v 29 i) : RTD x (26 - o).toNat n.toNat n1.toNat := by
  obtain ⟨l, c1, c2⟩ := h
  obtain ⟨d1, d2⟩ := CHL_ag (w := x) l _ _ c1 (fun i hi => h29 i (by omega))
  rw [show (26 - o).toNat = (25 - o).toNat + 1 by omega]
  refine ⟨by omega, l, ?_, fun r hr => ?_⟩
  · rw [h28]
    refine CHL_mo ?_ _ _ d1
    omega
  · have hb := d2 r hr
    have hc := RTD_a _ _ (c2 r hr)
    exact RTD_fr _ _ (c2 r hr) (ha 28 r (by decide) hc (by omega)) (fun r' i hr' h1 h2 => ha r' i hr' h1 (by omega))
set_option maxRecDepth 100000 in
theorem choice_ok (tk : TKW u0 TN SN bw) (hD : 0 ≤ D ∧ D ≤ 2900) (ho : 0 ≤ o ∧ o ≤ 25) (hx : XPT u0 TN SN bw D o S.2.2.1) (hs : ST u0 σ p o n q c f h s wt 0 u) (hf : F u 67 = 0) (hm : NM TN bw 0 0 0 σ p o n q c f h s wt) (hl : LGS σ u) (hq : 2 * q + 1 ≤ p ∧ n + 1 ≤ 3 * p) (ht : 0 ≤ t ∧ t < 4002) (hkd : vp_nar .byte (kd.toInt8.toInt32) = I kk) (hc3 : (v3 = 8 ∧ kk = 31 ∧ many = 0) ∨ (v3 = 3 ∧ kk = 21 ∧ many = 1)) : OK (fun x r => CHQ u0 TN SN bw σ many p o n q c f h s wt u x r ∨ FSM u0 TN σ (D + 2) x) (fb_M_block_160 N S () u (I t) (I (A u 60 σ)) v3 kd) := by
  have hT := tk.1.1
  have fs := NM_fs hm (by omega)
  have e32 : F u 32 = n := hs.2.1.2.2.1
  have kk2 : kk = 31 ∨ kk = 21 := by rcases hc3 with z | z <;> omega
  have sc := (hs.2.2.2.1 σ (Nat.le_refl σ)).1
  unfold fb_M_block_160
  refine k_node (k := kk) (t := t) hkd (by omega) rfl ht (by omega) (fun v1 hv1 => ?_)
  rw [e32]
  refine k_in (k := 27) (n := 16000) rfl (by decide) (by omega) (ok_lt.mpr ?_)
  rw [I_tn (x := n) (by omega) (by omega), wa_e]
  have nd := hv1.1
  have s1 : ST u0 σ p o (n + 1) q c f h s wt 0 (wa v1 27 n.toNat (A u 60 σ)) := ST_wa (ST_nd hs nd ht (by omega) (fun z => by omega)) (by decide)
  have k1 : KPR σ u (wa v1 27 n.toNat (A u 60 σ)) := KPR_wn (KPR_nd KPR_rf nd (by omega)) (by decide) (by omega)
  have f1 : F (wa v1 27 n.toNat (A u 60 σ)) 67 = 0 := by rw [F_wa]; exact (nd.1.F (by decide)).trans hf
  have f66 : F (wa v1 27 n.toNat (A u 60 σ)) 66 = F u 66 := by rw [F_wa]; exact nd.1.F (by decide)
  have a60 : A (wa v1 27 n.toNat (A u 60 σ)) 60 σ = A u 60 σ := by rw [wa_rne (by decide)]; exact nd.1.A (by decide)
  have l1 : LGS σ (wa v1 27 n.toNat (A u 60 σ)) := fun z => by rw [a60]; exact hl (by rw [← f66]; exact z)
  have a28 : A (wa v1 27 n.toNat (A u 60 σ)) 28 n.toNat = -1 := by rw [wa_rne (by decide), ← e32]; exact hv1.2.2.2.2.1
  have a29 : A (wa v1 27 n.toNat (A u 60 σ)) 29 n.toNat = -1 := by rw [wa_rne (by decide), ← e32]; exact hv1.2.2.2.2.2.1
  have a23 : A (wa v1 27 n.toNat (A u 60 σ)) 23 n.toNat = kk := by rw [wa_rne (by decide), ← e32]; exact nd.2.2.1
  have a24 : A (wa v1 27 n.toNat (A u 60 σ)) 24 n.toNat = t := by rw [wa_rne (by decide), ← e32]; exact nd.2.2.2.1
  have a27 : A (wa v1 27 n.toNat (A u 60 σ)) 27 n.toNat = A u 60 σ := wa_eq (ARG1 u 60 σ)
  have on1 : ONE (mks u) (mks (wa v1 27 n.toNat (A u 60 σ))) n.toNat := by
    have := ONE_nd nd (by omega)
    rw [e32] at this
    exact this
  generalize wa v1 27 n.toNat (A u 60 σ) = W at *
  have nm1 : NM TN bw 0 0 0 σ p o (n + 1) q c f h s wt := by unfold NM at hm ⊢; omega
  have w46 : F W 46 = c := s1.2.1.2.2.2.2.1
  have w32 : F W 32 = n + 1 := s1.2.1.2.2.1
  have go : ∀ t1 : Int32, (t1 = 0 ∧ many = 1) ∨ (t1 = 1 ∧ many = 0) → OK (fun x r => CHQ u0 TN SN bw σ many p o n q c f h s wt u x r ∨ FSM u0 TN σ (D + 2) x) (fb_M_block_186 N S () W (I n) t1) := fun t1 ht1 => by
    unfold fb_M_block_186
    have R0e : (I n : Int32) = I ((n.toNat : Nat) : Int) := by rw [show ((n.toNat : Nat) : Int) = n by omega]
    rw [R0e]
    refine ok_bnd.mpr (ok_mono (hx W σ n.toNat many p (n + 1) q c f h s wt t1 s1 f1 nm1 l1 ⟨hq.1, by omega, a28⟩ ht1) (fun v r hv => ?_))
    rcases hv with ⟨hr, k, l, pv, hk, b0, nv, qv, cv, fv, hhv, b1, b2, b3, b4, b5, ⟨b6, -, b8⟩, b9⟩ | hv
    · have nm2 := NM_dlt tk nm1 b4 (by omega) (by omega) b3
      have fs2 := NM_fs nm2 (by omega)
      have e69v : F v 69 = pv := b1.2.1.1
      have e32v : F v 32 = nv := b1.2.1.2.2.1
      have ndl : n + 1 ≤ nv ∧ p ≤ pv := by unfold DLT at b4; omega
      have hp3 := (b8 hk).2.2.2
      refine k_needWord (s := 6) rfl ⟨by decide, by decide⟩ (by omega) (fun _ z => ?_) (fun v2 h3 h4 => ?_)
      · have z2 := ST_IW b1 z
        have ltp := tok_lt tk (by omega) (show ¬ (A u0 6 (pv).toNat = 0 ∨ A u0 6 (pv).toNat = 7) by omega)
        have dn := DLT_1 (n := nv) (q := qv) (c := cv) (f := fv) (h := hhv) (m := 0) tk ⟨by omega, ltp⟩ (by omega)
        rw [show nv + 0 = nv by omega] at dn
        have s2 := ST_nx b1 (by omega)
        have kc : KPR σ v (nx1 v) := KPR_w0 KPR_rf (by decide)
        refine k_in (k := 25) (n := 16000) rfl (by decide) (by omega) (ok_lt.mpr ?_)
        show OK _ (fb_M_receive_237 N S () (upA (nx1 v) 25 (upd ((nx1 v).2.2.1 25) (I ((n.toNat : Nat) : Int)).toNatClampNeg r)) (I ((n.toNat : Nat) : Int)))
        rw [I_tn (x := ((n.toNat : Nat) : Int)) (by omega) (by omega), hr, wa_e, show ((n.toNat : Nat) : Int).toNat = n.toNat by omega]
        have hcc : 0 ≤ c ∧ c ≤ 2000 := by unfold NM at hm; omega
        have rc : RG c := ⟨by omega, by omega⟩
        have av23 : ∀ r, r ∈ [23, 24, 25, 26, 27, 28, 29, 30, 31] → r ≠ 28 → A v r n.toNat = A W r n.toNat := fun r hr h28 => by
          rw [b2.2.1.1 r n.toNat hr (by rw [F_wa, w32]; omega), wa_rne h28]
        have e32n : F (nx1 v) 32 = nv := (wi_ne (by decide)).trans e32v
        have s3 : ST u0 σ (pv + 1) o nv qv cv fv hhv s wt 0 (wa (nx1 v) 25 n.toNat c) := ST_wa25 s2 (by
          show A v 23 n.toNat ≠ 12
          rw [av23 23 (by decide) (by decide), a23]; omega)
        have kuv : KPR σ u v := KPR_tr (KPR_wn (x := A v 28 n.toNat) k1 (r := 28) (i := n.toNat) (by decide) (by omega)) b2
        have k3 : KPR σ u (wa (nx1 v) 25 n.toNat c) := KPR_wn (KPR_tr kuv kc) (by decide) (by omega)
        have f3 : ∀ t, t ≠ 69 → F (wa (nx1 v) 25 n.toNat c) t = F v t := fun t ht => by rw [F_wa]; exact wi_ne ht
        have g3 : ∀ r i, (r = 25 → i ≠ n.toNat) → A (wa (nx1 v) 25 n.toNat c) r i = A v r i := fun r i hr => by
          by_cases z : r = 25
          · rw [wa_ne (hr z)]; rfl
          · rw [wa_rne z]; rfl
        have g25 : A (wa (nx1 v) 25 n.toNat c) 25 n.toNat = c := wa_eq rc
        have e69w : F (wa (nx1 v) 25 n.toNat c) 69 = pv + 1 := s3.2.1.1
        generalize wa (nx1 v) 25 n.toNat c = V at *
        have e32V : F V 32 = nv := (f3 32 (by decide)).trans e32v
        refine join_ok (u := V) (R0 := n.toNat) (by omega) (by omega) (by omega) (fun v2 hv2 => Or.inl ?_)
        have sx := ST_jn s3 (by omega) (by omega) hv2
        have kx := KPR_jn k3 (by omega) hv2
        have jn := JNV_of (R0 := n.toNat) (by omega) (by omega) hv2
        generalize wa v2 28 (F V 32).toNat (A V 28 n.toNat) = X at *
        obtain ⟨j1, j2, ⟨j3, j4, j5, j6⟩, j7, j8⟩ := jn
        rw [e32V] at j2 j3 j4 j5 j6 j7 j8
        rw [e32V]
        have xF : ∀ t, t ≠ 32 → t ≠ 69 → F X t = F v t := fun t h1 h2 => (j1.F (by simpa using h1)).trans (f3 t h2)
        have xv : ∀ r i, i ≠ nv.toNat → i ≠ n.toNat → A X r i = A v r i := fun r i h1 h2 => by rw [j8 r i h1 (fun _ => h2), g3 r i (fun _ => h2)]
        have xn : ∀ r, r ≠ 25 → r ≠ 26 → A X r n.toNat = A v r n.toNat := fun r h1 h2 => by rw [j8 r _ (by omega) (fun z => absurd z h2), g3 r _ (fun z => absurd z h1)]
        have xo : ∀ r i, r ∉ [23, 24, 25, 26, 27, 28, 29, 30, 31] → A X r i = A v r i := fun r i hr => by
          have h25 : r ≠ 25 := fun z => hr (by rw [z]; decide)
          rw [j1.A hr, g3 r i (fun z => absurd z h25)]
        have x28 : A X 28 nv.toNat = A v 28 n.toNat := by rw [j5, g3 28 _ (fun z => by omega)]
        have a29x : ∀ i : Nat, i < nv.toNat → A X 29 i = A v 29 i := fun i hi => by rw [j8 29 i (by omega) (fun z => by omega), g3 29 i (fun z => by omega)]
        have rt : RTD X (26 - o).toNat n.toNat nv.toNat := by
          have b5' : RTL v o (n + 1) n.toNat := b5
          refine RTD_dn (a := (n + 1).toNat) (by omega) _ _ (RTL_join b5' ⟨by omega, by omega, e32v⟩ ho.2 x28 (fun r i _ h1 h2 => xv r i (by omega) (by omega)) a29x)
        refine ⟨(xF 67 (by decide) (by decide)).trans b0, pv + 1, nv + 1, qv, cv, fv, hhv, nv.toNat, by rw [show ((nv.toNat : Nat) : Int) = nv by omega], sx, kx, ⟨by omega, by omega, ?_⟩, ?_, ⟨by omega, by omega, rt, j6⟩, ?_, fun y1 y2 y3 => ?_⟩
        · exact nu_wd (Or.inl z2.1) (by omega)
        · unfold DLT at b4 dn ⊢; omega
        · rw [xo 60 σ (by decide), b6, a60]
        · obtain ⟨μ, rr, mm, X1, Y, ch, ⟨m0, mk⟩, rl, lk, g1, g2, g3', g4⟩ := b9 (by rw [← xF 72 (by decide) (by decide)]; exact y1) (by rw [← xF 66 (by decide) (by decide)]; exact y2) y3
          have mw0 : μ 0 0 = n.toNat + 1 := by rw [m0]; show (F W 32).toNat = _; omega
          have mw1 : μ 0 1 = c.toNat := by rw [m0]; show (F W 46).toNat = _; rw [w46]
          have mk0 : μ k 0 = nv.toNat := by rw [mk]; show (F v 32).toNat = _; rw [e32v]
          have cle : ∀ j t, j ≤ k → μ 0 t ≤ μ j t ∧ μ j t ≤ μ k t := fun j t hj => by
            have q1 := CHD_le ch j 0 (by omega) t
            have q2 := CHD_le ch (k - j) j (by omega) t
            rw [Nat.zero_add] at q1
            rw [show j + (k - j) = k by omega] at q2
            exact ⟨q1, q2⟩
          have hlx : hlo σ X = hlo σ v := by unfold hlo; rw [xo 63 σ (by decide)]
          have m9 : ∀ t, t ∈ [40, 41, 42, 43, 45] → t ∉ [23, 24, 25, 26, 27, 28, 29, 30, 31] := by decide
          have m10 : ∀ t, t ∈ [33, 35, 36, 37, 38] → t ∉ [23, 24, 25, 26, 27, 28, 29, 30, 31] := by decide
          have m11 : ∀ t, t ∈ [53, 54, 55] → t ∉ [23, 24, 25, 26, 27, 28, 29, 30, 31] := by decide
          have chx : CHD X SN false ((n.toNat : Nat) : Int) k μ rr many (A W 60 σ).toNat mm X1 Y (hlo σ X) := by
            refine ⟨fun j hj => ?_, fun j hj => ?_, fun y => ?_⟩
            · rw [hlx]
              refine PTD_ag (ch.1 j hj) ⟨xF 14 (by decide) (by decide), fun r i _ h1 h2 _ => ?_, fun r i hr _ _ _ => xo r i (m9 r hr), fun r i hr _ => xo r i (m10 r hr), fun r i hr _ _ => xo r i (m11 r hr), fun i _ => xo 57 i (by decide)⟩
              have q1 := (cle j 0 (by omega)).1
              have q2 := (cle (j + 1) 0 (by omega)).2
              exact xv r i (by omega) (by omega)
            · rw [xo 45 _ (by decide)]; exact ch.2.1 j hj
            · rw [xo 45 _ (by decide)]; exact ch.2.2 y
          have rlx : RLS X k rr := fun j hj => by
            have := CHD_r ch hj
            rw [a29x (rr j) (by omega)]
            exact rl j hj
          have nmu : nmo σ u = (A W 60 σ).toNat := by unfold nmo; rw [a60]
          have on2 : ONE (μ k) (mks X) (μ k 0) := by
            refine ⟨rfl, ?_, ?_, ?_, fun i => ?_⟩
            · show (F X 32).toNat = _; omega
            · rw [mk]; show (F X 46).toNat = (F v 46).toNat; rw [xF 46 (by decide) (by decide)]
            · rw [mk]; show (F X 56).toNat = (F v 56).toNat; rw [xF 56 (by decide) (by decide)]
            · rw [mk]
              unfold mks
              split
              · omega
              · split
                · rw [xF 46 (by decide) (by decide)]; exact Nat.le_refl _
                · split
                  · rw [xF 39 (by decide) (by decide)]; exact Nat.le_refl _
                  · split
                    · rw [xF 56 (by decide) (by decide)]; exact Nat.le_refl _
                    · rw [xF 58 (by decide) (by decide)]; exact Nat.le_refl _
          have lk' := lk hk
          have sq := SEQ_choice (w := X) (n := n.toNat) (a := mks u) (z := mks X) (lo := (A W 60 σ).toNat) (q := many) (by rw [xn 23 (by decide) (by decide), av23 23 (by decide) (by decide), a23]; rcases hc3 with z | z <;> omega) (by rw [m0]; exact on1) chx hk on2 ⟨by rw [xn 24 (by decide) (by decide), av23 24 (by decide) (by decide), a24]; exact ht.1, by rw [xn 24 (by decide) (by decide), av23 24 (by decide) (by decide), a24]; exact ht.2, by rw [xn 29 (by decide) (by decide), av23 29 (by decide) (by decide), a29]⟩ (by rw [j8 25 _ (by omega) (fun z => by omega), g25, mw1]; omega) (by rw [j7, mk0]; omega) (by rw [xn 27 (by decide) (by decide), av23 27 (by decide) (by decide), a27, a60]; omega) (by rw [xn 28 (by decide) (by decide)]; exact lk'.1) (by rw [mk0]; exact ⟨j3, by omega, by omega, j6⟩) (by rw [mk0, x28]; exact lk'.1) rlx (Nat.le_refl _)
          rw [mk0] at sq
          rw [nmu]
          refine ⟨mm, X1, Y, sq, g1, ?_, by omega, g4⟩
          rw [xo 64 σ (by decide)]; exact g2
      · have s3 : FSM u0 TN σ D v2 := FSM_of (ST_67 b1 h3) (by omega) (by omega) fs2.1 h4
        refine k_in (k := 25) (n := 16000) rfl (by decide) (by omega) (ok_lt.mpr ?_)
        rw [hr, wa_e]
        exact ok_mono (join_F (N := N) (S := S) (R0 := n.toNat) hT (by omega) (FSM_wa s3 (by decide)) (by omega)) (fun x t hx => Or.inr (FSM_mo hx (by omega)))
    · refine k_needWord (s := 6) rfl ⟨by decide, by decide⟩ (FSM_p hv hT) (fun z _ => absurd z hv.2.1) (fun v2 h3 h4 => ?_)
      have s3 := FSM_67 hv h3 h4
      refine k_in (k := 25) (n := 16000) rfl (by decide) (by omega) (ok_lt.mpr ?_)
      rw [I_of r, wa_e]
      exact ok_mono (join_F (N := N) (S := S) (R0 := n.toNat) hT (by omega) (FSM_wa s3 (by decide)) (by omega)) (fun x t hx => Or.inr (FSM_mo hx (by omega)))
  rcases hc3 with ⟨c1, c2, c3⟩ | ⟨c1, c2, c3⟩
  · rw [c1]
    exact go 1 (Or.inr ⟨rfl, c3⟩)
  · rw [c1]
    exact go 0 (Or.inl ⟨rfl, c3⟩)
end
end
section
def EQX (σ n0 : Nat) (V X : MS) : Prop := F X 14 = F V 14 ∧ (∀ r i : Nat, r ∈ [23, 24, 25, 26, 27, 28, 29, 30, 31] → n0 ≤ i → (i : Int) < F V 32 → A X r i = A V r i) ∧ (∀ r i : Nat, r ∈ [40, 41, 42, 43, 45] → (i : Int) < F V 46 → A X r i = A V r i) ∧ (∀ r i : Nat, r ∈ [33, 35, 36, 37, 38] → (i : Int) < F V 39 → A X r i = A V r i) ∧ (∀ r i : Nat, r ∈ [53, 54, 55] → (i : Int) < F V 56 → A X r i = A V r i) ∧ (∀ i : Nat, (i : Int) < F V 58 → A X 57 i = A V 57 i) ∧ (hlo σ V ≤ hlo σ X ∧ A V 64 σ ≤ A X 64 σ) ∧ (F V 32 ≤ F X 32 ∧ F V 46 ≤ F X 46 ∧ F V 39 ≤ F X 39 ∧ F V 56 ≤ F X 56 ∧ F V 58 ≤ F X 58) ∧ (F X 72 = 0 → F V 72 = 0) ∧ (F X 66 = 0 → F V 66 = 0)
section
variable {u0 u v w x V X : MS} {σ SN n0 : Nat} {wt : Int}
theorem EQX_tr (a : EQX σ n0 v w) (b : EQX σ n0 w x) : EQX σ n0 v x := by
  obtain ⟨a1, a2, a3, a4, a5, a6, a7, a8, a9, a10⟩ := a
  obtain ⟨b1, b2, b3, b4, b5, b6, b7, b8, b9, b10⟩ := b
  exact ⟨b1.trans a1, fun r i hr h1 h2 => (b2 r i hr h1 (by omega)).trans (a2 r i hr h1 h2), fun r i hr h2 => (b3 r i hr (by omega)).trans (a3 r i hr h2), fun r i hr h2 => (b4 r i hr (by omega)).trans (a4 r i hr h2), fun r i hr h2 => (b5 r i hr (by omega)).trans (a5 r i hr h2), fun i h2 => (b6 i (by omega)).trans (a6 i h2), by omega, by omega, fun z => a9 (b9 z), fun z => a10 (b10 z)⟩
theorem EQX_kp (k : KPR σ v w) : EQX σ n0 v w := by
  have n := KPR_n k
  obtain ⟨a0, ⟨a1, a2, a3, a4, a5⟩, -, -, a13, a14, a15⟩ := k
  exact ⟨a0.F (by decide), fun r i hr _ h2 => a1 r i hr h2, a3, a2, a4, a5, n.2, by omega, a14, a15⟩
theorem EQX_wa {r i : Nat} {y : Int} (hr : r ∈ [23, 24, 25, 26, 27, 28, 29, 30, 31, 60]) (hi : i < n0 ∨ F v 32 ≤ i ∨ r = 60) : EQX σ n0 v (wa v r i y) := by
  have m1 : ∀ r, r ∈ [23, 24, 25, 26, 27, 28, 29, 30, 31, 60] → r ∉ [40, 41, 42, 43, 45] ∧ r ∉ [33, 35, 36, 37, 38] ∧ r ∉ [53, 54, 55] ∧ r ≠ 57 ∧ r ≠ 63 ∧ r ≠ 64 := by decide
  have m2 : (60 : Nat) ∉ [23, 24, 25, 26, 27, 28, 29, 30, 31] := by decide
  obtain ⟨t1, t2, t3, t4, t5, t6⟩ := m1 r hr
  refine ⟨rfl, fun r' i' hr' h1 h2 => ?_, fun r' i' hr' _ => wa_rne (fun z => t1 (z ▸ hr')), fun r' i' hr' _ => wa_rne (fun z => t2 (z ▸ hr')), fun r' i' hr' _ => wa_rne (fun z => t3 (z ▸ hr')), fun i' _ => wa_rne (fun z => t4 z.symm), ⟨?_, ?_⟩, ?_, fun z => z, fun z => z⟩
  · by_cases z : r' = r
    · rcases hi with hi | hi | hi
      · exact wa_ne (by omega)
      · exact wa_ne (by omega)
      · rw [z, hi] at hr'; exact absurd hr' m2
    · exact wa_rne z
  · unfold hlo; rw [wa_rne (fun z => t5 z.symm)]; exact Nat.le_refl _
  · rw [wa_rne (fun z => t6 z.symm)]; exact Int.le_refl _
  · simp only [F_wa]; omega
theorem EQX_trn {R0 : Nat} {y : Int} {M : Nat → Nat} (t : TRN σ wt 0 (wa v 28 R0 y) x (mks v)) (hR : R0 < n0) (hc : F v 32 ≤ F x 32 ∧ F v 46 ≤ F x 46 ∧ F v 39 ≤ F x 39 ∧ F v 56 ≤ F x 56 ∧ F v 58 ≤ F x 58) (h0 : 0 ≤ F v 32) (z1 : F x 72 = 0 → F v 72 = 0) (z2 : F x 66 = 0 → F v 66 = 0) : EQX σ n0 v x := by
  obtain ⟨a1, ⟨a2, a3, a4, a5, a6⟩, a7, -⟩ := t
  have m0 : mks v 0 = (F v 32).toNat := rfl
  have m1 : mks v 1 = (F v 46).toNat := rfl
  have m2 : mks v 2 = (F v 39).toNat := rfl
  have m3 : mks v 3 = (F v 56).toNat := rfl
  have m4 : mks v 4 = (F v 58).toNat := rfl
  have n3 : ∀ r, r ∈ [40, 41, 42, 43, 45] → r ≠ 28 := by decide
  have n4 : ∀ r, r ∈ [33, 35, 36, 37, 38] → r ≠ 28 := by decide
  have n5 : ∀ r, r ∈ [53, 54, 55] → r ≠ 28 := by decide
  have h63 : hlo σ (wa v 28 R0 y) = hlo σ v := by unfold hlo; rw [wa_rne (by decide)]
  have h64 : A (wa v 28 R0 y) 64 σ = A v 64 σ := wa_rne (by decide)
  rw [h63, h64] at a7
  exact ⟨a1, fun r i hr h1 h2 => (a2 r i hr (by omega)).trans (wa_ne (by omega)), fun r i hr h2 => (a3 r i hr (by omega)).trans (wa_rne (n3 r hr)), fun r i hr h2 => (a4 r i hr (by omega)).trans (wa_rne (n4 r hr)), fun r i hr h2 => (a5 r i hr (by omega)).trans (wa_rne (n5 r hr)), fun i h2 => (a6 i (by omega)).trans (wa_rne (by decide)), a7, hc, z1, z2⟩
theorem SEQ_eqx {g q q2 m m2 lo mm XX Y sh : Nat} {a b : Nat → Nat} {R : Nat → Prop} (s : SEQ V SN g a b q q2 m m2 lo mm XX Y sh R) (e : EQX σ n0 V X) (ha : n0 ≤ a 0) (hb : ∀ i, b i ≤ mks V i) : SEQ X SN g a b q q2 m m2 lo mm XX Y sh R := by
  obtain ⟨a1, a2, a3, a4, a5, a6, -⟩ := e
  have m0 : mks V 0 = (F V 32).toNat := rfl
  have m1 : mks V 1 = (F V 46).toNat := rfl
  have m2 : mks V 2 = (F V 39).toNat := rfl
  have m3 : mks V 3 = (F V 56).toNat := rfl
  have m4 : mks V 4 = (F V 58).toNat := rfl
  have b0 := hb 0
  have b1 := hb 1
  have b2 := hb 2
  have b3 := hb 3
  have b4 := hb 4
  have n1 : ∀ r, r ∈ [23, 24, 25, 26, 27, 31] → r ∈ [23, 24, 25, 26, 27, 28, 29, 30, 31] := by decide
  have n2 : ∀ r, r ∈ [28, 29, 30] → r ∈ [23, 24, 25, 26, 27, 28, 29, 30, 31] := by decide
  exact SEQ_st s ⟨a1, fun r i hr h1 h2 => a2 r i (n1 r hr) (by omega) (by omega), fun r i hr _ h2 => a3 r i hr (by omega), fun r i hr h2 => a4 r i hr (by omega), fun r i hr _ h2 => a5 r i hr (by omega), fun i h2 => a6 i (by omega)⟩ (fun r i hr h1 h2 _ => a2 r i (n2 r hr) (by omega) (by omega))
theorem CHD_eqx {many m mm XX Y sh k : Nat} {μ : Nat → Nat → Nat} {r : Nat → Nat} {ret : Bool} {root : Int} (s : CHD V SN ret root k μ r many m mm XX Y sh) (e : EQX σ n0 V X) (ha : n0 ≤ μ 0 0) (hb : ∀ i, μ k i ≤ mks V i) : CHD X SN ret root k μ r many m mm XX Y sh := by
  obtain ⟨a1, a2, a3, a4, a5, a6, -⟩ := e
  have m0 : mks V 0 = (F V 32).toNat := rfl
  have m1 : mks V 1 = (F V 46).toNat := rfl
  have m2 : mks V 2 = (F V 39).toNat := rfl
  have m3 : mks V 3 = (F V 56).toNat := rfl
  have m4 : mks V 4 = (F V 58).toNat := rfl
  have le : ∀ j t, j ≤ k → μ 0 t ≤ μ j t ∧ μ j t ≤ mks V t := fun j t hj => by
    have q1 := CHD_le s j 0 (by omega) t
    have q2 := CHD_le s (k - j) j (by omega) t
    rw [Nat.zero_add] at q1
    rw [show j + (k - j) = k by omega] at q2
    exact ⟨q1, Nat.le_trans q2 (hb t)⟩
  refine ⟨fun j hj => ?_, fun j hj => ?_, fun y => ?_⟩
  · have b0 := le (j + 1) 0 (by omega)
    have b1 := le (j + 1) 1 (by omega)
    have b2 := le (j + 1) 2 (by omega)
    have b3 := le (j + 1) 3 (by omega)
    have b4 := le (j + 1) 4 (by omega)
    have c0 := le j 0 (by omega)
    exact PTD_ag (s.1 j hj) ⟨a1, fun r i hr h1 h2 _ => a2 r i hr (by omega) (by omega), fun r i hr _ h2 _ => a3 r i hr (by omega), fun r i hr h2 => a4 r i hr (by omega), fun r i hr _ h2 => a5 r i hr (by omega), fun i h2 => a6 i (by omega)⟩
  · have b1 := le (j + 1) 1 (by omega)
    have pl := (PTD_le (s.1 j (by omega))).2.2.1
    rw [a3 45 _ (by decide) (by omega)]
    exact s.2.1 j hj
  · have b1 := le k 1 (by omega)
    have pl := (PTD_le (s.1 (k - 1) (by omega))).2.2.1
    rw [show k - 1 + 1 = k by omega] at pl
    rw [a3 45 _ (by decide) (by omega)]
    exact s.2.2 y
theorem RLS_eqx {many m mm XX Y sh k : Nat} {μ : Nat → Nat → Nat} {r : Nat → Nat} {ret : Bool} {root : Int} (s : CHD V SN ret root k μ r many m mm XX Y sh) (l : RLS V k r) (e : EQX σ n0 V X) (ha : n0 ≤ μ 0 0) (hb : ∀ i, μ k i ≤ mks V i) : RLS X k r := fun j hj => by
  have m0 : mks V 0 = (F V 32).toNat := rfl
  have := CHD_r s hj
  have := hb 0
  rw [e.2.1 29 (r j) (by decide) (by omega) (by omega)]
  exact l j hj
end
end
section
def RHT (TN SN σ R0 : Nat) (o xb : Int) (c : Int) (u V : MS) (k : Nat) : Prop := F V 72 = 0 → F V 66 = 0 → TN ≤ 1500 → ∃ (μ : Nat → Nat → Nat) (r : Nat → Nat) (a1 : Nat → Nat) (mm X Y : Nat), CHD V SN false ((R0 + 1 : Nat) : Int) k μ r 1 (nmo σ u) mm X Y (hlo σ V) ∧ (ONE (mks u) a1 R0 ∧ ONE a1 (μ 0) (R0 + 1) ∧ μ k = mks V ∧ μ 0 1 = c.toNat) ∧ RLS V k r ∧ (0 < k → A V 28 (R0 + 1) = ((r (k - 1) : Nat) : Int)) ∧ (mm ≤ 40 ∧ nmo σ u ≤ mm) ∧ (mm : Int) ≤ A V 64 σ ∧ (2 * (X : Int) ≤ xb ∧ 1 ≤ X) ∧ (Y : Int) + o ≤ 25
def RHV (u0 : MS) (TN SN : Nat) (bw : Nat → Nat) (σ j : Nat) (p o n q c f h s wt : Int) (u V : MS) (k : Nat) (p1 n1 q1 c1 f1 h1 : Int) : Prop := F V 67 = 0 ∧ ST u0 σ p1 o n1 q1 c1 f1 h1 s wt 0 V ∧ KPR σ u V ∧ (p1 ≤ TN ∧ (j : Int) = n) ∧ DLT bw 0 0 0 p (n + 2) q c f h p1 n1 q1 c1 f1 h1 ∧ RTL V o (n + 2) (j + 1) ∧ (A V 60 σ = A u 60 σ ∧ 0 ≤ A u 60 σ) ∧ (KND V j 26 ∧ (A V 23 (j + 1) = 27 ∧ 0 ≤ A V 24 (j + 1) ∧ A V 24 (j + 1) < 4002 ∧ A V 29 (j + 1) = -1) ∧ A V 27 (j + 1) = A u 60 σ ∧ A V 31 (j + 1) = -1) ∧ ((k = 0 ∧ A V 25 (j + 1) = -1 ∧ A V 28 (j + 1) = -1) ∨ (0 < k ∧ A V 25 (j + 1) = c ∧ n1 - (n + 2) + 3 ≤ 3 * (p1 - p) ∧ p + 3 ≤ p1)) ∧ RHT TN SN σ j o (p1 - p + 2) c u V k
section
variable {Q : MS → Int32 → Prop} {u0 u v w x V : MS} {N σ TN SN e j k : Nat} {bw : Nat → Nat} {p o n q c f h s wt g D d B l z t p1 n1 q1 c1 f1 h1 : Int} {r v2 v3 v4 : Int32} {S : SG_M_behind}
theorem r98_F (hT : TN ≤ 4000) (hD : D ≤ 3000) (hs : FSM u0 TN σ D V) (hj : j + 1 < 16000) : OK (fun x _ => FSM u0 TN σ (D + 1) x) (fb_M_receive_98 N S () V v2 (I j) (I ((j + 1 : Nat) : Int))) := by
  unfold fb_M_receive_98
  refine k_takeWord (s := 0) rfl ⟨by decide, by decide⟩ (FSM_p hs hT) (fun z _ => absurd z hs.2.1) (fun _ => ?_)
  rw [br00]
  refine k_needWord (s := 6) rfl ⟨by decide, by decide⟩ (FSM_p hs hT) (fun z _ => absurd z hs.2.1) (fun v2 h3 h4 => ?_)
  have s3 := FSM_67 hs h3 h4
  refine k_in (k := 25) (n := 16000) rfl (by decide) (by omega) (ok_lt.mpr ?_)
  rw [wa_e]
  exact join_F hT hD (FSM_wa s3 (by decide)) hj
theorem ONE_jn (hj : JNV u x e) (h0 : 0 ≤ F u 32) : ONE (mks u) (mks x) (F u 32).toNat := by
  obtain ⟨j1, j2, -⟩ := hj
  have xF : ∀ t, t ≠ 32 → F x t = F u t := fun t h1 => j1.F (by simpa using h1)
  refine ⟨rfl, ?_, ?_, ?_, fun i => ?_⟩
  · show (F x 32).toNat = _; omega
  · show (F x 46).toNat = (F u 46).toNat; rw [xF 46 (by decide)]
  · show (F x 56).toNat = (F u 56).toNat; rw [xF 56 (by decide)]
  · unfold mks
    split
    · omega
    · split
      · rw [xF 46 (by decide)]; exact Nat.le_refl _
      · split
        · rw [xF 39 (by decide)]; exact Nat.le_refl _
        · split
          · rw [xF 56 (by decide)]; exact Nat.le_refl _
          · rw [xF 58 (by decide)]; exact Nat.le_refl _
theorem EQX_jn {n0 : Nat} (hj : JNV u x e) (he : e < n0) (h0 : 0 ≤ F u 32) : EQX σ n0 u x := by
  obtain ⟨j1, j2, -, -, j8⟩ := hj
  have xF : ∀ t, t ≠ 32 → F x t = F u t := fun t h1 => j1.F (by simpa using h1)
  have m9 : ∀ t, t ∈ [40, 41, 42, 43, 45] → t ∉ [23, 24, 25, 26, 27, 28, 29, 30, 31] := by decide
  have m10 : ∀ t, t ∈ [33, 35, 36, 37, 38] → t ∉ [23, 24, 25, 26, 27, 28, 29, 30, 31] := by decide
  have m11 : ∀ t, t ∈ [53, 54, 55] → t ∉ [23, 24, 25, 26, 27, 28, 29, 30, 31] := by decide
  refine ⟨xF 14 (by decide), fun r i _ h1 h2 => j8 r i (by omega) (fun _ => by omega), fun r i hr _ => j1.A (m9 r hr), fun r i hr _ => j1.A (m10 r hr), fun r i hr _ => j1.A (m11 r hr), fun i _ => j1.A (by decide), ⟨?_, ?_⟩, ?_, fun z => by rw [← xF 72 (by decide)]; exact z, fun z => by rw [← xF 66 (by decide)]; exact z⟩
  · unfold hlo; rw [j1.A (by decide)]; exact Nat.le_refl _
  · rw [j1.A (by decide)]; exact Int.le_refl _
  · rw [xF 46 (by decide), xF 39 (by decide), xF 56 (by decide), xF 58 (by decide)]; omega
set_option maxRecDepth 100000 in
theorem recv0_ok (tk : TKW u0 TN SN bw) (hD : 0 ≤ D ∧ D ≤ 2900) (ho : 0 ≤ o ∧ o ≤ 25) (hm : NM TN bw 0 0 0 σ p o (n + 2) q c f h s wt) (hu : F u 32 = n ∧ 0 ≤ n) (hv : RHV u0 TN SN bw σ j p o n q c f h s wt u V k p1 n1 q1 c1 f1 h1) (hk : 0 < k) : OK (fun x r => CHQ u0 TN SN bw σ 0 p o n q c f h s wt u x r ∨ FSM u0 TN σ (D + 2) x) (bnd (fm_M_needWord N V 6) (fun u5 _ => ck (inb (I j) (ln 25)) (lt (upA u5 25 (upd (u5.2.2.1 25) (I j).toNatClampNeg (I ((j + 1 : Nat) : Int)))) (fun w6 => fb_M_receive_237 N S () w6 (I ((j + 1 : Nat) : Int)))))) := by
  have hT := tk.1.1
  obtain ⟨b0, b1, b2, ⟨b3, bj⟩, b4, b5, ⟨b6, b60⟩, ⟨b7, b8, b9, b10⟩, b11, b12⟩ := hv
  have b13 : A V 25 (j + 1) = c ∧ n1 - (n + 2) + 3 ≤ 3 * (p1 - p) ∧ p + 3 ≤ p1 := by
    rcases b11 with z | z
    · omega
    · exact z.2
  clear b11
  have nm1 := NM_dlt tk hm b4 (by omega) (by omega) b3
  have fs1 := NM_fs nm1 (by omega)
  have hc : 0 ≤ c := by unfold NM at hm; omega
  have e69 : F V 69 = p1 := b1.2.1.1
  have e32 : F V 32 = n1 := b1.2.1.2.2.1
  have hn1 : n + 2 ≤ n1 ∧ p ≤ p1 := by unfold DLT at b4; omega
  refine k_needWord (s := 6) rfl ⟨by decide, by decide⟩ (by omega) (fun _ z => ?_) (fun v2 h3 h4 => ?_)
  · have z2 := ST_IW b1 z
    have ltp := tok_lt tk (by omega) (show ¬ (A u0 6 (p1).toNat = 0 ∨ A u0 6 (p1).toNat = 7) by omega)
    have dn := DLT_1 (n := n1) (q := q1) (c := c1) (f := f1) (h := h1) (m := 0) tk ⟨by omega, ltp⟩ (by omega)
    rw [show n1 + 0 = n1 by omega] at dn
    have s2 := ST_nx b1 (by omega)
    have kc : KPR σ V (nx1 V) := KPR_w0 KPR_rf (by decide)
    refine k_in (k := 25) (n := 16000) rfl (by decide) (by omega) (ok_lt.mpr ?_)
    rw [I_tn (x := (j : Int)) (by omega) (by omega), wa_e, show ((j : Nat) : Int).toNat = j by omega]
    have s3 : ST u0 σ (p1 + 1) o n1 q1 c1 f1 h1 s wt 0 (wa (nx1 V) 25 j ((j + 1 : Nat) : Int)) := ST_wa25 s2 (by
      show A V 23 j ≠ 12
      rw [b7.1]; decide)
    have k3 : KPR σ u (wa (nx1 V) 25 j ((j + 1 : Nat) : Int)) := KPR_wn (KPR_tr b2 kc) (by decide) (by omega)
    have eq3 : EQX σ (j + 2) V (wa (nx1 V) 25 j ((j + 1 : Nat) : Int)) := EQX_tr (EQX_kp kc) (EQX_wa (by decide) (Or.inl (by omega)))
    have g3 : ∀ r i, (r = 25 → i ≠ j) → A (wa (nx1 V) 25 j ((j + 1 : Nat) : Int)) r i = A V r i := fun r i hr => by
      by_cases z : r = 25
      · rw [wa_ne (hr z)]; rfl
      · rw [wa_rne z]; rfl
    have g25 : A (wa (nx1 V) 25 j ((j + 1 : Nat) : Int)) 25 j = ((j + 1 : Nat) : Int) := wa_eq ⟨by omega, by omega⟩
    have f3 : ∀ t, t ≠ 69 → F (wa (nx1 V) 25 j ((j + 1 : Nat) : Int)) t = F V t := fun t ht => by rw [F_wa]; exact wi_ne ht
    have mk3 : mks (wa (nx1 V) 25 j ((j + 1 : Nat) : Int)) = mks V := mks_c (fun t ht => f3 t (by
      have : ∀ t, t ∈ [32, 39, 46, 56, 58] → t ≠ 69 := by decide
      exact this t ht))
    generalize wa (nx1 V) 25 j ((j + 1 : Nat) : Int) = W at *
    have e69w : F W 69 = p1 + 1 := s3.2.1.1
    have e32w : F W 32 = n1 := s3.2.1.2.2.1
    refine join_ok (u := W) (R0 := j + 1) (by omega) (by omega) (by omega) (fun v2 hv2 => Or.inl ?_)
    have sx := ST_jn s3 (by omega) (by omega) hv2
    have kx := KPR_jn k3 (by omega) hv2
    have jn := JNV_of (R0 := j + 1) (by omega) (by omega) hv2
    generalize wa v2 28 (F W 32).toNat (A W 28 (j + 1)) = X at *
    have eqx : EQX σ (j + 2) V X := EQX_tr eq3 (EQX_jn jn (by omega) (by omega))
    have on2 := ONE_jn jn (by omega)
    obtain ⟨j1, j2, ⟨j3, j4, j5, j6⟩, j7, j8⟩ := jn
    rw [e32w] at j2 j3 j4 j5 j6 j7 j8 on2
    rw [e32w]
    have xo : ∀ r i, r ∉ [23, 24, 25, 26, 27, 28, 29, 30, 31] → A X r i = A V r i := fun r i hr => by
      have h25 : r ≠ 25 := fun z => hr (by rw [z]; decide)
      rw [j1.A hr, g3 r i (fun z => absurd z h25)]
    have x28 : A X 28 n1.toNat = A V 28 (j + 1) := by rw [j5, g3 28 _ (fun z => by omega)]
    have xF : ∀ t, t ≠ 32 → t ≠ 69 → F X t = F V t := fun t h1 h2 => (j1.F (by simpa using h1)).trans (f3 t h2)
    have a29x : ∀ i : Nat, i < n1.toNat → A X 29 i = A V 29 i := fun i hi => by rw [j8 29 i (by omega) (fun z => by omega), g3 29 i (fun z => by omega)]
    have rt : RTD X (26 - o).toNat n.toNat n1.toNat := RTD_dn (a := (n + 2).toNat) (by omega) _ _ (RTL_join b5 ⟨by omega, by omega, e32⟩ ho.2 x28 (fun r i hr h1 h2 => by
      rw [j8 r i (by omega) (fun _ => by omega), g3 r i (fun _ => by omega)]) a29x)
    refine ⟨(xF 67 (by decide) (by decide)).trans b0, p1 + 1, n1 + 1, q1, c1, f1, h1, n1.toNat, by rw [show ((n1.toNat : Nat) : Int) = n1 by omega], sx, kx, ⟨by omega, by omega, ?_⟩, ?_, ⟨by omega, by omega, rt, j6⟩, (xo 60 σ (by decide)).trans b6, fun y1 y2 y3 => ?_⟩
    · exact nu_wd (Or.inl z2.1) (by omega)
    · unfold DLT at b4 dn ⊢; omega
    · obtain ⟨μ, rr, a1, mm, X1, Y, ch, ⟨o1, o2, mk, m1⟩, rl, lk, g1, g2, g4, g5⟩ := b12 (by rw [← xF 72 (by decide) (by decide)]; exact y1) (by rw [← xF 66 (by decide) (by decide)]; exact y2) y3
      have m00 : μ 0 0 = j + 2 := o2.2.1
      have chx := CHD_eqx ch eqx (by omega) (fun i => by rw [mk]; exact Nat.le_refl _)
      have rlx := RLS_eqx ch rl eqx (by omega) (fun i => by rw [mk]; exact Nat.le_refl _)
      have mk0 : μ k 0 = n1.toNat := by rw [mk]; show (F V 32).toNat = _; rw [e32]
      have hlx : hlo σ X = hlo σ V := by unfold hlo; rw [xo 63 σ (by decide)]
      have a4 : ∀ r i, r ≠ 25 → r ≠ 26 → i < n1.toNat → A X r i = A V r i := fun r i h1 h2 h3 => by rw [j8 r i (by omega) (fun z => absurd z h2), g3 r i (fun z => absurd z h1)]
      have kjx : KND X j 26 := by
        unfold KND at b7 ⊢
        rw [a4 23 j (by decide) (by decide) (by omega), a4 24 j (by decide) (by decide) (by omega), a4 28 j (by decide) (by decide) (by omega), a4 29 j (by decide) (by decide) (by omega)]
        exact b7
      have lk' := lk hk
      have nmu : A u 60 σ = ((nmo σ u : Nat) : Int) := by unfold nmo; omega
      have on2' : ONE (μ k) (mks X) (μ k 0) := by rw [mk0, mk, ← mk3]; exact on2
      have sq := SEQ_recv0 (w := X) (n := j + 1) (a := mks u) (z := mks X) (lo := nmo σ u) o1 o2 chx hk on2' kjx (by rw [j8 25 j (by omega) (fun z => by omega)]; exact g25) (by
        rw [a4 23 _ (by decide) (by decide) (by omega), a4 24 _ (by decide) (by decide) (by omega), a4 29 _ (by decide) (by decide) (by omega)]
        exact b8) (by rw [j8 25 _ (by omega) (fun z => by omega), g3 25 _ (fun _ => by omega), m1]; omega) (by rw [j7, mk0]; omega) (by rw [a4 27 _ (by decide) (by decide) (by omega), b9]; exact nmu) (by rw [a4 31 _ (by decide) (by decide) (by omega)]; exact b10) (by rw [a4 28 _ (by decide) (by decide) (by omega)]; exact lk') (by rw [mk0]; exact ⟨j3, by omega, by omega, j6⟩) (by rw [mk0, x28]; exact lk') rlx (Nat.le_refl _)
      rw [mk0] at sq
      refine ⟨mm, X1, Y, ?_, g1.1, ?_, by omega, g5⟩
      · rw [hlx]; exact sq
      · rw [xo 64 σ (by decide)]; exact g2
  · have s3 : FSM u0 TN σ D v2 := FSM_of (ST_67 b1 h3) (by omega) (by omega) fs1.1 h4
    refine k_in (k := 25) (n := 16000) rfl (by decide) (by omega) (ok_lt.mpr ?_)
    rw [wa_e]
    exact ok_mono (join_F (N := N) (S := S) (R0 := j + 1) hT (by omega) (FSM_wa s3 (by decide)) (by omega)) (fun x t hx => Or.inr (FSM_mo hx (by omega)))
end
end
section
def rcB (N : Nat) (S : SG_M_behind) (v2 v4 r9 : Int32) (u14 : MS) : Option (MS × Int32) := ck (inb r9 (ln 26)) (lt (upA u14 26 (upd (u14.2.2.1 26) r9.toNatClampNeg (u14.1 32))) (fun w15 => ck (inb r9 (ln 28)) (lt (upA w15 28 (upd (w15.2.2.1 28) r9.toNatClampNeg (-1))) (fun w16 => bnd (S.2.2.2.2.1 w16) (fun u17 r17 => bnd (fm_M_addRoot N u17 v4 r17) (fun u18 _ => bnd (fm_M_unbind N u18 v2) (fun u19 _ => bnd (fm_M_needWord N u19 6) (fun u20 _ => fb_M_receive_237 N S () u20 (v4)))))))))
def rcA (N : Nat) (S : SG_M_behind) (v2 v4 r9 : Int32) (u9 : MS) : Option (MS × Int32) := ck (inb r9 (ln 25)) (lt (upA u9 25 (upd (u9.2.2.1 25) r9.toNatClampNeg v4)) (fun w10 => ck (inb r9 (ln 27)) (lt (upA w10 27 (upd (w10.2.2.1 27) r9.toNatClampNeg v2)) (fun w11 => ck (inb (w11.1 65) (ln 60)) (lt (upA w11 60 (upd (w11.2.2.1 60) (w11.1 65).toNatClampNeg v2)) (fun w12 => ck (inb v4 (ln 31)) (lt (upA w12 31 (upd (w12.2.2.1 31) v4.toNatClampNeg r9)) (fun w13 => bnd (fm_M_needSign N w13 10) (fun u14 _ => rcB N S v2 v4 r9 u14)))))))))
section
variable {Q : MS → Int32 → Prop} {u0 u v w x V X : MS} {N σ TN SN e j k n0 R0 : Nat} {bw : Nat → Nat} {p o n q c f h s wt g D d B l z t p1 n1 q1 c1 f1 h1 a : Int} {r v2 v3 v4 : Int32} {S : SG_M_behind}
theorem rcB_F (hT : TN ≤ 4000) (hD : D ≤ 2990) (hσ : σ ≤ 26) (hbn : XNO S.2.2.2.2.1) (hs : FSM u0 TN σ D v) (hj : R0 < 16000) (ha : 0 ≤ a ∧ a < 16000) : OK (fun x _ => FSM u0 TN σ (D + 2) x) (rcB N S v2 (I R0) (I a) v) := by
  unfold rcB
  refine k_in (k := 26) (n := 16000) rfl (by decide) (by omega) (ok_lt.mpr (k_in (k := 28) (n := 16000) rfl (by decide) (by omega) (ok_lt.mpr ?_)))
  have z1 : ∀ (w : MS) (k i : Nat), upA w k (upd (w.2.2.1 k) i (-1)) = wa w k i (-1) := fun _ _ _ => rfl
  rw [I_F (k := 32), wa_e, z1]
  have s4 : FSM u0 TN σ D (wa (wa v 26 (I a).toNatClampNeg (F v 32)) 28 (I a).toNatClampNeg (-1)) := FSM_wa (FSM_wa hs (by decide)) (by decide)
  rw [hbn _ s4.2.1, bnd_so]
  refine addRoot_F (FEQ_none s4) (by omega) (by omega) (fun x1 hx1 => unbind_F hx1 hT (by omega) hσ (fun x hx => ?_))
  refine k_needWord (s := 6) rfl ⟨by decide, by decide⟩ (FSM_p hx hT) (fun z _ => absurd z hx.2.1) (fun v2 h3 h4 => ?_)
  have s5 := FSM_67 hx h3 h4
  exact ok_mono (join_F hT (by omega) s5 hj) (fun x _ hx => FSM_mo hx (by omega))
theorem rcA_F (hT : TN ≤ 4000) (hD : D ≤ 2990) (hσ : σ ≤ 26) (hbn : XNO S.2.2.2.2.1) (hs : FSM u0 TN σ D v) (hj : R0 < 16000) (ha : 0 ≤ a ∧ a < 16000) : OK (fun x _ => FSM u0 TN σ (D + 2) x) (rcA N S v2 (I R0) (I a) v) := by
  unfold rcA
  refine k_in (k := 25) (n := 16000) rfl (by decide) (by omega) (ok_lt.mpr (k_in (k := 27) (n := 16000) rfl (by decide) (by omega) (ok_lt.mpr ?_)))
  rw [I_of v2, wa_e, wa_e]
  have s1 : FSM u0 TN σ D (wa (wa v 25 (I a).toNatClampNeg R0) 27 (I a).toNatClampNeg v2.toInt) := FSM_wa (FSM_wa hs (by decide)) (by decide)
  have e65 : F (wa (wa v 25 (I a).toNatClampNeg R0) 27 (I a).toNatClampNeg v2.toInt) 65 = σ := s1.2.2.2.1
  refine k_at (k := 60) (n := 27) rfl (by decide) (by omega) (ok_lt.mpr (k_in (k := 31) (n := 16000) rfl (by decide) (by omega) (ok_lt.mpr ?_)))
  rw [wa_e, wa_e]
  have s2 : FSM u0 TN σ D (wa (wa (wa (wa v 25 (I a).toNatClampNeg R0) 27 (I a).toNatClampNeg v2.toInt) 60 ((wa (wa v 25 (I a).toNatClampNeg R0) 27 (I a).toNatClampNeg v2.toInt).1 65).toNatClampNeg v2.toInt) 31 (I R0).toNatClampNeg a) := FSM_wa (FSM_wa s1 (by decide)) (by decide)
  refine k_needSign (s := 10) rfl ⟨by decide, by decide⟩ (FSM_p s2 hT) (fun z _ => absurd z s2.2.1) (fun v3 h3 h4 => ?_)
  exact rcB_F hT hD hσ hbn (FSM_67 s2 h3 h4) hj ha
theorem EQX_w2 {r i : Nat} {y : Int} (e : EQX σ n0 v w) (hr : r ∈ [23, 24, 25, 26, 27, 28, 29, 30, 31]) (hi : i < n0 ∨ F v 32 ≤ i) : EQX σ n0 v (wa w r i y) := by
  obtain ⟨a1, a2, a3, a4, a5, a6, a7, a8, a9, a10⟩ := e
  have m1 : ∀ r, r ∈ [23, 24, 25, 26, 27, 28, 29, 30, 31] → r ∉ [40, 41, 42, 43, 45] ∧ r ∉ [33, 35, 36, 37, 38] ∧ r ∉ [53, 54, 55] ∧ r ≠ 57 ∧ r ≠ 63 ∧ r ≠ 64 := by decide
  obtain ⟨t1, t2, t3, t4, t5, t6⟩ := m1 r hr
  refine ⟨a1, fun r' i' hr' h1 h2 => ?_, fun r' i' hr' h2 => (wa_rne (fun z : r' = r => t1 (z ▸ hr'))).trans (a3 r' i' hr' h2), fun r' i' hr' h2 => (wa_rne (fun z : r' = r => t2 (z ▸ hr'))).trans (a4 r' i' hr' h2), fun r' i' hr' h2 => (wa_rne (fun z : r' = r => t3 (z ▸ hr'))).trans (a5 r' i' hr' h2), fun i' h2 => (wa_rne (fun z => t4 z.symm)).trans (a6 i' h2), ⟨?_, ?_⟩, ?_, a9, a10⟩
  · exact (wa_ne (by omega)).trans (a2 r' i' hr' h1 h2)
  · refine Nat.le_trans a7.1 ?_; unfold hlo; rw [wa_rne (fun z => t5 z.symm)]; exact Nat.le_refl _
  · rw [wa_rne (fun z => t6 z.symm)]; exact a7.2
  · simp only [F_wa]; exact a8
theorem CHL_ag2 : ∀ (l : List Nat) (b : Nat) (x : Int), CHL v b x l → (∀ r, r ∈ l → n0 ≤ r) → (∀ i, n0 ≤ i → i < b → A w 29 i = A v 29 i) → CHL w b x l ∧ ∀ r, r ∈ l → r < b := by
  intro l
  induction l with
  | nil => intro b x hl _ _; exact ⟨hl, fun r hr => by cases hr⟩
  | cons t l ih =>
    intro b x hl hn ha
    obtain ⟨h1, h2, h3⟩ := hl
    obtain ⟨i1, i2⟩ := ih t _ h3 (fun r hr => hn r (List.mem_cons_of_mem _ hr)) (fun i h1 hi => ha i h1 (by omega))
    have ht := hn t (List.mem_cons_self ..)
    refine ⟨⟨h1, h2, by rw [ha t ht h2]; exact i1⟩, fun r hr => ?_⟩
    rcases List.mem_cons.mp hr with z | z
    · omega
    · have := i2 r z; omega
theorem RTL_eqx (hv : RTL V o n R0) (e : EQX σ n.toNat V X) : ∃ l, CHL X (F V 32).toNat (A V 28 R0) l ∧ ∀ r, r ∈ l → RTD X (25 - o).toNat n.toNat r := by
  obtain ⟨l, c1, c2⟩ := hv
  obtain ⟨d1, d2⟩ := CHL_ag2 (w := X) (n0 := n.toNat) l _ _ c1 (fun r hr => RTD_a _ _ (c2 r hr)) (fun i h1 hi => e.2.1 29 i (by decide) h1 (by omega))
  have m2 : ∀ t, t ∈ [28, 29] → t ∈ [23, 24, 25, 26, 27, 28, 29, 30, 31] := by decide
  refine ⟨l, d1, fun r hr => ?_⟩
  have h1 := RTD_a _ _ (c2 r hr)
  have h2 := d2 r hr
  exact RTD_fr _ _ (c2 r hr) (e.2.1 28 r (by decide) h1 (by omega)) (fun t i ht h3 h4 => e.2.1 t i (m2 t ht) h3 (by omega))
end
end
