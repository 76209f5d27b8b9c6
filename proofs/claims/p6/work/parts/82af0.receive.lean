def XRC (u0 : MS) (TN SN : Nat) (bw : Nat → Nat) (D o : Int) (fn : MS → Int32 → Int32 → Option (MS × Int32)) : Prop := ∀ (u : MS) (σ : Nat) (p n q c f h s wt t : Int), ST u0 σ p o n q c f h s wt 0 u → F u 67 = 0 → NM TN bw 0 0 0 σ p o n q c f h s wt → LGS σ u → (2 * q + 1 ≤ p ∧ n + 2 ≤ 3 * p ∧ 0 ≤ t ∧ t < 4002) → OK (fun x r => CHQ u0 TN SN bw σ 0 p o n q c f h s wt u x r ∨ FSM u0 TN σ D x) (fn u (I t) (I (A u 60 σ)))
section
variable {Q : MS → Int32 → Prop} {u0 u v w x V X : MS} {N σ TN SN e j k n0 R0 : Nat} {bw : Nat → Nat} {p o n q c f h s wt g D d B l z t p1 n1 q1 c1 f1 h1 a : Int} {r v2 v3 v4 : Int32} {S : SG_M_behind}
theorem r98_ok (tk : TKW u0 TN SN bw) (hD : 0 ≤ D ∧ D ≤ 2900) (ho : 0 ≤ o ∧ o ≤ 25) (hx : XSP u0 TN SN bw D 3 0 0 0 o S.2.2.2.2.2.2.2.2.2.2.2.2.2.1) (hb : XSB u0 TN SN bw D o S.2.2.2.2.1) (hbn : XNO S.2.2.2.2.1) (hm : NM TN bw 0 0 0 σ p o (n + 2) q c f h s wt) (hu : F u 32 = n ∧ 0 ≤ n) (lu : LGS σ u) (hv : RHV u0 TN SN bw σ j p o n q c f h s wt u V k p1 n1 q1 c1 f1 h1) (hk : 0 < k ∨ IW V 0) : OK (fun x r => CHQ u0 TN SN bw σ 0 p o n q c f h s wt u x r ∨ FSM u0 TN σ (D + 4) x) (fb_M_receive_98 N S () V (I (A u 60 σ)) (I j) (I ((j + 1 : Nat) : Int))) := by
  have hT := tk.1.1
  have e69 : F V 69 = p1 := hv.2.1.2.1.1
  have f0 : F V 67 = 0 := hv.1
  have hp : 0 ≤ p1 ∧ p1 ≤ TN := ⟨by have := hv.2.2.2.2.1.1; have := hm.1; omega, hv.2.2.2.1.1⟩
  unfold fb_M_receive_98
  refine k_takeWord (s := 0) rfl ⟨by decide, by decide⟩ (by omega) (fun _ iw => ?_) (fun hn => ?_)
  · rw [br10]
    exact recv1_ok tk hD ho hx hb hbn hm hu lu hv iw
  · rw [br00]
    have hk2 : 0 < k := by
      rcases hk with y | y
      · exact y
      · rcases hn with z | z
        · exact absurd f0 z
        · exact absurd y z
    exact ok_mono (recv0_ok tk hD ho hm hu hv hk2) (fun x r hx => by
      rcases hx with y | y
      · exact Or.inl y
      · exact Or.inr (FSM_mo y (by omega)))
theorem r67_ok (tk : TKW u0 TN SN bw) (hD : 0 ≤ D ∧ D ≤ 2900) (ho : 0 ≤ o ∧ o ≤ 25) (hx : XSP u0 TN SN bw D 3 0 0 0 o S.2.2.2.2.2.2.2.2.2.2.2.2.2.1) (hb : XSB u0 TN SN bw D o S.2.2.2.2.1) (hbn : XNO S.2.2.2.2.1) (hm : NM TN bw 0 0 0 σ p o (n + 2) q c f h s wt) (hu : F u 32 = n ∧ 0 ≤ n) (lu : LGS σ u) (hv : RHV u0 TN SN bw σ j p o n q c f h s wt u V k p1 n1 q1 c1 f1 h1) : OK (fun x r => CHQ u0 TN SN bw σ 0 p o n q c f h s wt u x r ∨ FSM u0 TN σ (D + 4) x) (fb_M_receive_67 N S () V (I (A u 60 σ)) (I j) (I ((j + 1 : Nat) : Int))) := by
  have hT := tk.1.1
  have e69 : F V 69 = p1 := hv.2.1.2.1.1
  have f0 : F V 67 = 0 := hv.1
  have hp : 0 ≤ p1 ∧ p1 ≤ TN := ⟨by have := hv.2.2.2.2.1.1; have := hm.1; omega, hv.2.2.2.1.1⟩
  have nm1 := NM_dlt tk hm hv.2.2.2.2.1 (by omega) (by omega) hp.2
  have fs1 := NM_fs nm1 (by omega)
  have hj : (j : Int) = n := hv.2.2.2.1.2
  have jn : (j : Int) + 2 ≤ n1 := by have := hv.2.2.2.2.1.2.1; omega
  have hc : 0 ≤ c := by unfold NM at hm; omega
  unfold fb_M_receive_67
  refine k_F (y := 0) rfl ⟨by decide, by decide⟩ (fun _ => ?_) (fun z => absurd f0 z)
  refine k_in (k := 25) (n := 16000) rfl (by decide) (by omega) ?_
  refine k_A (y := -1) rfl ⟨by decide, by decide⟩ (fun z => ?_) (fun z => ?_)
  · refine k_isWord (s := 0) rfl ⟨by decide, by decide⟩ (by omega) (fun iw => r98_ok tk hD ho hx hb hbn hm hu lu hv (Or.inr iw)) (fun _ => ?_)
    refine k_wrong (s := 2) rfl ⟨by decide, by decide⟩ (by decide) (by omega) (fun v3 h1' h2' => ?_)
    have s3 : FSM u0 TN σ D v3 := FSM_of (ST_67 hv.2.1 h1') (by omega) (by omega) fs1.1 h2'
    exact ok_mono (r98_F (N := N) (j := j) hT (by omega) s3 (by omega)) (fun x t hx => Or.inr (FSM_mo hx (by omega)))
  · refine r98_ok tk hD ho hx hb hbn hm hu lu hv (Or.inl ?_)
    rw [I_tn (by omega) (by omega), show ((j + 1 : Nat) : Int).toNat = j + 1 by omega] at z
    rcases hv.2.2.2.2.2.2.2.2.1 with y | y
    · exact absurd y.2.1 z
    · exact y.1
theorem r67_F (hT : TN ≤ 4000) (hD : D ≤ 3000) (hs : FSM u0 TN σ D V) (hj : j + 1 < 16000) : OK (fun x _ => FSM u0 TN σ (D + 1) x) (fb_M_receive_67 N S () V v2 (I j) (I ((j + 1 : Nat) : Int))) := by
  unfold fb_M_receive_67
  exact k_F (y := 0) rfl ⟨by decide, by decide⟩ (fun z => absurd z hs.2.1) (fun _ => r98_F hT hD hs hj)
set_option maxRecDepth 100000 in
theorem receive_ok (tk : TKW u0 TN SN bw) (hD : 0 ≤ D ∧ D ≤ 2900) (ho : 0 ≤ o ∧ o ≤ 25) (hpt : XPT u0 TN SN bw D o S.2.2.1) (hx : XSP u0 TN SN bw D 3 0 0 0 o S.2.2.2.2.2.2.2.2.2.2.2.2.2.1) (hb : XSB u0 TN SN bw D o S.2.2.2.2.1) (hbn : XNO S.2.2.2.2.1) : XRC u0 TN SN bw (D + 10) o (fm_M_receive N S) := by
  intro u σ p n q c f h s wt t hs hf hm hl ⟨hq, hn3, ht⟩
  have hT := tk.1.1
  have fs := NM_fs hm (by omega)
  have e32 : F u 32 = n := hs.2.1.2.2.1
  have sc := (hs.2.2.2.1 σ (Nat.le_refl σ)).1
  have bad : ∀ (k : Int) w, k ≤ 10 → FSM u0 TN σ (D + k) w → FSM u0 TN σ (D + 10) w := fun k w hk hw => FSM_mo hw (by omega)
  have bad2 : ∀ {x r}, CHQ u0 TN SN bw σ 0 p o n q c f h s wt u x r ∨ FSM u0 TN σ (D + 4) x → CHQ u0 TN SN bw σ 0 p o n q c f h s wt u x r ∨ FSM u0 TN σ (D + 10) x := fun hx => by
    rcases hx with y | y
    · exact Or.inl y
    · exact Or.inr (FSM_mo y (by omega))
  have z1 : ∀ (w : MS) (k i : Nat), upA w k (upd (w.2.2.1 k) i (-1)) = wa w k i (-1) := fun _ _ _ => rfl
  unfold fm_M_receive fb_M_receive_0
  refine k_node (k := 26) (t := t) rfl (by decide) rfl ht (by omega) (fun u1 h1 => ?_)
  rw [e32]
  have nd1 := h1.1
  have s1 := ST_nd hs nd1 ht (by omega) (fun z => by omega)
  have e321 : F u1 32 = n + 1 := s1.2.1.2.2.1
  have k1 : KPR σ u u1 := KPR_nd KPR_rf nd1 (by omega)
  have nn1 : NEWN u1 n.toNat 26 := by
    have := NEWN_of h1 ht
    rw [e32] at this
    exact this
  have on1 : ONE (mks u) (mks u1) n.toNat := by
    have := ONE_nd nd1 (by omega)
    rw [e32] at this
    exact this
  refine k_node (k := 27) (t := t) rfl (by decide) rfl ht (by omega) (fun u2 h2 => ?_)
  rw [e321]
  have nd2 := h2.1
  have s2 := ST_nd s1 nd2 ht (by omega) (fun z => by omega)
  have k2 : KPR σ u u2 := KPR_nd k1 nd2 (by omega)
  have k12 : KPR σ u1 u2 := KPR_nd KPR_rf nd2 (by omega)
  have nn2 : NEWN u2 (n.toNat + 1) 27 := by
    have := NEWN_of h2 ht
    rw [e321, show (n + 1).toNat = n.toNat + 1 by omega] at this
    exact this
  have h25 : A u2 25 (n.toNat + 1) = -1 := by
    have := h2.2.1
    rw [e321, show (n + 1).toNat = n.toNat + 1 by omega] at this
    exact this
  have on2 : ONE (mks u1) (mks u2) (n.toNat + 1) := by
    have := ONE_nd nd2 (by omega)
    rw [e321, show (n + 1).toNat = n.toNat + 1 by omega] at this
    exact this
  refine k_in (k := 27) (n := 16000) rfl (by decide) (by omega) (ok_lt.mpr (k_in (k := 31) (n := 16000) rfl (by decide) (by omega) (ok_lt.mpr ?_)))
  have R0e : (I (n + 1) : Int32) = I ((n.toNat + 1 : Nat) : Int) := by rw [show ((n.toNat + 1 : Nat) : Int) = n + 1 by omega]
  have R0j : (I n : Int32) = I ((n.toNat : Nat) : Int) := by rw [show ((n.toNat : Nat) : Int) = n by omega]
  rw [R0e, R0j, I_tn (x := ((n.toNat + 1 : Nat) : Int)) (by omega) (by omega), show ((n.toNat + 1 : Nat) : Int).toNat = n.toNat + 1 by omega, wa_e, z1]
  have s3 : ST u0 σ p o (n + 1 + 1) q c f h s wt 0 (wa (wa u2 27 (n.toNat + 1) (A u 60 σ)) 31 (n.toNat + 1) (-1)) := ST_wa (ST_wa s2 (by decide)) (by decide)
  have k3 : KPR σ u (wa (wa u2 27 (n.toNat + 1) (A u 60 σ)) 31 (n.toNat + 1) (-1)) := KPR_wn (KPR_wn k2 (by decide) (by omega)) (by decide) (by omega)
  have g3 : ∀ r i, r ≠ 27 → r ≠ 31 → A (wa (wa u2 27 (n.toNat + 1) (A u 60 σ)) 31 (n.toNat + 1) (-1)) r i = A u2 r i := fun r i h1 h2 => by rw [wa_rne h2, wa_rne h1]
  have a27 : A (wa (wa u2 27 (n.toNat + 1) (A u 60 σ)) 31 (n.toNat + 1) (-1)) 27 (n.toNat + 1) = A u 60 σ := by rw [wa_rne (by decide)]; exact wa_eq (ARG1 u 60 σ)
  have a31 : A (wa (wa u2 27 (n.toNat + 1) (A u 60 σ)) 31 (n.toNat + 1) (-1)) 31 (n.toNat + 1) = -1 := wa_eq ⟨by decide, by decide⟩
  have f3 : ∀ t, t ≠ 32 → F (wa (wa u2 27 (n.toNat + 1) (A u 60 σ)) 31 (n.toNat + 1) (-1)) t = F u t := fun t ht => by
    rw [F_wa, F_wa, nd2.1.F (by simpa using ht), nd1.1.F (by simpa using ht)]
  have mk3 : mks (wa (wa u2 27 (n.toNat + 1) (A u 60 σ)) 31 (n.toNat + 1) (-1)) = mks u2 := mks_c (fun k _ => by rw [F_wa, F_wa])
  generalize wa (wa u2 27 (n.toNat + 1) (A u 60 σ)) 31 (n.toNat + 1) (-1) = W at *
  rw [show n + 1 + 1 = n + 2 by omega] at s3
  have nm3 : NM TN bw 0 0 0 σ p o (n + 2) q c f h s wt := by unfold NM at hm ⊢; omega
  have w60 : A W 60 σ = A u 60 σ := by rw [g3 60 σ (by decide) (by decide), nd2.1.A (by decide), nd1.1.A (by decide)]
  have l3 : LGS σ W := fun z => by rw [w60]; exact hl (by rw [← f3 66 (by decide)]; exact z)
  have w67 : F W 67 = 0 := (f3 67 (by decide)).trans hf
  have w69 : F W 69 = p := s3.2.1.1
  have w46 : F W 46 = c := s3.2.1.2.2.2.2.1
  have w32 : F W 32 = n + 2 := s3.2.1.2.2.1
  have kj3 : KND W n.toNat 26 := by
    have e : ∀ r, r ≠ 27 → r ≠ 31 → A W r n.toNat = A u1 r n.toNat := fun r h1 h2 => by rw [g3 r _ h1 h2, nd2.2.2.2.2 r n.toNat (by omega)]
    unfold KND
    rw [e 23 (by decide) (by decide), e 24 (by decide) (by decide), e 28 (by decide) (by decide), e 29 (by decide) (by decide)]
    exact ⟨nn1.1, nn1.2.1, nn1.2.2.1, nn1.2.2.2.1, nn1.2.2.2.2.1⟩
  have kn3 : A W 23 (n.toNat + 1) = 27 ∧ 0 ≤ A W 24 (n.toNat + 1) ∧ A W 24 (n.toNat + 1) < 4002 ∧ A W 29 (n.toNat + 1) = -1 := by
    rw [g3 23 _ (by decide) (by decide), g3 24 _ (by decide) (by decide), g3 29 _ (by decide) (by decide)]
    exact ⟨nn2.1, nn2.2.1, nn2.2.2.1, nn2.2.2.2.2.1⟩
  have w28 : A W 28 (n.toNat + 1) = -1 := by rw [g3 28 _ (by decide) (by decide)]; exact nn2.2.2.2.1
  have w25 : A W 25 (n.toNat + 1) = -1 := by rw [g3 25 _ (by decide) (by decide)]; exact h25
  have on2' : ONE (mks u1) (mks W) (n.toNat + 1) := by rw [mk3]; exact on2
  have v0 : RHV u0 TN SN bw σ n.toNat p o n q c f h s wt u W 0 p (n + 2) q c f h := by
    refine ⟨w67, s3, k3, ⟨by omega, by omega⟩, DLT_0, ⟨[], w28, fun r hr => by cases hr⟩, ⟨w60, sc.1⟩, ⟨kj3, kn3, a27, a31⟩, Or.inl ⟨rfl, w25, w28⟩, fun y1 y2 y3 => ?_⟩
    have lg := l3 y2
    have s64 := (s3.2.2.2.1 σ (Nat.le_refl σ)).1
    have hc : 0 ≤ c := by unfold NM at hm; omega
    refine ⟨fun _ => mks W, fun _ => 0, mks u1, nmo σ u, 1, 0, ⟨fun j hj => by omega, fun j hj => by omega, fun z => by omega⟩, ⟨on1, on2', rfl, ?_⟩, fun j hj => by omega, fun z => by omega, ⟨?_, Nat.le_refl _⟩, ?_, ⟨by omega, Nat.le_refl _⟩, by omega⟩
    · show (F W 46).toNat = _; rw [w46]
    · unfold nmo; omega
    · unfold nmo; omega
  refine k_isWord (s := 0) rfl ⟨by decide, by decide⟩ (by omega) (fun _ => ?_) (fun _ => ?_)
  · exact ok_mono (r67_ok tk hD ho hx hb hbn nm3 ⟨e32, by omega⟩ hl v0) (fun x r hx => bad2 hx)
  refine k_isWord (s := 6) rfl ⟨by decide, by decide⟩ (by omega) (fun _ => ?_) (fun _ => ?_)
  · exact ok_mono (r67_ok tk hD ho hx hb hbn nm3 ⟨e32, by omega⟩ hl v0) (fun x r hx => bad2 hx)
  refine ok_bnd.mpr (ok_mono (hpt W σ (n.toNat + 1) 1 p (n + 2) q c f h s wt 0 s3 w67 nm3 l3 ⟨hq, by omega, w28⟩ (Or.inl ⟨rfl, rfl⟩)) (fun v r hv => ?_))
  refine k_in (k := 25) (n := 16000) rfl (by decide) (by omega) (ok_lt.mpr ?_)
  rcases hv with ⟨hr, k, l, pv, hk, b0, nv, qv, cv, fv, hhv, b1, b2, b3, b4, b5, ⟨b6, -, b8⟩, b9⟩ | hv
  · have hcc : 0 ≤ c ∧ c ≤ 2000 := by unfold NM at hm; omega
    have rc : RG c := ⟨by omega, by omega⟩
    have hn1 : n + 2 ≤ nv := b4.2.1
    have e32v : F v 32 = nv := b1.2.1.2.2.1
    rw [hr, wa_e]
    have vr : ∀ r i, r ∈ [23, 24, 25, 26, 27, 28, 29, 30, 31] → i < n.toNat + 2 → r ≠ 28 → A v r i = A W r i := fun r i hr hi h28 => by
      rw [b2.2.1.1 r i hr (by rw [F_wa, w32]; omega), wa_rne h28]
    have vj28 : A v 28 n.toNat = A W 28 n.toNat := by rw [b2.2.1.1 28 n.toNat (by decide) (by rw [F_wa, w32]; omega), wa_ne (by omega)]
    have kv : KPR σ u v := KPR_tr (KPR_wn (x := A v 28 (n.toNat + 1)) k3 (r := 28) (i := n.toNat + 1) (by decide) (by omega)) b2
    have g4 : ∀ r i, r ≠ 25 → A (wa v 25 (n.toNat + 1) c) r i = A v r i := fun r i h => wa_rne h
    have eqv : EQX σ (n.toNat + 2) v (wa v 25 (n.toNat + 1) c) := EQX_wa (by decide) (Or.inl (by omega))
    have vR : RHV u0 TN SN bw σ n.toNat p o n q c f h s wt u (wa v 25 (n.toNat + 1) c) k pv nv qv cv fv hhv := by
      refine ⟨b0, ST_wa25 b1 (by rw [vr 23 _ (by decide) (by omega) (by decide), kn3.1]; decide), KPR_wn kv (by decide) (by omega), ⟨b3, by omega⟩, DLT_mo b4 (by omega) (by omega) (by omega), ?_, ⟨by rw [g4 60 σ (by decide)]; exact b6.trans w60, sc.1⟩, ⟨?_, ?_, ?_, ?_⟩, Or.inr ⟨hk, wa_eq rc, b4.2.2.1, (b8 hk).2.2.2⟩, fun y1 y2 y3 => ?_⟩
      · have en : (n + 2).toNat = n.toNat + 2 := by omega
        obtain ⟨l', r1, r2⟩ := RTL_eqx b5 (by rw [en]; exact eqv)
        refine ⟨l', ?_, r2⟩
        rw [F_wa, g4 28 _ (by decide)]
        exact r1
      · unfold KND at kj3 ⊢
        rw [g4 23 _ (by decide), g4 24 _ (by decide), g4 28 _ (by decide), g4 29 _ (by decide), vr 23 _ (by decide) (by omega) (by decide), vr 24 _ (by decide) (by omega) (by decide), vj28, vr 29 _ (by decide) (by omega) (by decide)]
        exact kj3
      · rw [g4 23 _ (by decide), g4 24 _ (by decide), g4 29 _ (by decide), vr 23 _ (by decide) (by omega) (by decide), vr 24 _ (by decide) (by omega) (by decide), vr 29 _ (by decide) (by omega) (by decide)]
        exact kn3
      · rw [g4 27 _ (by decide), vr 27 _ (by decide) (by omega) (by decide)]; exact a27
      · rw [g4 31 _ (by decide), vr 31 _ (by decide) (by omega) (by decide)]; exact a31
      · obtain ⟨μ, rr, mm, X1, Y, ch, ⟨m0, mk⟩, rl, lk, q1, q2, q3, q4⟩ := b9 y1 y2 y3
        have m00 : μ 0 0 = n.toNat + 2 := by rw [m0]; show (F W 32).toNat = _; omega
        have chx := CHD_eqx ch eqv (by omega) (fun i => by rw [mk]; exact Nat.le_refl _)
        have rlx := RLS_eqx ch rl eqv (by omega) (fun i => by rw [mk]; exact Nat.le_refl _)
        have pm := PTD_m (ch.1 0 hk)
        have nmu : (A W 60 σ).toNat = nmo σ u := by unfold nmo; rw [w60]
        rw [nmu] at chx pm
        have hlx : hlo σ (wa v 25 (n.toNat + 1) c) = hlo σ v := by unfold hlo; rw [g4 63 σ (by decide)]
        refine ⟨μ, rr, mks u1, mm, X1, Y, by rw [hlx]; exact chx, ⟨on1, by rw [m0]; exact on2', mk, ?_⟩, rlx, fun y => by rw [g4 28 _ (by decide)]; exact (lk y).1, ⟨q1, pm.1⟩, by rw [g4 64 σ (by decide)]; exact q2, ⟨by omega, pm.2⟩, q4⟩
        rw [m0]; show (F W 46).toNat = _; rw [w46]
    exact ok_mono (r67_ok tk hD ho hx hb hbn nm3 ⟨e32, by omega⟩ hl vR) (fun x r hx => bad2 hx)
  · rw [I_of r, wa_e]
    exact ok_mono (r67_F (N := N) (j := n.toNat) hT (by omega) (FSM_wa hv (by decide)) (by omega)) (fun x t hx => Or.inr (FSM_mo hx (by omega)))
end
